section
-- ===== PART A: goes FIRST, ahead of the names: the tables' words, and 'selects' of the private methods out of them =====
/-- a private method of a class that the tables say can be made, by its rows of tables_1 -/
def lw_okq (q : MethodName × Nat) : Prop := (q.1.cls ≠ "java/lang/invoke/MethodHandle" ∧ q.1.cls ≠ "java/lang/invoke/VarHandle") ∧ Cond.instantiable q.1.cls q.2 ∈ tables_1 ∧ Cond.privateMethod q.1 ∈ tables_1 ∧ Cond.instanceMethod q.1 ∈ tables_1
theorem lw_p0 : lw_okq (⟨"ShaftDiscs", "found", "(I)I"⟩, 14) := ⟨⟨by decide +kernel, by decide +kernel⟩, List.mem_of_getElem? (i := 10) (by decide +kernel), List.mem_of_getElem? (i := 176) (by decide +kernel), List.mem_of_getElem? (i := 177) (by decide +kernel)⟩
theorem lw_p1 : lw_okq (⟨"ShaftDiscs", "clean", "(I)I"⟩, 14) := ⟨⟨by decide +kernel, by decide +kernel⟩, List.mem_of_getElem? (i := 10) (by decide +kernel), List.mem_of_getElem? (i := 181) (by decide +kernel), List.mem_of_getElem? (i := 182) (by decide +kernel)⟩
theorem lw_p2 : lw_okq (⟨"ShaftDiscs", "isMissing", "(I)Z"⟩, 14) := ⟨⟨by decide +kernel, by decide +kernel⟩, List.mem_of_getElem? (i := 10) (by decide +kernel), List.mem_of_getElem? (i := 189) (by decide +kernel), List.mem_of_getElem? (i := 190) (by decide +kernel)⟩
theorem lw_p3 : lw_okq (⟨"ShaftDiscs", "isWithin", "(III)Z"⟩, 14) := ⟨⟨by decide +kernel, by decide +kernel⟩, List.mem_of_getElem? (i := 10) (by decide +kernel), List.mem_of_getElem? (i := 193) (by decide +kernel), List.mem_of_getElem? (i := 194) (by decide +kernel)⟩
theorem lw_p4 : lw_okq (⟨"ShaftDiscs$Reader", "takes", "(I)Z"⟩, 6) := ⟨⟨by decide +kernel, by decide +kernel⟩, List.mem_of_getElem? (i := 20) (by decide +kernel), List.mem_of_getElem? (i := 215) (by decide +kernel), List.mem_of_getElem? (i := 216) (by decide +kernel)⟩
theorem lw_p5 : lw_okq (⟨"ShaftDiscs$Reader", "reads", "(LShaftDiscs$Shaft;)Z"⟩, 6) := ⟨⟨by decide +kernel, by decide +kernel⟩, List.mem_of_getElem? (i := 20) (by decide +kernel), List.mem_of_getElem? (i := 224) (by decide +kernel), List.mem_of_getElem? (i := 225) (by decide +kernel)⟩
theorem lw_p6 : lw_okq (⟨"ShaftDiscs$Reader", "readsLaw", "(LShaftDiscs$Shaft;)Z"⟩, 6) := ⟨⟨by decide +kernel, by decide +kernel⟩, List.mem_of_getElem? (i := 20) (by decide +kernel), List.mem_of_getElem? (i := 228) (by decide +kernel), List.mem_of_getElem? (i := 229) (by decide +kernel)⟩
theorem lw_p7 : lw_okq (⟨"ShaftDiscs$Reader", "readsSign", "(I)Z"⟩, 6) := ⟨⟨by decide +kernel, by decide +kernel⟩, List.mem_of_getElem? (i := 20) (by decide +kernel), List.mem_of_getElem? (i := 232) (by decide +kernel), List.mem_of_getElem? (i := 233) (by decide +kernel)⟩
theorem lw_p8 : lw_okq (⟨"ShaftDiscs$Reader", "byteAtHand", "()I"⟩, 6) := ⟨⟨by decide +kernel, by decide +kernel⟩, List.mem_of_getElem? (i := 20) (by decide +kernel), List.mem_of_getElem? (i := 236) (by decide +kernel), List.mem_of_getElem? (i := 237) (by decide +kernel)⟩
theorem lw_p9 : lw_okq (⟨"ShaftDiscs$Reader", "blames", "(I)Z"⟩, 6) := ⟨⟨by decide +kernel, by decide +kernel⟩, List.mem_of_getElem? (i := 20) (by decide +kernel), List.mem_of_getElem? (i := 240) (by decide +kernel), List.mem_of_getElem? (i := 241) (by decide +kernel)⟩
theorem lw_p10 : lw_okq (⟨"ShaftDiscs$Reader", "readsNumber", "(II)Z"⟩, 6) := ⟨⟨by decide +kernel, by decide +kernel⟩, List.mem_of_getElem? (i := 20) (by decide +kernel), List.mem_of_getElem? (i := 244) (by decide +kernel), List.mem_of_getElem? (i := 245) (by decide +kernel)⟩
theorem lw_p11 : lw_okq (⟨"ShaftDiscs$Reader", "readsDiscs", "(LShaftDiscs$Shaft;)Z"⟩, 6) := ⟨⟨by decide +kernel, by decide +kernel⟩, List.mem_of_getElem? (i := 20) (by decide +kernel), List.mem_of_getElem? (i := 254) (by decide +kernel), List.mem_of_getElem? (i := 255) (by decide +kernel)⟩
theorem lw_p12 : lw_okq (⟨"ShaftDiscs$Reader", "readsNumbers", "(LShaftDiscs$Shaft;I)Z"⟩, 6) := ⟨⟨by decide +kernel, by decide +kernel⟩, List.mem_of_getElem? (i := 20) (by decide +kernel), List.mem_of_getElem? (i := 261) (by decide +kernel), List.mem_of_getElem? (i := 262) (by decide +kernel)⟩
theorem lw_p13 : lw_okq (⟨"ShaftDiscs$Shaft", "takeFrom", "(LShaftDiscs$Shaft;)V"⟩, 3) := ⟨⟨by decide +kernel, by decide +kernel⟩, List.mem_of_getElem? (i := 49) (by decide +kernel), List.mem_of_getElem? (i := 270) (by decide +kernel), List.mem_of_getElem? (i := 271) (by decide +kernel)⟩
theorem lw_p14 : lw_okq (⟨"ShaftDiscs$Acts", "forgetAll", "()V"⟩, 4) := ⟨⟨by decide +kernel, by decide +kernel⟩, List.mem_of_getElem? (i := 75) (by decide +kernel), List.mem_of_getElem? (i := 275) (by decide +kernel), List.mem_of_getElem? (i := 276) (by decide +kernel)⟩
theorem lw_p15 : lw_okq (⟨"ShaftDiscs$Acts", "takeBack", "(LShaftDiscs$Shaft;)Z"⟩, 4) := ⟨⟨by decide +kernel, by decide +kernel⟩, List.mem_of_getElem? (i := 75) (by decide +kernel), List.mem_of_getElem? (i := 287) (by decide +kernel), List.mem_of_getElem? (i := 288) (by decide +kernel)⟩
def lw_privs_1 : List (MethodName × Nat) := [(⟨"ShaftDiscs", "found", "(I)I"⟩, 14), (⟨"ShaftDiscs", "clean", "(I)I"⟩, 14), (⟨"ShaftDiscs", "isMissing", "(I)Z"⟩, 14), (⟨"ShaftDiscs", "isWithin", "(III)Z"⟩, 14), (⟨"ShaftDiscs$Reader", "takes", "(I)Z"⟩, 6), (⟨"ShaftDiscs$Reader", "reads", "(LShaftDiscs$Shaft;)Z"⟩, 6), (⟨"ShaftDiscs$Reader", "readsLaw", "(LShaftDiscs$Shaft;)Z"⟩, 6), (⟨"ShaftDiscs$Reader", "readsSign", "(I)Z"⟩, 6), (⟨"ShaftDiscs$Reader", "byteAtHand", "()I"⟩, 6), (⟨"ShaftDiscs$Reader", "blames", "(I)Z"⟩, 6), (⟨"ShaftDiscs$Reader", "readsNumber", "(II)Z"⟩, 6), (⟨"ShaftDiscs$Reader", "readsDiscs", "(LShaftDiscs$Shaft;)Z"⟩, 6), (⟨"ShaftDiscs$Reader", "readsNumbers", "(LShaftDiscs$Shaft;I)Z"⟩, 6), (⟨"ShaftDiscs$Shaft", "takeFrom", "(LShaftDiscs$Shaft;)V"⟩, 3), (⟨"ShaftDiscs$Acts", "forgetAll", "()V"⟩, 4), (⟨"ShaftDiscs$Acts", "takeBack", "(LShaftDiscs$Shaft;)Z"⟩, 4)]
theorem lw_r1 : ∀ q ∈ lw_privs_1, lw_okq q := List.forall_mem_cons.mpr ⟨lw_p0, List.forall_mem_cons.mpr ⟨lw_p1, List.forall_mem_cons.mpr ⟨lw_p2, List.forall_mem_cons.mpr ⟨lw_p3, List.forall_mem_cons.mpr ⟨lw_p4, List.forall_mem_cons.mpr ⟨lw_p5, List.forall_mem_cons.mpr ⟨lw_p6, List.forall_mem_cons.mpr ⟨lw_p7, List.forall_mem_cons.mpr ⟨lw_p8, List.forall_mem_cons.mpr ⟨lw_p9, List.forall_mem_cons.mpr ⟨lw_p10, List.forall_mem_cons.mpr ⟨lw_p11, List.forall_mem_cons.mpr ⟨lw_p12, List.forall_mem_cons.mpr ⟨lw_p13, List.forall_mem_cons.mpr ⟨lw_p14, List.forall_mem_cons.mpr ⟨lw_p15, fun _ h => absurd h List.not_mem_nil⟩⟩⟩⟩⟩⟩⟩⟩⟩⟩⟩⟩⟩⟩⟩⟩
theorem lw_p16 : lw_okq (⟨"ShaftDiscs$Shaft", "has", "(I)Z"⟩, 3) := ⟨⟨by decide +kernel, by decide +kernel⟩, List.mem_of_getElem? (i := 49) (by decide +kernel), List.mem_of_getElem? (i := 291) (by decide +kernel), List.mem_of_getElem? (i := 292) (by decide +kernel)⟩
theorem lw_p17 : lw_okq (⟨"ShaftDiscs$Shaft", "exchange", "(II)V"⟩, 3) := ⟨⟨by decide +kernel, by decide +kernel⟩, List.mem_of_getElem? (i := 49) (by decide +kernel), List.mem_of_getElem? (i := 295) (by decide +kernel), List.mem_of_getElem? (i := 296) (by decide +kernel)⟩
theorem lw_p18 : lw_okq (⟨"ShaftDiscs", "put", "(III)I"⟩, 14) := ⟨⟨by decide +kernel, by decide +kernel⟩, List.mem_of_getElem? (i := 10) (by decide +kernel), List.mem_of_getElem? (i := 307) (by decide +kernel), List.mem_of_getElem? (i := 308) (by decide +kernel)⟩
theorem lw_p19 : lw_okq (⟨"ShaftDiscs$Acts", "keep", "(III)V"⟩, 4) := ⟨⟨by decide +kernel, by decide +kernel⟩, List.mem_of_getElem? (i := 75) (by decide +kernel), List.mem_of_getElem? (i := 311) (by decide +kernel), List.mem_of_getElem? (i := 312) (by decide +kernel)⟩
theorem lw_p20 : lw_okq (⟨"ShaftDiscs$Acts", "forgetOldest", "()V"⟩, 4) := ⟨⟨by decide +kernel, by decide +kernel⟩, List.mem_of_getElem? (i := 75) (by decide +kernel), List.mem_of_getElem? (i := 315) (by decide +kernel), List.mem_of_getElem? (i := 316) (by decide +kernel)⟩
theorem lw_p21 : lw_okq (⟨"ShaftDiscs$Shaft", "ratioOf", "(I)I"⟩, 3) := ⟨⟨by decide +kernel, by decide +kernel⟩, List.mem_of_getElem? (i := 49) (by decide +kernel), List.mem_of_getElem? (i := 343) (by decide +kernel), List.mem_of_getElem? (i := 344) (by decide +kernel)⟩
theorem lw_p22 : lw_okq (⟨"ShaftDiscs$Shaft", "weightOf", "(I)I"⟩, 3) := ⟨⟨by decide +kernel, by decide +kernel⟩, List.mem_of_getElem? (i := 49) (by decide +kernel), List.mem_of_getElem? (i := 347) (by decide +kernel), List.mem_of_getElem? (i := 348) (by decide +kernel)⟩
theorem lw_p23 : lw_okq (⟨"ShaftDiscs$Shaft", "springOf", "(I)I"⟩, 3) := ⟨⟨by decide +kernel, by decide +kernel⟩, List.mem_of_getElem? (i := 49) (by decide +kernel), List.mem_of_getElem? (i := 352) (by decide +kernel), List.mem_of_getElem? (i := 353) (by decide +kernel)⟩
theorem lw_p24 : lw_okq (⟨"ShaftDiscs$Shaft", "tieOf", "(I)I"⟩, 3) := ⟨⟨by decide +kernel, by decide +kernel⟩, List.mem_of_getElem? (i := 49) (by decide +kernel), List.mem_of_getElem? (i := 356) (by decide +kernel), List.mem_of_getElem? (i := 357) (by decide +kernel)⟩
theorem lw_p25 : lw_okq (⟨"ShaftDiscs$Speeds", "measure", "(LShaftDiscs$Shaft;)V"⟩, 7) := ⟨⟨by decide +kernel, by decide +kernel⟩, List.mem_of_getElem? (i := 95) (by decide +kernel), List.mem_of_getElem? (i := 366) (by decide +kernel), List.mem_of_getElem? (i := 367) (by decide +kernel)⟩
theorem lw_p26 : lw_okq (⟨"ShaftDiscs$Speeds", "reaches", "(II)Z"⟩, 7) := ⟨⟨by decide +kernel, by decide +kernel⟩, List.mem_of_getElem? (i := 95) (by decide +kernel), List.mem_of_getElem? (i := 373) (by decide +kernel), List.mem_of_getElem? (i := 374) (by decide +kernel)⟩
theorem lw_p27 : lw_okq (⟨"ShaftDiscs$Speeds", "diagonal", "(II)J"⟩, 7) := ⟨⟨by decide +kernel, by decide +kernel⟩, List.mem_of_getElem? (i := 95) (by decide +kernel), List.mem_of_getElem? (i := 377) (by decide +kernel), List.mem_of_getElem? (i := 378) (by decide +kernel)⟩
theorem lw_p28 : lw_okq (⟨"ShaftDiscs$Speeds", "times", "(JJ)J"⟩, 7) := ⟨⟨by decide +kernel, by decide +kernel⟩, List.mem_of_getElem? (i := 95) (by decide +kernel), List.mem_of_getElem? (i := 381) (by decide +kernel), List.mem_of_getElem? (i := 382) (by decide +kernel)⟩
theorem lw_p29 : lw_okq (⟨"ShaftDiscs$Speeds", "less", "(JJ)J"⟩, 7) := ⟨⟨by decide +kernel, by decide +kernel⟩, List.mem_of_getElem? (i := 95) (by decide +kernel), List.mem_of_getElem? (i := 387) (by decide +kernel), List.mem_of_getElem? (i := 388) (by decide +kernel)⟩
theorem lw_p30 : lw_okq (⟨"ShaftDiscs$Speeds", "belowAt", "(I)I"⟩, 7) := ⟨⟨by decide +kernel, by decide +kernel⟩, List.mem_of_getElem? (i := 95) (by decide +kernel), List.mem_of_getElem? (i := 395) (by decide +kernel), List.mem_of_getElem? (i := 396) (by decide +kernel)⟩
theorem lw_p31 : lw_okq (⟨"ShaftDiscs", "answered", "(I)I"⟩, 14) := ⟨⟨by decide +kernel, by decide +kernel⟩, List.mem_of_getElem? (i := 10) (by decide +kernel), List.mem_of_getElem? (i := 401) (by decide +kernel), List.mem_of_getElem? (i := 402) (by decide +kernel)⟩
def lw_privs_2 : List (MethodName × Nat) := [(⟨"ShaftDiscs$Shaft", "has", "(I)Z"⟩, 3), (⟨"ShaftDiscs$Shaft", "exchange", "(II)V"⟩, 3), (⟨"ShaftDiscs", "put", "(III)I"⟩, 14), (⟨"ShaftDiscs$Acts", "keep", "(III)V"⟩, 4), (⟨"ShaftDiscs$Acts", "forgetOldest", "()V"⟩, 4), (⟨"ShaftDiscs$Shaft", "ratioOf", "(I)I"⟩, 3), (⟨"ShaftDiscs$Shaft", "weightOf", "(I)I"⟩, 3), (⟨"ShaftDiscs$Shaft", "springOf", "(I)I"⟩, 3), (⟨"ShaftDiscs$Shaft", "tieOf", "(I)I"⟩, 3), (⟨"ShaftDiscs$Speeds", "measure", "(LShaftDiscs$Shaft;)V"⟩, 7), (⟨"ShaftDiscs$Speeds", "reaches", "(II)Z"⟩, 7), (⟨"ShaftDiscs$Speeds", "diagonal", "(II)J"⟩, 7), (⟨"ShaftDiscs$Speeds", "times", "(JJ)J"⟩, 7), (⟨"ShaftDiscs$Speeds", "less", "(JJ)J"⟩, 7), (⟨"ShaftDiscs$Speeds", "belowAt", "(I)I"⟩, 7), (⟨"ShaftDiscs", "answered", "(I)I"⟩, 14)]
theorem lw_r2 : ∀ q ∈ lw_privs_2, lw_okq q := List.forall_mem_cons.mpr ⟨lw_p16, List.forall_mem_cons.mpr ⟨lw_p17, List.forall_mem_cons.mpr ⟨lw_p18, List.forall_mem_cons.mpr ⟨lw_p19, List.forall_mem_cons.mpr ⟨lw_p20, List.forall_mem_cons.mpr ⟨lw_p21, List.forall_mem_cons.mpr ⟨lw_p22, List.forall_mem_cons.mpr ⟨lw_p23, List.forall_mem_cons.mpr ⟨lw_p24, List.forall_mem_cons.mpr ⟨lw_p25, List.forall_mem_cons.mpr ⟨lw_p26, List.forall_mem_cons.mpr ⟨lw_p27, List.forall_mem_cons.mpr ⟨lw_p28, List.forall_mem_cons.mpr ⟨lw_p29, List.forall_mem_cons.mpr ⟨lw_p30, List.forall_mem_cons.mpr ⟨lw_p31, fun _ h => absurd h List.not_mem_nil⟩⟩⟩⟩⟩⟩⟩⟩⟩⟩⟩⟩⟩⟩⟩⟩
theorem lw_p32 : lw_okq (⟨"ShaftDiscs$Speeds", "boxOf", "(I)I"⟩, 7) := ⟨⟨by decide +kernel, by decide +kernel⟩, List.mem_of_getElem? (i := 95) (by decide +kernel), List.mem_of_getElem? (i := 410) (by decide +kernel), List.mem_of_getElem? (i := 411) (by decide +kernel)⟩
theorem lw_p33 : lw_okq (⟨"ShaftDiscs$Speeds", "boxesAll", "()Z"⟩, 7) := ⟨⟨by decide +kernel, by decide +kernel⟩, List.mem_of_getElem? (i := 95) (by decide +kernel), List.mem_of_getElem? (i := 420) (by decide +kernel), List.mem_of_getElem? (i := 421) (by decide +kernel)⟩
theorem lw_p34 : lw_okq (⟨"ShaftDiscs$Speeds", "widestGap", "()I"⟩, 7) := ⟨⟨by decide +kernel, by decide +kernel⟩, List.mem_of_getElem? (i := 95) (by decide +kernel), List.mem_of_getElem? (i := 425) (by decide +kernel), List.mem_of_getElem? (i := 426) (by decide +kernel)⟩
theorem lw_p35 : lw_okq (⟨"ShaftDiscs$Speeds", "gapAt", "(I)I"⟩, 7) := ⟨⟨by decide +kernel, by decide +kernel⟩, List.mem_of_getElem? (i := 95) (by decide +kernel), List.mem_of_getElem? (i := 429) (by decide +kernel), List.mem_of_getElem? (i := 430) (by decide +kernel)⟩
theorem lw_p36 : lw_okq (⟨"ShaftDiscs$Speeds", "isClearBy", "(II)Z"⟩, 7) := ⟨⟨by decide +kernel, by decide +kernel⟩, List.mem_of_getElem? (i := 95) (by decide +kernel), List.mem_of_getElem? (i := 439) (by decide +kernel), List.mem_of_getElem? (i := 440) (by decide +kernel)⟩
theorem lw_p37 : lw_okq (⟨"ShaftDiscs", "belowMarkTried", "()I"⟩, 14) := ⟨⟨by decide +kernel, by decide +kernel⟩, List.mem_of_getElem? (i := 10) (by decide +kernel), List.mem_of_getElem? (i := 448) (by decide +kernel), List.mem_of_getElem? (i := 449) (by decide +kernel)⟩
theorem lw_p38 : lw_okq (⟨"ShaftDiscs$Shaft", "sumOf", "(II)I"⟩, 3) := ⟨⟨by decide +kernel, by decide +kernel⟩, List.mem_of_getElem? (i := 49) (by decide +kernel), List.mem_of_getElem? (i := 456) (by decide +kernel), List.mem_of_getElem? (i := 457) (by decide +kernel)⟩
theorem lw_p39 : lw_okq (⟨"ShaftDiscs", "turned", "(IZ)I"⟩, 14) := ⟨⟨by decide +kernel, by decide +kernel⟩, List.mem_of_getElem? (i := 10) (by decide +kernel), List.mem_of_getElem? (i := 468) (by decide +kernel), List.mem_of_getElem? (i := 469) (by decide +kernel)⟩
theorem lw_p40 : lw_okq (⟨"ShaftDiscs", "bitsThatFit", "(IIIII)I"⟩, 14) := ⟨⟨by decide +kernel, by decide +kernel⟩, List.mem_of_getElem? (i := 10) (by decide +kernel), List.mem_of_getElem? (i := 480) (by decide +kernel), List.mem_of_getElem? (i := 481) (by decide +kernel)⟩
theorem lw_p41 : lw_okq (⟨"ShaftDiscs", "triedBoxesAre", "(III)Z"⟩, 14) := ⟨⟨by decide +kernel, by decide +kernel⟩, List.mem_of_getElem? (i := 10) (by decide +kernel), List.mem_of_getElem? (i := 484) (by decide +kernel), List.mem_of_getElem? (i := 485) (by decide +kernel)⟩
theorem lw_p42 : lw_okq (⟨"ShaftDiscs", "springsThatFit", "(IZIII)I"⟩, 14) := ⟨⟨by decide +kernel, by decide +kernel⟩, List.mem_of_getElem? (i := 10) (by decide +kernel), List.mem_of_getElem? (i := 488) (by decide +kernel), List.mem_of_getElem? (i := 489) (by decide +kernel)⟩
theorem lw_p43 : lw_okq (⟨"ShaftDiscs", "casesOf", "(III)J"⟩, 14) := ⟨⟨by decide +kernel, by decide +kernel⟩, List.mem_of_getElem? (i := 10) (by decide +kernel), List.mem_of_getElem? (i := 497) (by decide +kernel), List.mem_of_getElem? (i := 498) (by decide +kernel)⟩
theorem lw_p44 : lw_okq (⟨"ShaftDiscs", "drawOne", "(J)V"⟩, 14) := ⟨⟨by decide +kernel, by decide +kernel⟩, List.mem_of_getElem? (i := 10) (by decide +kernel), List.mem_of_getElem? (i := 511) (by decide +kernel), List.mem_of_getElem? (i := 512) (by decide +kernel)⟩
theorem lw_p45 : lw_okq (⟨"ShaftDiscs", "imageAt", "(I)LShaftDiscs$Shaft;"⟩, 14) := ⟨⟨by decide +kernel, by decide +kernel⟩, List.mem_of_getElem? (i := 10) (by decide +kernel), List.mem_of_getElem? (i := 527) (by decide +kernel), List.mem_of_getElem? (i := 528) (by decide +kernel)⟩
theorem lw_p46 : lw_okq (⟨"ShaftDiscs", "asked", "(III)I"⟩, 14) := ⟨⟨by decide +kernel, by decide +kernel⟩, List.mem_of_getElem? (i := 10) (by decide +kernel), List.mem_of_getElem? (i := 552) (by decide +kernel), List.mem_of_getElem? (i := 553) (by decide +kernel)⟩
theorem lw_p47 : lw_okq (⟨"ShaftDiscs", "answerOf", "(III)I"⟩, 14) := ⟨⟨by decide +kernel, by decide +kernel⟩, List.mem_of_getElem? (i := 10) (by decide +kernel), List.mem_of_getElem? (i := 560) (by decide +kernel), List.mem_of_getElem? (i := 561) (by decide +kernel)⟩
def lw_privs_3 : List (MethodName × Nat) := [(⟨"ShaftDiscs$Speeds", "boxOf", "(I)I"⟩, 7), (⟨"ShaftDiscs$Speeds", "boxesAll", "()Z"⟩, 7), (⟨"ShaftDiscs$Speeds", "widestGap", "()I"⟩, 7), (⟨"ShaftDiscs$Speeds", "gapAt", "(I)I"⟩, 7), (⟨"ShaftDiscs$Speeds", "isClearBy", "(II)Z"⟩, 7), (⟨"ShaftDiscs", "belowMarkTried", "()I"⟩, 14), (⟨"ShaftDiscs$Shaft", "sumOf", "(II)I"⟩, 3), (⟨"ShaftDiscs", "turned", "(IZ)I"⟩, 14), (⟨"ShaftDiscs", "bitsThatFit", "(IIIII)I"⟩, 14), (⟨"ShaftDiscs", "triedBoxesAre", "(III)Z"⟩, 14), (⟨"ShaftDiscs", "springsThatFit", "(IZIII)I"⟩, 14), (⟨"ShaftDiscs", "casesOf", "(III)J"⟩, 14), (⟨"ShaftDiscs", "drawOne", "(J)V"⟩, 14), (⟨"ShaftDiscs", "imageAt", "(I)LShaftDiscs$Shaft;"⟩, 14), (⟨"ShaftDiscs", "asked", "(III)I"⟩, 14), (⟨"ShaftDiscs", "answerOf", "(III)I"⟩, 14)]
theorem lw_r3 : ∀ q ∈ lw_privs_3, lw_okq q := List.forall_mem_cons.mpr ⟨lw_p32, List.forall_mem_cons.mpr ⟨lw_p33, List.forall_mem_cons.mpr ⟨lw_p34, List.forall_mem_cons.mpr ⟨lw_p35, List.forall_mem_cons.mpr ⟨lw_p36, List.forall_mem_cons.mpr ⟨lw_p37, List.forall_mem_cons.mpr ⟨lw_p38, List.forall_mem_cons.mpr ⟨lw_p39, List.forall_mem_cons.mpr ⟨lw_p40, List.forall_mem_cons.mpr ⟨lw_p41, List.forall_mem_cons.mpr ⟨lw_p42, List.forall_mem_cons.mpr ⟨lw_p43, List.forall_mem_cons.mpr ⟨lw_p44, List.forall_mem_cons.mpr ⟨lw_p45, List.forall_mem_cons.mpr ⟨lw_p46, List.forall_mem_cons.mpr ⟨lw_p47, fun _ h => absurd h List.not_mem_nil⟩⟩⟩⟩⟩⟩⟩⟩⟩⟩⟩⟩⟩⟩⟩⟩
theorem lw_p48 : lw_okq (⟨"ShaftDiscs", "leaveTrace", "(I)V"⟩, 14) := ⟨⟨by decide +kernel, by decide +kernel⟩, List.mem_of_getElem? (i := 10) (by decide +kernel), List.mem_of_getElem? (i := 564) (by decide +kernel), List.mem_of_getElem? (i := 565) (by decide +kernel)⟩
theorem lw_p49 : lw_okq (⟨"ShaftDiscs", "rowsThatStand", "()I"⟩, 14) := ⟨⟨by decide +kernel, by decide +kernel⟩, List.mem_of_getElem? (i := 10) (by decide +kernel), List.mem_of_getElem? (i := 576) (by decide +kernel), List.mem_of_getElem? (i := 577) (by decide +kernel)⟩
theorem lw_p50 : lw_okq (⟨"ShaftDiscsModel", "finding", "(I)I"⟩, 26) := ⟨⟨by decide +kernel, by decide +kernel⟩, List.mem_of_getElem? (i := 584) (by decide +kernel), List.mem_of_getElem? (i := 683) (by decide +kernel), List.mem_of_getElem? (i := 684) (by decide +kernel)⟩
theorem lw_p51 : lw_okq (⟨"ShaftDiscsModel", "begin", "()V"⟩, 26) := ⟨⟨by decide +kernel, by decide +kernel⟩, List.mem_of_getElem? (i := 584) (by decide +kernel), List.mem_of_getElem? (i := 714) (by decide +kernel), List.mem_of_getElem? (i := 715) (by decide +kernel)⟩
theorem lw_p52 : lw_okq (⟨"ShaftDiscsModel", "nextToken", "()V"⟩, 26) := ⟨⟨by decide +kernel, by decide +kernel⟩, List.mem_of_getElem? (i := 584) (by decide +kernel), List.mem_of_getElem? (i := 718) (by decide +kernel), List.mem_of_getElem? (i := 719) (by decide +kernel)⟩
theorem lw_p53 : lw_okq (⟨"ShaftDiscsModel", "isLetter", "(I)Z"⟩, 26) := ⟨⟨by decide +kernel, by decide +kernel⟩, List.mem_of_getElem? (i := 584) (by decide +kernel), List.mem_of_getElem? (i := 727) (by decide +kernel), List.mem_of_getElem? (i := 728) (by decide +kernel)⟩
theorem lw_p54 : lw_okq (⟨"ShaftDiscsModel", "must", "(Z)V"⟩, 26) := ⟨⟨by decide +kernel, by decide +kernel⟩, List.mem_of_getElem? (i := 584) (by decide +kernel), List.mem_of_getElem? (i := 731) (by decide +kernel), List.mem_of_getElem? (i := 732) (by decide +kernel)⟩
theorem lw_p55 : lw_okq (⟨"ShaftDiscsModel", "bad", "(I)V"⟩, 26) := ⟨⟨by decide +kernel, by decide +kernel⟩, List.mem_of_getElem? (i := 584) (by decide +kernel), List.mem_of_getElem? (i := 735) (by decide +kernel), List.mem_of_getElem? (i := 736) (by decide +kernel)⟩
theorem lw_p56 : lw_okq (⟨"ShaftDiscsModel", "number", "(II)I"⟩, 26) := ⟨⟨by decide +kernel, by decide +kernel⟩, List.mem_of_getElem? (i := 584) (by decide +kernel), List.mem_of_getElem? (i := 739) (by decide +kernel), List.mem_of_getElem? (i := 740) (by decide +kernel)⟩
theorem lw_p57 : lw_okq (⟨"ShaftDiscsModel", "mustSign", "(I)V"⟩, 26) := ⟨⟨by decide +kernel, by decide +kernel⟩, List.mem_of_getElem? (i := 584) (by decide +kernel), List.mem_of_getElem? (i := 743) (by decide +kernel), List.mem_of_getElem? (i := 744) (by decide +kernel)⟩
theorem lw_p58 : lw_okq (⟨"ShaftDiscsModel", "isSort", "()Z"⟩, 26) := ⟨⟨by decide +kernel, by decide +kernel⟩, List.mem_of_getElem? (i := 584) (by decide +kernel), List.mem_of_getElem? (i := 747) (by decide +kernel), List.mem_of_getElem? (i := 748) (by decide +kernel)⟩
theorem lw_p59 : lw_okq (⟨"ShaftDiscsModel", "readDisc", "()V"⟩, 26) := ⟨⟨by decide +kernel, by decide +kernel⟩, List.mem_of_getElem? (i := 584) (by decide +kernel), List.mem_of_getElem? (i := 754) (by decide +kernel), List.mem_of_getElem? (i := 755) (by decide +kernel)⟩
theorem lw_p60 : lw_okq (⟨"ShaftDiscsModel", "failed", "()Z"⟩, 26) := ⟨⟨by decide +kernel, by decide +kernel⟩, List.mem_of_getElem? (i := 584) (by decide +kernel), List.mem_of_getElem? (i := 758) (by decide +kernel), List.mem_of_getElem? (i := 759) (by decide +kernel)⟩
theorem lw_p61 : lw_okq (⟨"ShaftDiscsModel", "isDisc", "(I)Z"⟩, 26) := ⟨⟨by decide +kernel, by decide +kernel⟩, List.mem_of_getElem? (i := 584) (by decide +kernel), List.mem_of_getElem? (i := 770) (by decide +kernel), List.mem_of_getElem? (i := 771) (by decide +kernel)⟩
theorem lw_p62 : lw_okq (⟨"ShaftDiscsModel", "keep", "()V"⟩, 26) := ⟨⟨by decide +kernel, by decide +kernel⟩, List.mem_of_getElem? (i := 584) (by decide +kernel), List.mem_of_getElem? (i := 774) (by decide +kernel), List.mem_of_getElem? (i := 775) (by decide +kernel)⟩
theorem lw_p63 : lw_okq (⟨"ShaftDiscsModel", "isThere", "()Z"⟩, 26) := ⟨⟨by decide +kernel, by decide +kernel⟩, List.mem_of_getElem? (i := 584) (by decide +kernel), List.mem_of_getElem? (i := 790) (by decide +kernel), List.mem_of_getElem? (i := 791) (by decide +kernel)⟩
def lw_privs_4 : List (MethodName × Nat) := [(⟨"ShaftDiscs", "leaveTrace", "(I)V"⟩, 14), (⟨"ShaftDiscs", "rowsThatStand", "()I"⟩, 14), (⟨"ShaftDiscsModel", "finding", "(I)I"⟩, 26), (⟨"ShaftDiscsModel", "begin", "()V"⟩, 26), (⟨"ShaftDiscsModel", "nextToken", "()V"⟩, 26), (⟨"ShaftDiscsModel", "isLetter", "(I)Z"⟩, 26), (⟨"ShaftDiscsModel", "must", "(Z)V"⟩, 26), (⟨"ShaftDiscsModel", "bad", "(I)V"⟩, 26), (⟨"ShaftDiscsModel", "number", "(II)I"⟩, 26), (⟨"ShaftDiscsModel", "mustSign", "(I)V"⟩, 26), (⟨"ShaftDiscsModel", "isSort", "()Z"⟩, 26), (⟨"ShaftDiscsModel", "readDisc", "()V"⟩, 26), (⟨"ShaftDiscsModel", "failed", "()Z"⟩, 26), (⟨"ShaftDiscsModel", "isDisc", "(I)Z"⟩, 26), (⟨"ShaftDiscsModel", "keep", "()V"⟩, 26), (⟨"ShaftDiscsModel", "isThere", "()Z"⟩, 26)]
theorem lw_r4 : ∀ q ∈ lw_privs_4, lw_okq q := List.forall_mem_cons.mpr ⟨lw_p48, List.forall_mem_cons.mpr ⟨lw_p49, List.forall_mem_cons.mpr ⟨lw_p50, List.forall_mem_cons.mpr ⟨lw_p51, List.forall_mem_cons.mpr ⟨lw_p52, List.forall_mem_cons.mpr ⟨lw_p53, List.forall_mem_cons.mpr ⟨lw_p54, List.forall_mem_cons.mpr ⟨lw_p55, List.forall_mem_cons.mpr ⟨lw_p56, List.forall_mem_cons.mpr ⟨lw_p57, List.forall_mem_cons.mpr ⟨lw_p58, List.forall_mem_cons.mpr ⟨lw_p59, List.forall_mem_cons.mpr ⟨lw_p60, List.forall_mem_cons.mpr ⟨lw_p61, List.forall_mem_cons.mpr ⟨lw_p62, List.forall_mem_cons.mpr ⟨lw_p63, fun _ h => absurd h List.not_mem_nil⟩⟩⟩⟩⟩⟩⟩⟩⟩⟩⟩⟩⟩⟩⟩⟩
theorem lw_p64 : lw_okq (⟨"ShaftDiscsModel", "reckon", "([III)V"⟩, 26) := ⟨⟨by decide +kernel, by decide +kernel⟩, List.mem_of_getElem? (i := 584) (by decide +kernel), List.mem_of_getElem? (i := 825) (by decide +kernel), List.mem_of_getElem? (i := 826) (by decide +kernel)⟩
theorem lw_p65 : lw_okq (⟨"ShaftDiscsModel", "product", "(JJ)J"⟩, 26) := ⟨⟨by decide +kernel, by decide +kernel⟩, List.mem_of_getElem? (i := 584) (by decide +kernel), List.mem_of_getElem? (i := 829) (by decide +kernel), List.mem_of_getElem? (i := 830) (by decide +kernel)⟩
theorem lw_p66 : lw_okq (⟨"ShaftDiscsModel", "difference", "(JJ)J"⟩, 26) := ⟨⟨by decide +kernel, by decide +kernel⟩, List.mem_of_getElem? (i := 584) (by decide +kernel), List.mem_of_getElem? (i := 835) (by decide +kernel), List.mem_of_getElem? (i := 836) (by decide +kernel)⟩
theorem lw_p67 : lw_okq (⟨"ShaftDiscsModel", "belowOf", "([II)I"⟩, 26) := ⟨⟨by decide +kernel, by decide +kernel⟩, List.mem_of_getElem? (i := 584) (by decide +kernel), List.mem_of_getElem? (i := 843) (by decide +kernel), List.mem_of_getElem? (i := 844) (by decide +kernel)⟩
theorem lw_p68 : lw_okq (⟨"ShaftDiscsModel", "unless", "(I)I"⟩, 26) := ⟨⟨by decide +kernel, by decide +kernel⟩, List.mem_of_getElem? (i := 584) (by decide +kernel), List.mem_of_getElem? (i := 847) (by decide +kernel), List.mem_of_getElem? (i := 848) (by decide +kernel)⟩
theorem lw_p69 : lw_okq (⟨"ShaftDiscsModel", "boxOf", "([II)I"⟩, 26) := ⟨⟨by decide +kernel, by decide +kernel⟩, List.mem_of_getElem? (i := 584) (by decide +kernel), List.mem_of_getElem? (i := 855) (by decide +kernel), List.mem_of_getElem? (i := 856) (by decide +kernel)⟩
theorem lw_p70 : lw_okq (⟨"ShaftDiscsModel", "layBoxes", "([II)V"⟩, 26) := ⟨⟨by decide +kernel, by decide +kernel⟩, List.mem_of_getElem? (i := 584) (by decide +kernel), List.mem_of_getElem? (i := 863) (by decide +kernel), List.mem_of_getElem? (i := 864) (by decide +kernel)⟩
theorem lw_p71 : lw_okq (⟨"ShaftDiscsModel", "isClear", "(II)Z"⟩, 26) := ⟨⟨by decide +kernel, by decide +kernel⟩, List.mem_of_getElem? (i := 584) (by decide +kernel), List.mem_of_getElem? (i := 871) (by decide +kernel), List.mem_of_getElem? (i := 872) (by decide +kernel)⟩
theorem lw_p72 : lw_okq (⟨"ShaftDiscsModel", "layThen", "()V"⟩, 26) := ⟨⟨by decide +kernel, by decide +kernel⟩, List.mem_of_getElem? (i := 584) (by decide +kernel), List.mem_of_getElem? (i := 880) (by decide +kernel), List.mem_of_getElem? (i := 881) (by decide +kernel)⟩
theorem lw_p73 : lw_okq (⟨"ShaftDiscsModel", "together", "(I)I"⟩, 26) := ⟨⟨by decide +kernel, by decide +kernel⟩, List.mem_of_getElem? (i := 584) (by decide +kernel), List.mem_of_getElem? (i := 897) (by decide +kernel), List.mem_of_getElem? (i := 898) (by decide +kernel)⟩
theorem lw_p74 : lw_okq (⟨"ShaftDiscsModel", "afterTurns", "(III)I"⟩, 26) := ⟨⟨by decide +kernel, by decide +kernel⟩, List.mem_of_getElem? (i := 584) (by decide +kernel), List.mem_of_getElem? (i := 906) (by decide +kernel), List.mem_of_getElem? (i := 907) (by decide +kernel)⟩
theorem lw_p75 : lw_okq (⟨"ShaftDiscsModel", "rowFound", "(III)I"⟩, 26) := ⟨⟨by decide +kernel, by decide +kernel⟩, List.mem_of_getElem? (i := 584) (by decide +kernel), List.mem_of_getElem? (i := 914) (by decide +kernel), List.mem_of_getElem? (i := 915) (by decide +kernel)⟩
theorem lw_p76 : lw_okq (⟨"ShaftDiscsModel", "isBoxedSo", "(II)Z"⟩, 26) := ⟨⟨by decide +kernel, by decide +kernel⟩, List.mem_of_getElem? (i := 584) (by decide +kernel), List.mem_of_getElem? (i := 918) (by decide +kernel), List.mem_of_getElem? (i := 919) (by decide +kernel)⟩
theorem lw_p77 : lw_okq (⟨"ShaftDiscsModel", "sizeOf", "(I)I"⟩, 26) := ⟨⟨by decide +kernel, by decide +kernel⟩, List.mem_of_getElem? (i := 584) (by decide +kernel), List.mem_of_getElem? (i := 960) (by decide +kernel), List.mem_of_getElem? (i := 961) (by decide +kernel)⟩
theorem lw_p78 : lw_okq (⟨"ShaftDiscsModel", "tiedSize", "(I)I"⟩, 26) := ⟨⟨by decide +kernel, by decide +kernel⟩, List.mem_of_getElem? (i := 584) (by decide +kernel), List.mem_of_getElem? (i := 964) (by decide +kernel), List.mem_of_getElem? (i := 965) (by decide +kernel)⟩
theorem lw_p79 : lw_okq (⟨"ShaftDiscsModel", "began", "(I)V"⟩, 26) := ⟨⟨by decide +kernel, by decide +kernel⟩, List.mem_of_getElem? (i := 584) (by decide +kernel), List.mem_of_getElem? (i := 968) (by decide +kernel), List.mem_of_getElem? (i := 969) (by decide +kernel)⟩
def lw_privs_5 : List (MethodName × Nat) := [(⟨"ShaftDiscsModel", "reckon", "([III)V"⟩, 26), (⟨"ShaftDiscsModel", "product", "(JJ)J"⟩, 26), (⟨"ShaftDiscsModel", "difference", "(JJ)J"⟩, 26), (⟨"ShaftDiscsModel", "belowOf", "([II)I"⟩, 26), (⟨"ShaftDiscsModel", "unless", "(I)I"⟩, 26), (⟨"ShaftDiscsModel", "boxOf", "([II)I"⟩, 26), (⟨"ShaftDiscsModel", "layBoxes", "([II)V"⟩, 26), (⟨"ShaftDiscsModel", "isClear", "(II)Z"⟩, 26), (⟨"ShaftDiscsModel", "layThen", "()V"⟩, 26), (⟨"ShaftDiscsModel", "together", "(I)I"⟩, 26), (⟨"ShaftDiscsModel", "afterTurns", "(III)I"⟩, 26), (⟨"ShaftDiscsModel", "rowFound", "(III)I"⟩, 26), (⟨"ShaftDiscsModel", "isBoxedSo", "(II)Z"⟩, 26), (⟨"ShaftDiscsModel", "sizeOf", "(I)I"⟩, 26), (⟨"ShaftDiscsModel", "tiedSize", "(I)I"⟩, 26), (⟨"ShaftDiscsModel", "began", "(I)V"⟩, 26)]
theorem lw_r5 : ∀ q ∈ lw_privs_5, lw_okq q := List.forall_mem_cons.mpr ⟨lw_p64, List.forall_mem_cons.mpr ⟨lw_p65, List.forall_mem_cons.mpr ⟨lw_p66, List.forall_mem_cons.mpr ⟨lw_p67, List.forall_mem_cons.mpr ⟨lw_p68, List.forall_mem_cons.mpr ⟨lw_p69, List.forall_mem_cons.mpr ⟨lw_p70, List.forall_mem_cons.mpr ⟨lw_p71, List.forall_mem_cons.mpr ⟨lw_p72, List.forall_mem_cons.mpr ⟨lw_p73, List.forall_mem_cons.mpr ⟨lw_p74, List.forall_mem_cons.mpr ⟨lw_p75, List.forall_mem_cons.mpr ⟨lw_p76, List.forall_mem_cons.mpr ⟨lw_p77, List.forall_mem_cons.mpr ⟨lw_p78, List.forall_mem_cons.mpr ⟨lw_p79, fun _ h => absurd h List.not_mem_nil⟩⟩⟩⟩⟩⟩⟩⟩⟩⟩⟩⟩⟩⟩⟩⟩
theorem lw_p80 : lw_okq (⟨"ShaftDiscsModel", "plainSize", "(I)I"⟩, 26) := ⟨⟨by decide +kernel, by decide +kernel⟩, List.mem_of_getElem? (i := 584) (by decide +kernel), List.mem_of_getElem? (i := 972) (by decide +kernel), List.mem_of_getElem? (i := 973) (by decide +kernel)⟩
theorem lw_p81 : lw_okq (⟨"ShaftDiscsModel", "markOf", "(I)I"⟩, 26) := ⟨⟨by decide +kernel, by decide +kernel⟩, List.mem_of_getElem? (i := 584) (by decide +kernel), List.mem_of_getElem? (i := 976) (by decide +kernel), List.mem_of_getElem? (i := 977) (by decide +kernel)⟩
def lw_privs_6 : List (MethodName × Nat) := [(⟨"ShaftDiscsModel", "plainSize", "(I)I"⟩, 26), (⟨"ShaftDiscsModel", "markOf", "(I)I"⟩, 26)]
theorem lw_r6 : ∀ q ∈ lw_privs_6, lw_okq q := List.forall_mem_cons.mpr ⟨lw_p80, List.forall_mem_cons.mpr ⟨lw_p81, fun _ h => absurd h List.not_mem_nil⟩⟩
def lw_privs : List (MethodName × Nat) := lw_privs_1 ++ (lw_privs_2 ++ (lw_privs_3 ++ (lw_privs_4 ++ (lw_privs_5 ++ (lw_privs_6)))))
def lw_tbl : List Cond := k2_sels lw_privs ++ tables_1
theorem lw_privs_ok : ∀ q ∈ lw_privs, lw_okq q := by
  show ∀ q ∈ lw_privs_1 ++ (lw_privs_2 ++ (lw_privs_3 ++ (lw_privs_4 ++ (lw_privs_5 ++ (lw_privs_6))))), lw_okq q
  exact List.forall_mem_append.mpr ⟨lw_r1, List.forall_mem_append.mpr ⟨lw_r2, List.forall_mem_append.mpr ⟨lw_r3, List.forall_mem_append.mpr ⟨lw_r4, List.forall_mem_append.mpr ⟨lw_r5, lw_r6⟩⟩⟩⟩⟩

-- names of classes, fields, methods (out of the printed names)
def RX0 : String := "ShaftDiscs$Acts"
def TX0 : u_T := fun k => match k with
  | 0 => ("ShaftDiscs$Acts", "whats", "[I", true)
  | 1 => ("ShaftDiscs$Acts", "ones", "[I", true)
  | 2 => ("ShaftDiscs$Acts", "befores", "[I", true)
  | _ => ("ShaftDiscs$Acts", "size", "I", false)
def tyX0 : Nat → FieldType := fun k => match k with
  | 0 => .array .int
  | 1 => .array .int
  | 2 => .array .int
  | _ => .int
theorem nmX0 : ∀ a, a < 4 → ∀ b, b < 4 → a ≠ b → (TX0 a).2.1 ≠ (TX0 b).2.1 := by decide +kernel
theorem tyX0_ok : ∀ k, k < 4 → parseFieldDescriptor (TX0 k).2.2.1 = some (tyX0 k) := by decide +kernel
abbrev cX0_init : ByteArray := prog_2_method_1_code
def yX0_init : MethodName := ⟨RX0, "<init>", "()V"⟩
abbrev cX0_forgetAll : ByteArray := prog_2_method_2_code
def yX0_forgetAll : MethodName := ⟨RX0, "forgetAll", "()V"⟩
abbrev cX0_keep : ByteArray := prog_2_method_3_code
def yX0_keep : MethodName := ⟨RX0, "keep", "(III)V"⟩
abbrev cX0_forgetOldest : ByteArray := prog_2_method_4_code
def yX0_forgetOldest : MethodName := ⟨RX0, "forgetOldest", "()V"⟩
abbrev cX0_takeBack : ByteArray := prog_2_method_5_code
def yX0_takeBack : MethodName := ⟨RX0, "takeBack", "(LShaftDiscs$Shaft;)Z"⟩
def RX1 : String := "ShaftDiscs$Reader"
def TX1 : u_T := fun k => match k with
  | 0 => ("ShaftDiscs$Reader", "tape", "[I", true)
  | 1 => ("ShaftDiscs$Reader", "size", "I", false)
  | 2 => ("ShaftDiscs$Reader", "at", "I", false)
  | 3 => ("ShaftDiscs$Reader", "number", "I", false)
  | 4 => ("ShaftDiscs$Reader", "fault", "I", false)
  | _ => ("ShaftDiscs$Reader", "faultPlace", "I", false)
def tyX1 : Nat → FieldType := fun k => match k with
  | 0 => .array .int
  | 1 => .int
  | 2 => .int
  | 3 => .int
  | 4 => .int
  | _ => .int
theorem nmX1 : ∀ a, a < 6 → ∀ b, b < 6 → a ≠ b → (TX1 a).2.1 ≠ (TX1 b).2.1 := by decide +kernel
theorem tyX1_ok : ∀ k, k < 6 → parseFieldDescriptor (TX1 k).2.2.1 = some (tyX1 k) := by decide +kernel
abbrev cX1_init : ByteArray := prog_3_method_1_code
def yX1_init : MethodName := ⟨RX1, "<init>", "()V"⟩
abbrev cX1_takes : ByteArray := prog_3_method_2_code
def yX1_takes : MethodName := ⟨RX1, "takes", "(I)Z"⟩
abbrev cX1_reads : ByteArray := prog_3_method_3_code
def yX1_reads : MethodName := ⟨RX1, "reads", "(LShaftDiscs$Shaft;)Z"⟩
abbrev cX1_readsLaw : ByteArray := prog_3_method_4_code
def yX1_readsLaw : MethodName := ⟨RX1, "readsLaw", "(LShaftDiscs$Shaft;)Z"⟩
abbrev cX1_readsDiscs : ByteArray := prog_3_method_5_code
def yX1_readsDiscs : MethodName := ⟨RX1, "readsDiscs", "(LShaftDiscs$Shaft;)Z"⟩
abbrev cX1_readsNumbers : ByteArray := prog_3_method_6_code
def yX1_readsNumbers : MethodName := ⟨RX1, "readsNumbers", "(LShaftDiscs$Shaft;I)Z"⟩
abbrev cX1_readsSign : ByteArray := prog_3_method_7_code
def yX1_readsSign : MethodName := ⟨RX1, "readsSign", "(I)Z"⟩
abbrev cX1_readsNumber : ByteArray := prog_3_method_8_code
def yX1_readsNumber : MethodName := ⟨RX1, "readsNumber", "(II)Z"⟩
abbrev cX1_blames : ByteArray := prog_3_method_9_code
def yX1_blames : MethodName := ⟨RX1, "blames", "(I)Z"⟩
abbrev cX1_byteAtHand : ByteArray := prog_3_method_10_code
def yX1_byteAtHand : MethodName := ⟨RX1, "byteAtHand", "()I"⟩
abbrev cX1_isFigure : ByteArray := prog_3_method_11_code
def yX1_isFigure : MethodName := ⟨RX1, "isFigure", "(I)Z"⟩
abbrev cX1_kindOf : ByteArray := prog_3_method_12_code
def yX1_kindOf : MethodName := ⟨RX1, "kindOf", "(I)I"⟩
def RX2 : String := "ShaftDiscs$Shaft"
def TX2 : u_T := fun k => match k with
  | 0 => ("ShaftDiscs$Shaft", "told", "[[I", true)
  | 1 => ("ShaftDiscs$Shaft", "discs", "I", false)
  | _ => ("ShaftDiscs$Shaft", "mark", "I", false)
def tyX2 : Nat → FieldType := fun k => match k with
  | 0 => .array (.array .int)
  | 1 => .int
  | _ => .int
theorem nmX2 : ∀ a, a < 3 → ∀ b, b < 3 → a ≠ b → (TX2 a).2.1 ≠ (TX2 b).2.1 := by decide +kernel
theorem tyX2_ok : ∀ k, k < 3 → parseFieldDescriptor (TX2 k).2.2.1 = some (tyX2 k) := by decide +kernel
abbrev cX2_init : ByteArray := prog_4_method_1_code
def yX2_init : MethodName := ⟨RX2, "<init>", "()V"⟩
abbrev cX2_has : ByteArray := prog_4_method_2_code
def yX2_has : MethodName := ⟨RX2, "has", "(I)Z"⟩
abbrev cX2_takeFrom : ByteArray := prog_4_method_3_code
def yX2_takeFrom : MethodName := ⟨RX2, "takeFrom", "(LShaftDiscs$Shaft;)V"⟩
abbrev cX2_exchange : ByteArray := prog_4_method_4_code
def yX2_exchange : MethodName := ⟨RX2, "exchange", "(II)V"⟩
abbrev cX2_sumOf : ByteArray := prog_4_method_5_code
def yX2_sumOf : MethodName := ⟨RX2, "sumOf", "(II)I"⟩
abbrev cX2_ratioOf : ByteArray := prog_4_method_6_code
def yX2_ratioOf : MethodName := ⟨RX2, "ratioOf", "(I)I"⟩
abbrev cX2_weightOf : ByteArray := prog_4_method_7_code
def yX2_weightOf : MethodName := ⟨RX2, "weightOf", "(I)I"⟩
abbrev cX2_springOf : ByteArray := prog_4_method_8_code
def yX2_springOf : MethodName := ⟨RX2, "springOf", "(I)I"⟩
abbrev cX2_tieOf : ByteArray := prog_4_method_9_code
def yX2_tieOf : MethodName := ⟨RX2, "tieOf", "(I)I"⟩
def RX3 : String := "ShaftDiscs$Speeds"
def TX3 : u_T := fun k => match k with
  | 0 => ("ShaftDiscs$Speeds", "weights", "[J", true)
  | 1 => ("ShaftDiscs$Speeds", "springs", "[J", true)
  | 2 => ("ShaftDiscs$Speeds", "ties", "[J", true)
  | 3 => ("ShaftDiscs$Speeds", "determinants", "[J", true)
  | 4 => ("ShaftDiscs$Speeds", "boxes", "[I", true)
  | 5 => ("ShaftDiscs$Speeds", "discs", "I", false)
  | _ => ("ShaftDiscs$Speeds", "over", "Z", false)
def tyX3 : Nat → FieldType := fun k => match k with
  | 0 => .array .long
  | 1 => .array .long
  | 2 => .array .long
  | 3 => .array .long
  | 4 => .array .int
  | 5 => .int
  | _ => .boolean
theorem nmX3 : ∀ a, a < 7 → ∀ b, b < 7 → a ≠ b → (TX3 a).2.1 ≠ (TX3 b).2.1 := by decide +kernel
theorem tyX3_ok : ∀ k, k < 7 → parseFieldDescriptor (TX3 k).2.2.1 = some (tyX3 k) := by decide +kernel
abbrev cX3_init : ByteArray := prog_5_method_1_code
def yX3_init : MethodName := ⟨RX3, "<init>", "()V"⟩
abbrev cX3_measure : ByteArray := prog_5_method_2_code
def yX3_measure : MethodName := ⟨RX3, "measure", "(LShaftDiscs$Shaft;)V"⟩
abbrev cX3_reaches : ByteArray := prog_5_method_3_code
def yX3_reaches : MethodName := ⟨RX3, "reaches", "(II)Z"⟩
abbrev cX3_diagonal : ByteArray := prog_5_method_4_code
def yX3_diagonal : MethodName := ⟨RX3, "diagonal", "(II)J"⟩
abbrev cX3_times : ByteArray := prog_5_method_5_code
def yX3_times : MethodName := ⟨RX3, "times", "(JJ)J"⟩
abbrev cX3_less : ByteArray := prog_5_method_6_code
def yX3_less : MethodName := ⟨RX3, "less", "(JJ)J"⟩
abbrev cX3_belowAt : ByteArray := prog_5_method_7_code
def yX3_belowAt : MethodName := ⟨RX3, "belowAt", "(I)I"⟩
abbrev cX3_boxOf : ByteArray := prog_5_method_8_code
def yX3_boxOf : MethodName := ⟨RX3, "boxOf", "(I)I"⟩
abbrev cX3_boxesAll : ByteArray := prog_5_method_9_code
def yX3_boxesAll : MethodName := ⟨RX3, "boxesAll", "()Z"⟩
abbrev cX3_widestGap : ByteArray := prog_5_method_10_code
def yX3_widestGap : MethodName := ⟨RX3, "widestGap", "()I"⟩
abbrev cX3_gapAt : ByteArray := prog_5_method_11_code
def yX3_gapAt : MethodName := ⟨RX3, "gapAt", "(I)I"⟩
abbrev cX3_isClearBy : ByteArray := prog_5_method_12_code
def yX3_isClearBy : MethodName := ⟨RX3, "isClearBy", "(II)Z"⟩
def RX4 : String := "ShaftDiscs"
def TX4 : u_T := fun k => match k with
  | 0 => ("ShaftDiscs", "lanes", "[I", true)
  | 1 => ("ShaftDiscs", "sizes", "[I", true)
  | 2 => ("ShaftDiscs", "items", "[[I", true)
  | 3 => ("ShaftDiscs", "reader", "LShaftDiscs$Reader;", true)
  | 4 => ("ShaftDiscs", "shaft", "LShaftDiscs$Shaft;", true)
  | 5 => ("ShaftDiscs", "tried", "LShaftDiscs$Shaft;", true)
  | 6 => ("ShaftDiscs", "firstImage", "LShaftDiscs$Shaft;", true)
  | 7 => ("ShaftDiscs", "secondImage", "LShaftDiscs$Shaft;", true)
  | 8 => ("ShaftDiscs", "acts", "LShaftDiscs$Acts;", true)
  | 9 => ("ShaftDiscs", "speeds", "LShaftDiscs$Speeds;", true)
  | 10 => ("ShaftDiscs", "traced", "[I", true)
  | 11 => ("ShaftDiscs", "tracedCount", "I", false)
  | 12 => ("ShaftDiscs", "latestFault", "I", false)
  | _ => ("ShaftDiscs", "finding", "I", false)
def tyX4 : Nat → FieldType := fun k => match k with
  | 0 => .array .int
  | 1 => .array .int
  | 2 => .array (.array .int)
  | 3 => .object "ShaftDiscs$Reader"
  | 4 => .object "ShaftDiscs$Shaft"
  | 5 => .object "ShaftDiscs$Shaft"
  | 6 => .object "ShaftDiscs$Shaft"
  | 7 => .object "ShaftDiscs$Shaft"
  | 8 => .object "ShaftDiscs$Acts"
  | 9 => .object "ShaftDiscs$Speeds"
  | 10 => .array .int
  | 11 => .int
  | 12 => .int
  | _ => .int
theorem nmX4 : ∀ a, a < 14 → ∀ b, b < 14 → a ≠ b → (TX4 a).2.1 ≠ (TX4 b).2.1 := by decide +kernel
theorem tyX4_ok : ∀ k, k < 14 → parseFieldDescriptor (TX4 k).2.2.1 = some (tyX4 k) := by decide +kernel
abbrev cX4_init : ByteArray := prog_1_method_1_code
def yX4_init : MethodName := ⟨RX4, "<init>", "()V"⟩
abbrev cX4_row : ByteArray := prog_1_method_2_code
def yX4_row : MethodName := ⟨RX4, "row", "(III)I"⟩
abbrev cX4_set : ByteArray := prog_1_method_3_code
def yX4_set : MethodName := ⟨RX4, "set", "(III)I"⟩
abbrev cX4_copy : ByteArray := prog_1_method_4_code
def yX4_copy : MethodName := ⟨RX4, "copy", "(IIIII)I"⟩
abbrev cX4_drop : ByteArray := prog_1_method_5_code
def yX4_drop : MethodName := ⟨RX4, "drop", "(I)I"⟩
abbrev cX4_isRow : ByteArray := prog_1_method_6_code
def yX4_isRow : MethodName := ⟨RX4, "isRow", "(I)Z"⟩
abbrev cX4_isMissing : ByteArray := prog_1_method_7_code
def yX4_isMissing : MethodName := ⟨RX4, "isMissing", "(I)Z"⟩
abbrev cX4_isWithin : ByteArray := prog_1_method_8_code
def yX4_isWithin : MethodName := ⟨RX4, "isWithin", "(III)Z"⟩
abbrev cX4_narrowed : ByteArray := prog_1_method_9_code
def yX4_narrowed : MethodName := ⟨RX4, "narrowed", "(II)I"⟩
abbrev cX4_feed : ByteArray := prog_1_method_10_code
def yX4_feed : MethodName := ⟨RX4, "feed", "(I)I"⟩
abbrev cX4_shaft : ByteArray := prog_1_method_11_code
def yX4_shaft : MethodName := ⟨RX4, "shaft", "()I"⟩
abbrev cX4_fault : ByteArray := prog_1_method_12_code
def yX4_fault : MethodName := ⟨RX4, "fault", "()I"⟩
abbrev cX4_undo : ByteArray := prog_1_method_13_code
def yX4_undo : MethodName := ⟨RX4, "undo", "()I"⟩
abbrev cX4_change : ByteArray := prog_1_method_14_code
def yX4_change : MethodName := ⟨RX4, "change", "(III)I"⟩
abbrev cX4_become : ByteArray := prog_1_method_15_code
def yX4_become : MethodName := ⟨RX4, "become", "(II)I"⟩
abbrev cX4_mark : ByteArray := prog_1_method_16_code
def yX4_mark : MethodName := ⟨RX4, "mark", "(I)I"⟩
abbrev cX4_swap : ByteArray := prog_1_method_17_code
def yX4_swap : MethodName := ⟨RX4, "swap", "(II)I"⟩
abbrev cX4_disc : ByteArray := prog_1_method_18_code
def yX4_disc : MethodName := ⟨RX4, "disc", "(II)I"⟩
abbrev cX4_put : ByteArray := prog_1_method_19_code
def yX4_put : MethodName := ⟨RX4, "put", "(III)I"⟩
abbrev cX4_isMark : ByteArray := prog_1_method_20_code
def yX4_isMark : MethodName := ⟨RX4, "isMark", "(I)Z"⟩
abbrev cX4_determinant : ByteArray := prog_1_method_21_code
def yX4_determinant : MethodName := ⟨RX4, "determinant", "(II)J"⟩
abbrev cX4_below : ByteArray := prog_1_method_22_code
def yX4_below : MethodName := ⟨RX4, "below", "(I)I"⟩
abbrev cX4_box : ByteArray := prog_1_method_23_code
def yX4_box : MethodName := ⟨RX4, "box", "(I)I"⟩
abbrev cX4_widest : ByteArray := prog_1_method_24_code
def yX4_widest : MethodName := ⟨RX4, "widest", "(I)I"⟩
abbrev cX4_clear : ByteArray := prog_1_method_25_code
def yX4_clear : MethodName := ⟨RX4, "clear", "(II)I"⟩
abbrev cX4_stiffer : ByteArray := prog_1_method_26_code
def yX4_stiffer : MethodName := ⟨RX4, "stiffer", "(II)I"⟩
abbrev cX4_sets : ByteArray := prog_1_method_27_code
def yX4_sets : MethodName := ⟨RX4, "sets", "(II)I"⟩
abbrev cX4_share : ByteArray := prog_1_method_28_code
def yX4_share : MethodName := ⟨RX4, "share", "(II)I"⟩
abbrev cX4_byTurns : ByteArray := prog_1_method_29_code
def yX4_byTurns : MethodName := ⟨RX4, "byTurns", "(I)I"⟩
abbrev cX4_who : ByteArray := prog_1_method_30_code
def yX4_who : MethodName := ⟨RX4, "who", "(IIIII)I"⟩
abbrev cX4_broken : ByteArray := prog_1_method_31_code
def yX4_broken : MethodName := ⟨RX4, "broken", "(III)J"⟩
abbrev cX4_drawn : ByteArray := prog_1_method_32_code
def yX4_drawn : MethodName := ⟨RX4, "drawn", "(III)I"⟩
abbrev cX4_image : ByteArray := prog_1_method_33_code
def yX4_image : MethodName := ⟨RX4, "image", "(I)I"⟩
abbrev cX4_restore : ByteArray := prog_1_method_34_code
def yX4_restore : MethodName := ⟨RX4, "restore", "(I)I"⟩
abbrev cX4_belowMarkTried : ByteArray := prog_1_method_35_code
def yX4_belowMarkTried : MethodName := ⟨RX4, "belowMarkTried", "()I"⟩
abbrev cX4_turned : ByteArray := prog_1_method_36_code
def yX4_turned : MethodName := ⟨RX4, "turned", "(IZ)I"⟩
abbrev cX4_bitsThatFit : ByteArray := prog_1_method_37_code
def yX4_bitsThatFit : MethodName := ⟨RX4, "bitsThatFit", "(IIIII)I"⟩
abbrev cX4_springsThatFit : ByteArray := prog_1_method_38_code
def yX4_springsThatFit : MethodName := ⟨RX4, "springsThatFit", "(IZIII)I"⟩
abbrev cX4_triedBoxesAre : ByteArray := prog_1_method_39_code
def yX4_triedBoxesAre : MethodName := ⟨RX4, "triedBoxesAre", "(III)Z"⟩
abbrev cX4_casesOf : ByteArray := prog_1_method_40_code
def yX4_casesOf : MethodName := ⟨RX4, "casesOf", "(III)J"⟩
abbrev cX4_commonDivisor : ByteArray := prog_1_method_41_code
def yX4_commonDivisor : MethodName := ⟨RX4, "commonDivisor", "(JJ)J"⟩
abbrev cX4_drawOne : ByteArray := prog_1_method_42_code
def yX4_drawOne : MethodName := ⟨RX4, "drawOne", "(J)V"⟩
abbrev cX4_isImage : ByteArray := prog_1_method_43_code
def yX4_isImage : MethodName := ⟨RX4, "isImage", "(I)Z"⟩
abbrev cX4_imageAt : ByteArray := prog_1_method_44_code
def yX4_imageAt : MethodName := ⟨RX4, "imageAt", "(I)LShaftDiscs$Shaft;"⟩
abbrev cX4_kind : ByteArray := prog_1_method_45_code
def yX4_kind : MethodName := ⟨RX4, "kind", "(I)I"⟩
abbrev cX4_as : ByteArray := prog_1_method_46_code
def yX4_as : MethodName := ⟨RX4, "as", "(II)I"⟩
abbrev cX4_ask : ByteArray := prog_1_method_47_code
def yX4_ask : MethodName := ⟨RX4, "ask", "(II)I"⟩
abbrev cX4_trace : ByteArray := prog_1_method_48_code
def yX4_trace : MethodName := ⟨RX4, "trace", "(I)I"⟩
abbrev cX4_count : ByteArray := prog_1_method_49_code
def yX4_count : MethodName := ⟨RX4, "count", "(I)I"⟩
abbrev cX4_status : ByteArray := prog_1_method_50_code
def yX4_status : MethodName := ⟨RX4, "status", "()I"⟩
abbrev cX4_isOfKind : ByteArray := prog_1_method_51_code
def yX4_isOfKind : MethodName := ⟨RX4, "isOfKind", "(II)Z"⟩
abbrev cX4_asked : ByteArray := prog_1_method_52_code
def yX4_asked : MethodName := ⟨RX4, "asked", "(III)I"⟩
abbrev cX4_answerOf : ByteArray := prog_1_method_53_code
def yX4_answerOf : MethodName := ⟨RX4, "answerOf", "(III)I"⟩
abbrev cX4_leaveTrace : ByteArray := prog_1_method_54_code
def yX4_leaveTrace : MethodName := ⟨RX4, "leaveTrace", "(I)V"⟩
abbrev cX4_rowsThatStand : ByteArray := prog_1_method_55_code
def yX4_rowsThatStand : MethodName := ⟨RX4, "rowsThatStand", "()I"⟩
abbrev cX4_found : ByteArray := prog_1_method_56_code
def yX4_found : MethodName := ⟨RX4, "found", "(I)I"⟩
abbrev cX4_clean : ByteArray := prog_1_method_57_code
def yX4_clean : MethodName := ⟨RX4, "clean", "(I)I"⟩
abbrev cX4_answered : ByteArray := prog_1_method_58_code
def yX4_answered : MethodName := ⟨RX4, "answered", "(I)I"⟩
def RX5 : String := "ShaftDiscsModel"
def TX5 : u_T := fun k => match k with
  | 0 => ("ShaftDiscsModel", "thrown", "I", false)
  | 1 => ("ShaftDiscsModel", "status", "I", false)
  | 2 => ("ShaftDiscsModel", "lane", "[I", true)
  | 3 => ("ShaftDiscsModel", "many", "[I", true)
  | 4 => ("ShaftDiscsModel", "item", "[I", true)
  | 5 => ("ShaftDiscsModel", "shaft", "[I", true)
  | 6 => ("ShaftDiscsModel", "fresh", "[I", true)
  | 7 => ("ShaftDiscsModel", "then", "[I", true)
  | 8 => ("ShaftDiscsModel", "was", "[I", true)
  | 9 => ("ShaftDiscsModel", "acts", "I", false)
  | 10 => ("ShaftDiscsModel", "tape", "[I", true)
  | 11 => ("ShaftDiscsModel", "taped", "I", false)
  | 12 => ("ShaftDiscsModel", "cursor", "I", false)
  | 13 => ("ShaftDiscsModel", "start", "I", false)
  | 14 => ("ShaftDiscsModel", "token", "I", false)
  | 15 => ("ShaftDiscsModel", "value", "I", false)
  | 16 => ("ShaftDiscsModel", "fault", "I", false)
  | 17 => ("ShaftDiscsModel", "faultAt", "I", false)
  | 18 => ("ShaftDiscsModel", "latest", "I", false)
  | 19 => ("ShaftDiscsModel", "over", "Z", false)
  | 20 => ("ShaftDiscsModel", "determinants", "[J", true)
  | 21 => ("ShaftDiscsModel", "boxes", "[I", true)
  | 22 => ("ShaftDiscsModel", "isKept", "[Z", true)
  | 23 => ("ShaftDiscsModel", "kept", "[I", true)
  | 24 => ("ShaftDiscsModel", "trace", "[I", true)
  | _ => ("ShaftDiscsModel", "traced", "I", false)
def tyX5 : Nat → FieldType := fun k => match k with
  | 0 => .int
  | 1 => .int
  | 2 => .array .int
  | 3 => .array .int
  | 4 => .array .int
  | 5 => .array .int
  | 6 => .array .int
  | 7 => .array .int
  | 8 => .array .int
  | 9 => .int
  | 10 => .array .int
  | 11 => .int
  | 12 => .int
  | 13 => .int
  | 14 => .int
  | 15 => .int
  | 16 => .int
  | 17 => .int
  | 18 => .int
  | 19 => .boolean
  | 20 => .array .long
  | 21 => .array .int
  | 22 => .array .boolean
  | 23 => .array .int
  | 24 => .array .int
  | _ => .int
theorem nmX5 : ∀ a, a < 26 → ∀ b, b < 26 → a ≠ b → (TX5 a).2.1 ≠ (TX5 b).2.1 := by decide +kernel
theorem tyX5_ok : ∀ k, k < 26 → parseFieldDescriptor (TX5 k).2.2.1 = some (tyX5 k) := by decide +kernel
abbrev cX5_init : ByteArray := prog_7_method_1_code
def yX5_init : MethodName := ⟨RX5, "<init>", "()V"⟩
abbrev cX5_in : ByteArray := prog_7_method_3_code
def yX5_in : MethodName := ⟨RX5, "in", "(JJJ)Z"⟩
abbrev cX5_finding : ByteArray := prog_7_method_4_code
def yX5_finding : MethodName := ⟨RX5, "finding", "(I)I"⟩
abbrev cX5_isRow : ByteArray := prog_7_method_5_code
def yX5_isRow : MethodName := ⟨RX5, "isRow", "(I)Z"⟩
abbrev cX5_row : ByteArray := prog_7_method_6_code
def yX5_row : MethodName := ⟨RX5, "row", "(III)I"⟩
abbrev cX5_set : ByteArray := prog_7_method_7_code
def yX5_set : MethodName := ⟨RX5, "set", "(III)I"⟩
abbrev cX5_copy : ByteArray := prog_7_method_8_code
def yX5_copy : MethodName := ⟨RX5, "copy", "(IIIII)I"⟩
abbrev cX5_drop : ByteArray := prog_7_method_9_code
def yX5_drop : MethodName := ⟨RX5, "drop", "(I)I"⟩
abbrev cX5_feed : ByteArray := prog_7_method_10_code
def yX5_feed : MethodName := ⟨RX5, "feed", "(I)I"⟩
abbrev cX5_bad : ByteArray := prog_7_method_11_code
def yX5_bad : MethodName := ⟨RX5, "bad", "(I)V"⟩
abbrev cX5_nextToken : ByteArray := prog_7_method_12_code
def yX5_nextToken : MethodName := ⟨RX5, "nextToken", "()V"⟩
abbrev cX5_must : ByteArray := prog_7_method_13_code
def yX5_must : MethodName := ⟨RX5, "must", "(Z)V"⟩
abbrev cX5_isLetter : ByteArray := prog_7_method_14_code
def yX5_isLetter : MethodName := ⟨RX5, "isLetter", "(I)Z"⟩
abbrev cX5_number : ByteArray := prog_7_method_15_code
def yX5_number : MethodName := ⟨RX5, "number", "(II)I"⟩
abbrev cX5_mustSign : ByteArray := prog_7_method_16_code
def yX5_mustSign : MethodName := ⟨RX5, "mustSign", "(I)V"⟩
abbrev cX5_begin : ByteArray := prog_7_method_17_code
def yX5_begin : MethodName := ⟨RX5, "begin", "()V"⟩
abbrev cX5_failed : ByteArray := prog_7_method_18_code
def yX5_failed : MethodName := ⟨RX5, "failed", "()Z"⟩
abbrev cX5_fault : ByteArray := prog_7_method_19_code
def yX5_fault : MethodName := ⟨RX5, "fault", "()I"⟩
abbrev cX5_kindBy : ByteArray := prog_7_method_20_code
def yX5_kindBy : MethodName := ⟨RX5, "kindBy", "(I)I"⟩
abbrev cX5_isSort : ByteArray := prog_7_method_21_code
def yX5_isSort : MethodName := ⟨RX5, "isSort", "()Z"⟩
abbrev cX5_readDisc : ByteArray := prog_7_method_22_code
def yX5_readDisc : MethodName := ⟨RX5, "readDisc", "()V"⟩
abbrev cX5_shaft : ByteArray := prog_7_method_23_code
def yX5_shaft : MethodName := ⟨RX5, "shaft", "()I"⟩
abbrev cX5_isThere : ByteArray := prog_7_method_24_code
def yX5_isThere : MethodName := ⟨RX5, "isThere", "()Z"⟩
abbrev cX5_isDisc : ByteArray := prog_7_method_25_code
def yX5_isDisc : MethodName := ⟨RX5, "isDisc", "(I)Z"⟩
abbrev cX5_has : ByteArray := prog_7_method_26_code
def yX5_has : MethodName := ⟨RX5, "has", "(II)Z"⟩
abbrev cX5_of : ByteArray := prog_7_method_27_code
def yX5_of : MethodName := ⟨RX5, "of", "([III)I"⟩
abbrev cX5_ratio : ByteArray := prog_7_method_28_code
def yX5_ratio : MethodName := ⟨RX5, "ratio", "([II)I"⟩
abbrev cX5_weight : ByteArray := prog_7_method_29_code
def yX5_weight : MethodName := ⟨RX5, "weight", "([II)I"⟩
abbrev cX5_spring : ByteArray := prog_7_method_30_code
def yX5_spring : MethodName := ⟨RX5, "spring", "([II)I"⟩
abbrev cX5_tie : ByteArray := prog_7_method_31_code
def yX5_tie : MethodName := ⟨RX5, "tie", "([II)I"⟩
abbrev cX5_product : ByteArray := prog_7_method_32_code
def yX5_product : MethodName := ⟨RX5, "product", "(JJ)J"⟩
abbrev cX5_difference : ByteArray := prog_7_method_33_code
def yX5_difference : MethodName := ⟨RX5, "difference", "(JJ)J"⟩
abbrev cX5_reckon : ByteArray := prog_7_method_34_code
def yX5_reckon : MethodName := ⟨RX5, "reckon", "([III)V"⟩
abbrev cX5_belowOf : ByteArray := prog_7_method_35_code
def yX5_belowOf : MethodName := ⟨RX5, "belowOf", "([II)I"⟩
abbrev cX5_boxOf : ByteArray := prog_7_method_36_code
def yX5_boxOf : MethodName := ⟨RX5, "boxOf", "([II)I"⟩
abbrev cX5_layBoxes : ByteArray := prog_7_method_37_code
def yX5_layBoxes : MethodName := ⟨RX5, "layBoxes", "([II)V"⟩
abbrev cX5_layThen : ByteArray := prog_7_method_38_code
def yX5_layThen : MethodName := ⟨RX5, "layThen", "()V"⟩
abbrev cX5_keep : ByteArray := prog_7_method_39_code
def yX5_keep : MethodName := ⟨RX5, "keep", "()V"⟩
abbrev cX5_change : ByteArray := prog_7_method_40_code
def yX5_change : MethodName := ⟨RX5, "change", "(III)I"⟩
abbrev cX5_become : ByteArray := prog_7_method_41_code
def yX5_become : MethodName := ⟨RX5, "become", "(II)I"⟩
abbrev cX5_mark : ByteArray := prog_7_method_42_code
def yX5_mark : MethodName := ⟨RX5, "mark", "(I)I"⟩
abbrev cX5_swap : ByteArray := prog_7_method_43_code
def yX5_swap : MethodName := ⟨RX5, "swap", "(II)I"⟩
abbrev cX5_undo : ByteArray := prog_7_method_44_code
def yX5_undo : MethodName := ⟨RX5, "undo", "()I"⟩
abbrev cX5_disc : ByteArray := prog_7_method_45_code
def yX5_disc : MethodName := ⟨RX5, "disc", "(II)I"⟩
abbrev cX5_unless : ByteArray := prog_7_method_46_code
def yX5_unless : MethodName := ⟨RX5, "unless", "(I)I"⟩
abbrev cX5_determinant : ByteArray := prog_7_method_47_code
def yX5_determinant : MethodName := ⟨RX5, "determinant", "(II)J"⟩
abbrev cX5_below : ByteArray := prog_7_method_48_code
def yX5_below : MethodName := ⟨RX5, "below", "(I)I"⟩
abbrev cX5_box : ByteArray := prog_7_method_49_code
def yX5_box : MethodName := ⟨RX5, "box", "(I)I"⟩
abbrev cX5_widest : ByteArray := prog_7_method_50_code
def yX5_widest : MethodName := ⟨RX5, "widest", "(I)I"⟩
abbrev cX5_isClear : ByteArray := prog_7_method_51_code
def yX5_isClear : MethodName := ⟨RX5, "isClear", "(II)Z"⟩
abbrev cX5_clear : ByteArray := prog_7_method_52_code
def yX5_clear : MethodName := ⟨RX5, "clear", "(II)I"⟩
abbrev cX5_stiffer : ByteArray := prog_7_method_53_code
def yX5_stiffer : MethodName := ⟨RX5, "stiffer", "(II)I"⟩
abbrev cX5_sets : ByteArray := prog_7_method_54_code
def yX5_sets : MethodName := ⟨RX5, "sets", "(II)I"⟩
abbrev cX5_together : ByteArray := prog_7_method_55_code
def yX5_together : MethodName := ⟨RX5, "together", "(I)I"⟩
abbrev cX5_share : ByteArray := prog_7_method_56_code
def yX5_share : MethodName := ⟨RX5, "share", "(II)I"⟩
abbrev cX5_afterTurns : ByteArray := prog_7_method_57_code
def yX5_afterTurns : MethodName := ⟨RX5, "afterTurns", "(III)I"⟩
abbrev cX5_byTurns : ByteArray := prog_7_method_58_code
def yX5_byTurns : MethodName := ⟨RX5, "byTurns", "(I)I"⟩
abbrev cX5_rowFound : ByteArray := prog_7_method_59_code
def yX5_rowFound : MethodName := ⟨RX5, "rowFound", "(III)I"⟩
abbrev cX5_isBoxedSo : ByteArray := prog_7_method_60_code
def yX5_isBoxedSo : MethodName := ⟨RX5, "isBoxedSo", "(II)Z"⟩
abbrev cX5_who : ByteArray := prog_7_method_61_code
def yX5_who : MethodName := ⟨RX5, "who", "(IIIII)I"⟩
abbrev cX5_broken : ByteArray := prog_7_method_62_code
def yX5_broken : MethodName := ⟨RX5, "broken", "(III)J"⟩
abbrev cX5_drawn : ByteArray := prog_7_method_63_code
def yX5_drawn : MethodName := ⟨RX5, "drawn", "(III)I"⟩
abbrev cX5_image : ByteArray := prog_7_method_64_code
def yX5_image : MethodName := ⟨RX5, "image", "(I)I"⟩
abbrev cX5_restore : ByteArray := prog_7_method_65_code
def yX5_restore : MethodName := ⟨RX5, "restore", "(I)I"⟩
abbrev cX5_isOf : ByteArray := prog_7_method_66_code
def yX5_isOf : MethodName := ⟨RX5, "isOf", "(II)Z"⟩
abbrev cX5_kind : ByteArray := prog_7_method_67_code
def yX5_kind : MethodName := ⟨RX5, "kind", "(I)I"⟩
abbrev cX5_as : ByteArray := prog_7_method_68_code
def yX5_as : MethodName := ⟨RX5, "as", "(II)I"⟩
abbrev cX5_began : ByteArray := prog_7_method_69_code
def yX5_began : MethodName := ⟨RX5, "began", "(I)V"⟩
abbrev cX5_plainSize : ByteArray := prog_7_method_70_code
def yX5_plainSize : MethodName := ⟨RX5, "plainSize", "(I)I"⟩
abbrev cX5_tiedSize : ByteArray := prog_7_method_71_code
def yX5_tiedSize : MethodName := ⟨RX5, "tiedSize", "(I)I"⟩
abbrev cX5_markOf : ByteArray := prog_7_method_72_code
def yX5_markOf : MethodName := ⟨RX5, "markOf", "(I)I"⟩
abbrev cX5_sizeOf : ByteArray := prog_7_method_73_code
def yX5_sizeOf : MethodName := ⟨RX5, "sizeOf", "(I)I"⟩
abbrev cX5_ask : ByteArray := prog_7_method_74_code
def yX5_ask : MethodName := ⟨RX5, "ask", "(II)I"⟩
abbrev cX5_trace : ByteArray := prog_7_method_75_code
def yX5_trace : MethodName := ⟨RX5, "trace", "(I)I"⟩
abbrev cX5_count : ByteArray := prog_7_method_76_code
def yX5_count : MethodName := ⟨RX5, "count", "(I)I"⟩
abbrev cX5_status : ByteArray := prog_7_method_77_code
def yX5_status : MethodName := ⟨RX5, "status", "()I"⟩
abbrev vwCl : List vw_C := [(RX0, TX0, 4), (RX1, TX1, 6), (RX2, TX2, 3), (RX3, TX3, 7), (RX4, TX4, 14), (RX5, TX5, 26)]
def RL : String := "ShaftDiscsLaw"
theorem jm_in {w : Cond} (h : w ∈ tables_1) : w ∈ lw_tbl := List.mem_append_right _ h
set_option maxRecDepth 20000 in
theorem inX0 : ∀ w ∈ u_ws RX0 TX0 4, w ∈ lw_tbl := by
  have h : ∀ k, k < 4 → u_lay RX0 TX0 k ∈ tables_1 := fun k hk => match k, hk with
    | 0, _ => List.mem_of_getElem? (i := 85) (by decide +kernel)
    | 1, _ => List.mem_of_getElem? (i := 87) (by decide +kernel)
    | 2, _ => List.mem_of_getElem? (i := 89) (by decide +kernel)
    | 3, _ => List.mem_of_getElem? (i := 91) (by decide +kernel)
    | k + 4, h => absurd h (by omega)
  intro w hw
  obtain ⟨k, hk, rfl⟩ := List.mem_map.mp hw
  exact jm_in (h k (List.mem_range.mp hk))
set_option maxRecDepth 20000 in
theorem inX1 : ∀ w ∈ u_ws RX1 TX1 6, w ∈ lw_tbl := by
  have h : ∀ k, k < 6 → u_lay RX1 TX1 k ∈ tables_1 := fun k hk => match k, hk with
    | 0, _ => List.mem_of_getElem? (i := 34) (by decide +kernel)
    | 1, _ => List.mem_of_getElem? (i := 36) (by decide +kernel)
    | 2, _ => List.mem_of_getElem? (i := 38) (by decide +kernel)
    | 3, _ => List.mem_of_getElem? (i := 40) (by decide +kernel)
    | 4, _ => List.mem_of_getElem? (i := 42) (by decide +kernel)
    | 5, _ => List.mem_of_getElem? (i := 44) (by decide +kernel)
    | k + 6, h => absurd h (by omega)
  intro w hw
  obtain ⟨k, hk, rfl⟩ := List.mem_map.mp hw
  exact jm_in (h k (List.mem_range.mp hk))
set_option maxRecDepth 20000 in
theorem inX2 : ∀ w ∈ u_ws RX2 TX2 3, w ∈ lw_tbl := by
  have h : ∀ k, k < 3 → u_lay RX2 TX2 k ∈ tables_1 := fun k hk => match k, hk with
    | 0, _ => List.mem_of_getElem? (i := 67) (by decide +kernel)
    | 1, _ => List.mem_of_getElem? (i := 69) (by decide +kernel)
    | 2, _ => List.mem_of_getElem? (i := 71) (by decide +kernel)
    | k + 3, h => absurd h (by omega)
  intro w hw
  obtain ⟨k, hk, rfl⟩ := List.mem_map.mp hw
  exact jm_in (h k (List.mem_range.mp hk))
set_option maxRecDepth 20000 in
theorem inX3 : ∀ w ∈ u_ws RX3 TX3 7, w ∈ lw_tbl := by
  have h : ∀ k, k < 7 → u_lay RX3 TX3 k ∈ tables_1 := fun k hk => match k, hk with
    | 0, _ => List.mem_of_getElem? (i := 108) (by decide +kernel)
    | 1, _ => List.mem_of_getElem? (i := 110) (by decide +kernel)
    | 2, _ => List.mem_of_getElem? (i := 112) (by decide +kernel)
    | 3, _ => List.mem_of_getElem? (i := 114) (by decide +kernel)
    | 4, _ => List.mem_of_getElem? (i := 116) (by decide +kernel)
    | 5, _ => List.mem_of_getElem? (i := 118) (by decide +kernel)
    | 6, _ => List.mem_of_getElem? (i := 120) (by decide +kernel)
    | k + 7, h => absurd h (by omega)
  intro w hw
  obtain ⟨k, hk, rfl⟩ := List.mem_map.mp hw
  exact jm_in (h k (List.mem_range.mp hk))
set_option maxRecDepth 20000 in
theorem inX4 : ∀ w ∈ u_ws RX4 TX4 14, w ∈ lw_tbl := by
  have h : ∀ k, k < 14 → u_lay RX4 TX4 k ∈ tables_1 := fun k hk => match k, hk with
    | 0, _ => List.mem_of_getElem? (i := 138) (by decide +kernel)
    | 1, _ => List.mem_of_getElem? (i := 140) (by decide +kernel)
    | 2, _ => List.mem_of_getElem? (i := 142) (by decide +kernel)
    | 3, _ => List.mem_of_getElem? (i := 144) (by decide +kernel)
    | 4, _ => List.mem_of_getElem? (i := 146) (by decide +kernel)
    | 5, _ => List.mem_of_getElem? (i := 148) (by decide +kernel)
    | 6, _ => List.mem_of_getElem? (i := 150) (by decide +kernel)
    | 7, _ => List.mem_of_getElem? (i := 152) (by decide +kernel)
    | 8, _ => List.mem_of_getElem? (i := 154) (by decide +kernel)
    | 9, _ => List.mem_of_getElem? (i := 156) (by decide +kernel)
    | 10, _ => List.mem_of_getElem? (i := 158) (by decide +kernel)
    | 11, _ => List.mem_of_getElem? (i := 160) (by decide +kernel)
    | 12, _ => List.mem_of_getElem? (i := 162) (by decide +kernel)
    | 13, _ => List.mem_of_getElem? (i := 164) (by decide +kernel)
    | k + 14, h => absurd h (by omega)
  intro w hw
  obtain ⟨k, hk, rfl⟩ := List.mem_map.mp hw
  exact jm_in (h k (List.mem_range.mp hk))
set_option maxRecDepth 20000 in
theorem inX5 : ∀ w ∈ u_ws RX5 TX5 26, w ∈ lw_tbl := by
  have h : ∀ k, k < 26 → u_lay RX5 TX5 k ∈ tables_1 := fun k hk => match k, hk with
    | 0, _ => List.mem_of_getElem? (i := 615) (by decide +kernel)
    | 1, _ => List.mem_of_getElem? (i := 617) (by decide +kernel)
    | 2, _ => List.mem_of_getElem? (i := 619) (by decide +kernel)
    | 3, _ => List.mem_of_getElem? (i := 621) (by decide +kernel)
    | 4, _ => List.mem_of_getElem? (i := 623) (by decide +kernel)
    | 5, _ => List.mem_of_getElem? (i := 625) (by decide +kernel)
    | 6, _ => List.mem_of_getElem? (i := 627) (by decide +kernel)
    | 7, _ => List.mem_of_getElem? (i := 629) (by decide +kernel)
    | 8, _ => List.mem_of_getElem? (i := 631) (by decide +kernel)
    | 9, _ => List.mem_of_getElem? (i := 633) (by decide +kernel)
    | 10, _ => List.mem_of_getElem? (i := 635) (by decide +kernel)
    | 11, _ => List.mem_of_getElem? (i := 637) (by decide +kernel)
    | 12, _ => List.mem_of_getElem? (i := 639) (by decide +kernel)
    | 13, _ => List.mem_of_getElem? (i := 641) (by decide +kernel)
    | 14, _ => List.mem_of_getElem? (i := 643) (by decide +kernel)
    | 15, _ => List.mem_of_getElem? (i := 645) (by decide +kernel)
    | 16, _ => List.mem_of_getElem? (i := 647) (by decide +kernel)
    | 17, _ => List.mem_of_getElem? (i := 649) (by decide +kernel)
    | 18, _ => List.mem_of_getElem? (i := 651) (by decide +kernel)
    | 19, _ => List.mem_of_getElem? (i := 653) (by decide +kernel)
    | 20, _ => List.mem_of_getElem? (i := 655) (by decide +kernel)
    | 21, _ => List.mem_of_getElem? (i := 657) (by decide +kernel)
    | 22, _ => List.mem_of_getElem? (i := 659) (by decide +kernel)
    | 23, _ => List.mem_of_getElem? (i := 661) (by decide +kernel)
    | 24, _ => List.mem_of_getElem? (i := 663) (by decide +kernel)
    | 25, _ => List.mem_of_getElem? (i := 665) (by decide +kernel)
    | k + 26, h => absurd h (by omega)
  intro w hw
  obtain ⟨k, hk, rfl⟩ := List.mem_map.mp hw
  exact jm_in (h k (List.mem_range.mp hk))
end
section
-- the code of each method as a list: place, instruction, length; each row decoded
def jm_c0 : List (Nat × Instr × Nat) := [(0, .aload_n 0, 1), (1, .iconst 0, 1), (2, .putfield 21, 3), (5, .return_, 1)]
theorem jm_d0 : ∀ q ∈ jm_c0, decode cX0_forgetAll q.1 = .ok q.2 := by decide +kernel
def jm_c1 : List (Nat × Instr × Nat) := [(0, .aload_n 0, 1), (1, .getfield 21, 3), (4, .bipush 24, 2), (6, .if_icmp .ne 7, 3), (9, .aload_n 0, 1), (10, .invokevirtual 25, 3), (13, .aload_n 0, 1), (14, .getfield 9, 3), (17, .aload_n 0, 1), (18, .getfield 21, 3), (21, .iload_n 1, 1), (22, .iastore, 1), (23, .aload_n 0, 1), (24, .getfield 15, 3), (27, .aload_n 0, 1), (28, .getfield 21, 3), (31, .iload_n 2, 1), (32, .iastore, 1), (33, .aload_n 0, 1), (34, .getfield 18, 3), (37, .aload_n 0, 1), (38, .getfield 21, 3), (41, .iload_n 3, 1), (42, .iastore, 1), (43, .aload_n 0, 1), (44, .dup, 1), (45, .getfield 21, 3), (48, .iconst 1, 1), (49, .iadd, 1), (50, .putfield 21, 3), (53, .return_, 1)]
theorem jm_d1 : ∀ q ∈ jm_c1, decode cX0_keep q.1 = .ok q.2 := by decide +kernel
def jm_c2 : List (Nat × Instr × Nat) := [(0, .aload_n 0, 1), (1, .bipush 23, 2), (3, .putfield 21, 3), (6, .aload_n 0, 1), (7, .getfield 9, 3), (10, .iconst 1, 1), (11, .aload_n 0, 1), (12, .getfield 9, 3), (15, .iconst 0, 1), (16, .aload_n 0, 1), (17, .getfield 21, 3), (20, .invokestatic 28, 3), (23, .aload_n 0, 1), (24, .getfield 15, 3), (27, .iconst 1, 1), (28, .aload_n 0, 1), (29, .getfield 15, 3), (32, .iconst 0, 1), (33, .aload_n 0, 1), (34, .getfield 21, 3), (37, .invokestatic 28, 3), (40, .aload_n 0, 1), (41, .getfield 18, 3), (44, .iconst 1, 1), (45, .aload_n 0, 1), (46, .getfield 18, 3), (49, .iconst 0, 1), (50, .aload_n 0, 1), (51, .getfield 21, 3), (54, .invokestatic 28, 3), (57, .return_, 1)]
theorem jm_d2 : ∀ q ∈ jm_c2, decode cX0_forgetOldest q.1 = .ok q.2 := by decide +kernel
def jm_c3 : List (Nat × Instr × Nat) := [(0, .aload_n 0, 1), (1, .getfield 21, 3), (4, .ifCond .gt 5, 3), (7, .iconst 0, 1), (8, .ireturn, 1), (9, .aload_n 0, 1), (10, .dup, 1), (11, .getfield 21, 3), (14, .iconst 1, 1), (15, .isub, 1), (16, .putfield 21, 3), (19, .aload_n 0, 1), (20, .getfield 9, 3), (23, .aload_n 0, 1), (24, .getfield 21, 3), (27, .iaload, 1), (28, .istore_n 2, 1), (29, .iload_n 2, 1), (30, .iconst 4, 1), (31, .if_icmp .ne 19, 3), (34, .aload_n 1, 1), (35, .aload_n 0, 1), (36, .getfield 18, 3), (39, .aload_n 0, 1), (40, .getfield 21, 3), (43, .iaload, 1), (44, .putfield 34, 3), (47, .goto 99, 3), (50, .iload_n 2, 1), (51, .iconst 5, 1), (52, .if_icmp .ne 44, 3), (55, .aload_n 1, 1), (56, .aload_n 0, 1), (57, .getfield 18, 3), (60, .aload_n 0, 1), (61, .getfield 21, 3), (64, .iaload, 1), (65, .invokevirtual 39, 3), (68, .ifCond .eq 28, 3), (71, .aload_n 1, 1), (72, .aload_n 0, 1), (73, .getfield 15, 3), (76, .aload_n 0, 1), (77, .getfield 21, 3), (80, .iaload, 1), (81, .aload_n 0, 1), (82, .getfield 18, 3), (85, .aload_n 0, 1), (86, .getfield 21, 3), (89, .iaload, 1), (90, .invokevirtual 43, 3), (93, .goto 53, 3), (96, .iload_n 2, 1), (97, .ifCond .lt 49, 3), (100, .iload_n 2, 1), (101, .iconst 4, 1), (102, .if_icmp .ge 44, 3), (105, .aload_n 1, 1), (106, .aload_n 0, 1), (107, .getfield 15, 3), (110, .aload_n 0, 1), (111, .getfield 21, 3), (114, .iaload, 1), (115, .invokevirtual 39, 3), (118, .ifCond .eq 28, 3), (121, .aload_n 1, 1), (122, .getfield 47, 3), (125, .iload_n 2, 1), (126, .aaload, 1), (127, .aload_n 0, 1), (128, .getfield 15, 3), (131, .aload_n 0, 1), (132, .getfield 21, 3), (135, .iaload, 1), (136, .aload_n 0, 1), (137, .getfield 18, 3), (140, .aload_n 0, 1), (141, .getfield 21, 3), (144, .iaload, 1), (145, .iastore, 1), (146, .iconst 1, 1), (147, .ireturn, 1)]
theorem jm_d3 : ∀ q ∈ jm_c3, decode cX0_takeBack q.1 = .ok q.2 := by decide +kernel
def jm_c4 : List (Nat × Instr × Nat) := [(0, .aload_n 0, 1), (1, .getfield 15, 3), (4, .bipush 80, 2), (6, .if_icmp .lt 5, 3), (9, .iconst 0, 1), (10, .ireturn, 1), (11, .aload_n 0, 1), (12, .getfield 9, 3), (15, .aload_n 0, 1), (16, .getfield 15, 3), (19, .iload_n 1, 1), (20, .iastore, 1), (21, .aload_n 0, 1), (22, .dup, 1), (23, .getfield 15, 3), (26, .iconst 1, 1), (27, .iadd, 1), (28, .putfield 15, 3), (31, .iconst 1, 1), (32, .ireturn, 1)]
theorem jm_d4 : ∀ q ∈ jm_c4, decode cX1_takes q.1 = .ok q.2 := by decide +kernel
def jm_c5 : List (Nat × Instr × Nat) := [(0, .aload_n 0, 1), (1, .iconst 0, 1), (2, .putfield 19, 3), (5, .aload_n 0, 1), (6, .aload_n 1, 1), (7, .invokevirtual 31, 3), (10, .ifCond .eq 15, 3), (13, .aload_n 0, 1), (14, .aload_n 1, 1), (15, .invokevirtual 35, 3), (18, .ifCond .eq 7, 3), (21, .iconst 1, 1), (22, .goto 4, 3), (25, .iconst 0, 1), (26, .ireturn, 1)]
theorem jm_d5 : ∀ q ∈ jm_c5, decode cX1_reads q.1 = .ok q.2 := by decide +kernel
def jm_c6 : List (Nat × Instr × Nat) := [(0, .aload_n 0, 1), (1, .bipush 109, 2), (3, .invokevirtual 38, 3), (6, .ifCond .eq 13, 3), (9, .aload_n 0, 1), (10, .iconst 0, 1), (11, .bipush 20, 2), (13, .invokevirtual 42, 3), (16, .ifCond .ne 5, 3), (19, .iconst 0, 1), (20, .ireturn, 1), (21, .bipush 10, 2), (23, .aload_n 0, 1), (24, .getfield 22, 3), (27, .imul, 1), (28, .istore_n 2, 1), (29, .aload_n 0, 1), (30, .bipush 44, 2), (32, .invokevirtual 38, 3), (35, .ifCond .eq 21, 3), (38, .aload_n 0, 1), (39, .iconst 0, 1), (40, .bipush 9, 2), (42, .sipush 200, 3), (45, .iload_n 2, 1), (46, .isub, 1), (47, .invokestatic 46, 3), (50, .invokevirtual 42, 3), (53, .ifCond .ne 5, 3), (56, .iconst 0, 1), (57, .ireturn, 1), (58, .aload_n 1, 1), (59, .iload_n 2, 1), (60, .aload_n 0, 1), (61, .getfield 22, 3), (64, .iadd, 1), (65, .putfield 52, 3), (68, .aload_n 0, 1), (69, .bipush 59, 2), (71, .invokevirtual 38, 3), (74, .ireturn, 1)]
theorem jm_d6 : ∀ q ∈ jm_c6, decode cX1_readsLaw q.1 = .ok q.2 := by decide +kernel
def jm_c7 : List (Nat × Instr × Nat) := [(0, .iconst 0, 1), (1, .istore_n 2, 1), (2, .iload_n 2, 1), (3, .bipush 6, 2), (5, .if_icmp .gt 92, 3), (8, .aload_n 0, 1), (9, .getfield 19, 3), (12, .aload_n 0, 1), (13, .getfield 15, 3), (16, .if_icmp .ne 15, 3), (19, .iload_n 2, 1), (20, .iconst 2, 1), (21, .if_icmp .lt 10, 3), (24, .aload_n 1, 1), (25, .iload_n 2, 1), (26, .putfield 57, 3), (29, .iconst 1, 1), (30, .ireturn, 1), (31, .aload_n 0, 1), (32, .invokevirtual 60, 3), (35, .invokestatic 64, 3), (38, .istore_n 3, 1), (39, .iload_n 3, 1), (40, .ifCond .ne 9, 3), (43, .aload_n 0, 1), (44, .iconst 1, 1), (45, .invokevirtual 68, 3), (48, .ireturn, 1), (49, .iload_n 2, 1), (50, .bipush 6, 2), (52, .if_icmp .ne 9, 3), (55, .aload_n 0, 1), (56, .iconst 3, 1), (57, .invokevirtual 68, 3), (60, .ireturn, 1), (61, .aload_n 0, 1), (62, .dup, 1), (63, .getfield 19, 3), (66, .iconst 1, 1), (67, .iadd, 1), (68, .putfield 19, 3), (71, .aload_n 1, 1), (72, .getfield 71, 3), (75, .iconst 3, 1), (76, .aaload, 1), (77, .iload_n 2, 1), (78, .iload_n 3, 1), (79, .iastore, 1), (80, .aload_n 0, 1), (81, .aload_n 1, 1), (82, .iload_n 2, 1), (83, .invokevirtual 75, 3), (86, .ifCond .ne 5, 3), (89, .iconst 0, 1), (90, .ireturn, 1), (91, .iinc 2 1, 3), (94, .goto (-92), 3), (97, .iconst 0, 1), (98, .ireturn, 1)]
theorem jm_d7 : ∀ q ∈ jm_c7, decode cX1_readsDiscs q.1 = .ok q.2 := by decide +kernel
def jm_c8 : List (Nat × Instr × Nat) := [(0, .iconst 0, 1), (1, .istore_n 3, 1), (2, .iload_n 3, 1), (3, .iconst 2, 1), (4, .if_icmp .gt 61, 3), (7, .aload_n 0, 1), (8, .getstatic 79, 3), (11, .iload_n 3, 1), (12, .iaload, 1), (13, .getstatic 82, 3), (16, .iload_n 3, 1), (17, .iaload, 1), (18, .invokevirtual 42, 3), (21, .ifCond .ne 5, 3), (24, .iconst 0, 1), (25, .ireturn, 1), (26, .aload_n 1, 1), (27, .getfield 71, 3), (30, .iload_n 3, 1), (31, .aaload, 1), (32, .iload_n 2, 1), (33, .aload_n 0, 1), (34, .getfield 22, 3), (37, .iastore, 1), (38, .aload_n 0, 1), (39, .iload_n 3, 1), (40, .iconst 2, 1), (41, .if_icmp .ne 8, 3), (44, .bipush 59, 2), (46, .goto 5, 3), (49, .bipush 44, 2), (51, .invokevirtual 38, 3), (54, .ifCond .ne 5, 3), (57, .iconst 0, 1), (58, .ireturn, 1), (59, .iinc 3 1, 3), (62, .goto (-60), 3), (65, .iconst 1, 1), (66, .ireturn, 1)]
theorem jm_d8 : ∀ q ∈ jm_c8, decode cX1_readsNumbers q.1 = .ok q.2 := by decide +kernel
def jm_c9 : List (Nat × Instr × Nat) := [(0, .aload_n 0, 1), (1, .invokevirtual 60, 3), (4, .iload_n 1, 1), (5, .if_icmp .eq 9, 3), (8, .aload_n 0, 1), (9, .iconst 1, 1), (10, .invokevirtual 68, 3), (13, .ireturn, 1), (14, .aload_n 0, 1), (15, .dup, 1), (16, .getfield 19, 3), (19, .iconst 1, 1), (20, .iadd, 1), (21, .putfield 19, 3), (24, .iconst 1, 1), (25, .ireturn, 1)]
theorem jm_d9 : ∀ q ∈ jm_c9, decode cX1_readsSign q.1 = .ok q.2 := by decide +kernel
def jm_c10 : List (Nat × Instr × Nat) := [(0, .aload_n 0, 1), (1, .getfield 19, 3), (4, .istore_n 3, 1), (5, .iconst 0, 1), (6, .istore 4, 2), (8, .iload_n 3, 1), (9, .aload_n 0, 1), (10, .getfield 15, 3), (13, .if_icmp .ge 48, 3), (16, .iload_n 3, 1), (17, .aload_n 0, 1), (18, .getfield 19, 3), (21, .iconst 3, 1), (22, .iadd, 1), (23, .if_icmp .ge 38, 3), (26, .aload_n 0, 1), (27, .getfield 9, 3), (30, .iload_n 3, 1), (31, .iaload, 1), (32, .invokestatic 85, 3), (35, .ifCond .eq 26, 3), (38, .bipush 10, 2), (40, .iload 4, 2), (42, .imul, 1), (43, .aload_n 0, 1), (44, .getfield 9, 3), (47, .iload_n 3, 1), (48, .iaload, 1), (49, .iadd, 1), (50, .bipush 48, 2), (52, .isub, 1), (53, .istore 4, 2), (55, .iinc 3 1, 3), (58, .goto (-50), 3), (61, .iload_n 3, 1), (62, .aload_n 0, 1), (63, .getfield 19, 3), (66, .if_icmp .eq 13, 3), (69, .iload_n 3, 1), (70, .aload_n 0, 1), (71, .getfield 19, 3), (74, .iconst 3, 1), (75, .iadd, 1), (76, .if_icmp .ne 9, 3), (79, .aload_n 0, 1), (80, .iconst 1, 1), (81, .invokevirtual 68, 3), (84, .ireturn, 1), (85, .iload 4, 2), (87, .iload_n 1, 1), (88, .if_icmp .lt 9, 3), (91, .iload 4, 2), (93, .iload_n 2, 1), (94, .if_icmp .le 9, 3), (97, .aload_n 0, 1), (98, .iconst 2, 1), (99, .invokevirtual 68, 3), (102, .ireturn, 1), (103, .aload_n 0, 1), (104, .iload 4, 2), (106, .putfield 22, 3), (109, .aload_n 0, 1), (110, .iload_n 3, 1), (111, .putfield 19, 3), (114, .iconst 1, 1), (115, .ireturn, 1)]
theorem jm_d10 : ∀ q ∈ jm_c10, decode cX1_readsNumber q.1 = .ok q.2 := by decide +kernel
def jm_c11 : List (Nat × Instr × Nat) := [(0, .aload_n 0, 1), (1, .iload_n 1, 1), (2, .putfield 25, 3), (5, .aload_n 0, 1), (6, .aload_n 0, 1), (7, .getfield 19, 3), (10, .putfield 28, 3), (13, .iconst 0, 1), (14, .ireturn, 1)]
theorem jm_d11 : ∀ q ∈ jm_c11, decode cX1_blames q.1 = .ok q.2 := by decide +kernel
def jm_c12 : List (Nat × Instr × Nat) := [(0, .aload_n 0, 1), (1, .getfield 19, 3), (4, .aload_n 0, 1), (5, .getfield 15, 3), (8, .if_icmp .ge 15, 3), (11, .aload_n 0, 1), (12, .getfield 9, 3), (15, .aload_n 0, 1), (16, .getfield 19, 3), (19, .iaload, 1), (20, .goto 4, 3), (23, .iconst (-1), 1), (24, .ireturn, 1)]
theorem jm_d12 : ∀ q ∈ jm_c12, decode cX1_byteAtHand q.1 = .ok q.2 := by decide +kernel
def jm_c13 : List (Nat × Instr × Nat) := [(0, .iload_n 0, 1), (1, .bipush 48, 2), (3, .if_icmp .lt 13, 3), (6, .iload_n 0, 1), (7, .bipush 57, 2), (9, .if_icmp .gt 7, 3), (12, .iconst 1, 1), (13, .goto 4, 3), (16, .iconst 0, 1), (17, .ireturn, 1)]
theorem jm_d13 : ∀ q ∈ jm_c13, decode cX1_isFigure q.1 = .ok q.2 := by decide +kernel
def jm_c14 : List (Nat × Instr × Nat) := [(0, .iload_n 0, 1), (1, .lookupswitch 61 #[(103, 53), (112, 51), (115, 59), (116, 57), (119, 55)], 51), (52, .iconst 1, 1), (53, .ireturn, 1), (54, .iconst 2, 1), (55, .ireturn, 1), (56, .iconst 3, 1), (57, .ireturn, 1), (58, .iconst 4, 1), (59, .ireturn, 1), (60, .iconst 5, 1), (61, .ireturn, 1), (62, .iconst 0, 1), (63, .ireturn, 1)]
theorem jm_d14 : ∀ q ∈ jm_c14, decode cX1_kindOf q.1 = .ok q.2 := by decide +kernel
def jm_c15 : List (Nat × Instr × Nat) := [(0, .iload_n 1, 1), (1, .ifCond .lt 15, 3), (4, .iload_n 1, 1), (5, .aload_n 0, 1), (6, .getfield 16, 3), (9, .if_icmp .ge 7, 3), (12, .iconst 1, 1), (13, .goto 4, 3), (16, .iconst 0, 1), (17, .ireturn, 1)]
theorem jm_d15 : ∀ q ∈ jm_c15, decode cX2_has q.1 = .ok q.2 := by decide +kernel
def jm_c16 : List (Nat × Instr × Nat) := [(0, .iconst 0, 1), (1, .istore_n 2, 1), (2, .iload_n 2, 1), (3, .iconst 4, 1), (4, .if_icmp .ge 28, 3), (7, .aload_n 1, 1), (8, .getfield 11, 3), (11, .iload_n 2, 1), (12, .aaload, 1), (13, .iconst 0, 1), (14, .aload_n 0, 1), (15, .getfield 11, 3), (18, .iload_n 2, 1), (19, .aaload, 1), (20, .iconst 0, 1), (21, .bipush 6, 2), (23, .invokestatic 23, 3), (26, .iinc 2 1, 3), (29, .goto (-27), 3), (32, .aload_n 0, 1), (33, .aload_n 1, 1), (34, .getfield 16, 3), (37, .putfield 16, 3), (40, .aload_n 0, 1), (41, .aload_n 1, 1), (42, .getfield 20, 3), (45, .putfield 20, 3), (48, .return_, 1)]
theorem jm_d16 : ∀ q ∈ jm_c16, decode cX2_takeFrom q.1 = .ok q.2 := by decide +kernel
def jm_c17 : List (Nat × Instr × Nat) := [(0, .iconst 0, 1), (1, .istore_n 3, 1), (2, .iload_n 3, 1), (3, .iconst 4, 1), (4, .if_icmp .ge 45, 3), (7, .aload_n 0, 1), (8, .getfield 11, 3), (11, .iload_n 3, 1), (12, .aaload, 1), (13, .iload_n 1, 1), (14, .iaload, 1), (15, .istore 4, 2), (17, .aload_n 0, 1), (18, .getfield 11, 3), (21, .iload_n 3, 1), (22, .aaload, 1), (23, .iload_n 1, 1), (24, .aload_n 0, 1), (25, .getfield 11, 3), (28, .iload_n 3, 1), (29, .aaload, 1), (30, .iload_n 2, 1), (31, .iaload, 1), (32, .iastore, 1), (33, .aload_n 0, 1), (34, .getfield 11, 3), (37, .iload_n 3, 1), (38, .aaload, 1), (39, .iload_n 2, 1), (40, .iload 4, 2), (42, .iastore, 1), (43, .iinc 3 1, 3), (46, .goto (-44), 3), (49, .return_, 1)]
theorem jm_d17 : ∀ q ∈ jm_c17, decode cX2_exchange q.1 = .ok q.2 := by decide +kernel
def jm_c18 : List (Nat × Instr × Nat) := [(0, .iconst 0, 1), (1, .istore_n 3, 1), (2, .iconst 0, 1), (3, .istore 4, 2), (5, .iload 4, 2), (7, .aload_n 0, 1), (8, .getfield 16, 3), (11, .if_icmp .ge 31, 3), (14, .iload_n 2, 1), (15, .iload 4, 2), (17, .ishr, 1), (18, .iconst 1, 1), (19, .iand, 1), (20, .iconst 1, 1), (21, .if_icmp .ne 15, 3), (24, .iload_n 3, 1), (25, .aload_n 0, 1), (26, .getfield 11, 3), (29, .iload_n 1, 1), (30, .aaload, 1), (31, .iload 4, 2), (33, .iaload, 1), (34, .iadd, 1), (35, .istore_n 3, 1), (36, .iinc 4 1, 3), (39, .goto (-34), 3), (42, .iload_n 3, 1), (43, .ireturn, 1)]
theorem jm_d18 : ∀ q ∈ jm_c18, decode cX2_sumOf q.1 = .ok q.2 := by decide +kernel
def jm_c19 : List (Nat × Instr × Nat) := [(0, .iconst 1, 1), (1, .istore_n 2, 1), (2, .iconst 0, 1), (3, .istore_n 3, 1), (4, .iload_n 3, 1), (5, .iload_n 1, 1), (6, .if_icmp .gt 33, 3), (9, .iload_n 3, 1), (10, .aload_n 0, 1), (11, .getfield 16, 3), (14, .if_icmp .ge 25, 3), (17, .aload_n 0, 1), (18, .getfield 11, 3), (21, .iconst 3, 1), (22, .aaload, 1), (23, .iload_n 3, 1), (24, .iaload, 1), (25, .iconst 2, 1), (26, .if_icmp .ne 7, 3), (29, .iload_n 2, 1), (30, .iconst 2, 1), (31, .imul, 1), (32, .istore_n 2, 1), (33, .iinc 3 1, 3), (36, .goto (-32), 3), (39, .iload_n 2, 1), (40, .ireturn, 1)]
theorem jm_d19 : ∀ q ∈ jm_c19, decode cX2_ratioOf q.1 = .ok q.2 := by decide +kernel
def jm_c20 : List (Nat × Instr × Nat) := [(0, .aload_n 0, 1), (1, .iload_n 1, 1), (2, .invokevirtual 29, 3), (5, .istore_n 2, 1), (6, .aload_n 0, 1), (7, .getfield 11, 3), (10, .iconst 3, 1), (11, .aaload, 1), (12, .iload_n 1, 1), (13, .iaload, 1), (14, .iconst 3, 1), (15, .if_icmp .ne 14, 3), (18, .aload_n 0, 1), (19, .getfield 11, 3), (22, .iconst 2, 1), (23, .aaload, 1), (24, .iload_n 1, 1), (25, .iaload, 1), (26, .goto 4, 3), (29, .iconst 0, 1), (30, .istore_n 3, 1), (31, .aload_n 0, 1), (32, .getfield 11, 3), (35, .iconst 0, 1), (36, .aaload, 1), (37, .iload_n 1, 1), (38, .iaload, 1), (39, .iload_n 3, 1), (40, .iadd, 1), (41, .iload_n 2, 1), (42, .imul, 1), (43, .iload_n 2, 1), (44, .imul, 1), (45, .ireturn, 1)]
theorem jm_d20 : ∀ q ∈ jm_c20, decode cX2_weightOf q.1 = .ok q.2 := by decide +kernel
def jm_c21 : List (Nat × Instr × Nat) := [(0, .iload_n 1, 1), (1, .aload_n 0, 1), (2, .getfield 16, 3), (5, .iconst 1, 1), (6, .isub, 1), (7, .if_icmp .ne 5, 3), (10, .iconst 0, 1), (11, .ireturn, 1), (12, .aload_n 0, 1), (13, .iload_n 1, 1), (14, .invokevirtual 29, 3), (17, .istore_n 2, 1), (18, .aload_n 0, 1), (19, .getfield 11, 3), (22, .iconst 3, 1), (23, .aaload, 1), (24, .iload_n 1, 1), (25, .iaload, 1), (26, .iconst 5, 1), (27, .if_icmp .ne 16, 3), (30, .aload_n 0, 1), (31, .getfield 11, 3), (34, .iconst 1, 1), (35, .aaload, 1), (36, .iload_n 1, 1), (37, .iaload, 1), (38, .iconst 2, 1), (39, .idiv, 1), (40, .goto 11, 3), (43, .aload_n 0, 1), (44, .getfield 11, 3), (47, .iconst 1, 1), (48, .aaload, 1), (49, .iload_n 1, 1), (50, .iaload, 1), (51, .istore_n 3, 1), (52, .iload_n 3, 1), (53, .iload_n 2, 1), (54, .imul, 1), (55, .iload_n 2, 1), (56, .imul, 1), (57, .ireturn, 1)]
theorem jm_d21 : ∀ q ∈ jm_c21, decode cX2_springOf q.1 = .ok q.2 := by decide +kernel
def jm_c22 : List (Nat × Instr × Nat) := [(0, .aload_n 0, 1), (1, .iload_n 1, 1), (2, .invokevirtual 29, 3), (5, .istore_n 2, 1), (6, .aload_n 0, 1), (7, .getfield 11, 3), (10, .iconst 3, 1), (11, .aaload, 1), (12, .iload_n 1, 1), (13, .iaload, 1), (14, .istore_n 3, 1), (15, .iload_n 3, 1), (16, .iconst 4, 1), (17, .if_icmp .eq 8, 3), (20, .iload_n 3, 1), (21, .iconst 5, 1), (22, .if_icmp .ne 18, 3), (25, .aload_n 0, 1), (26, .getfield 11, 3), (29, .iconst 2, 1), (30, .aaload, 1), (31, .iload_n 1, 1), (32, .iaload, 1), (33, .iload_n 2, 1), (34, .imul, 1), (35, .iload_n 2, 1), (36, .imul, 1), (37, .goto 4, 3), (40, .iconst 0, 1), (41, .ireturn, 1)]
theorem jm_d22 : ∀ q ∈ jm_c22, decode cX2_tieOf q.1 = .ok q.2 := by decide +kernel
def jm_c23 : List (Nat × Instr × Nat) := [(0, .aload_n 0, 1), (1, .aload_n 1, 1), (2, .getfield 36, 3), (5, .putfield 28, 3), (8, .iconst 0, 1), (9, .istore_n 2, 1), (10, .iload_n 2, 1), (11, .aload_n 0, 1), (12, .getfield 28, 3), (15, .if_icmp .ge 45, 3), (18, .aload_n 0, 1), (19, .getfield 9, 3), (22, .iload_n 2, 1), (23, .aload_n 1, 1), (24, .iload_n 2, 1), (25, .invokevirtual 39, 3), (28, .i2l, 1), (29, .lastore, 1), (30, .aload_n 0, 1), (31, .getfield 15, 3), (34, .iload_n 2, 1), (35, .aload_n 1, 1), (36, .iload_n 2, 1), (37, .invokevirtual 43, 3), (40, .i2l, 1), (41, .lastore, 1), (42, .aload_n 0, 1), (43, .getfield 18, 3), (46, .iload_n 2, 1), (47, .aload_n 1, 1), (48, .iload_n 2, 1), (49, .invokevirtual 46, 3), (52, .i2l, 1), (53, .lastore, 1), (54, .iinc 2 1, 3), (57, .goto (-47), 3), (60, .return_, 1)]
theorem jm_d23 : ∀ q ∈ jm_c23, decode cX3_measure q.1 = .ok q.2 := by decide +kernel
def jm_c24 : List (Nat × Instr × Nat) := [(0, .aload_n 0, 1), (1, .iconst 0, 1), (2, .putfield 32, 3), (5, .aload_n 0, 1), (6, .getfield 21, 3), (9, .iconst 0, 1), (10, .lconst 1, 1), (11, .lastore, 1), (12, .iconst 1, 1), (13, .istore_n 3, 1), (14, .iload_n 3, 1), (15, .iload_n 1, 1), (16, .if_icmp .gt 108, 3), (19, .iload_n 3, 1), (20, .aload_n 0, 1), (21, .getfield 28, 3), (24, .if_icmp .gt 100, 3), (27, .aload_n 0, 1), (28, .aload_n 0, 1), (29, .iload_n 3, 1), (30, .iconst 1, 1), (31, .isub, 1), (32, .iload_n 2, 1), (33, .invokevirtual 49, 3), (36, .aload_n 0, 1), (37, .getfield 21, 3), (40, .iload_n 3, 1), (41, .iconst 1, 1), (42, .isub, 1), (43, .laload, 1), (44, .invokevirtual 53, 3), (47, .lstore 4, 2), (49, .lconst 0, 1), (50, .lstore 6, 2), (52, .iload_n 3, 1), (53, .iconst 1, 1), (54, .if_icmp .le 41, 3), (57, .aload_n 0, 1), (58, .aload_n 0, 1), (59, .getfield 15, 3), (62, .iload_n 3, 1), (63, .iconst 2, 1), (64, .isub, 1), (65, .laload, 1), (66, .aload_n 0, 1), (67, .getfield 15, 3), (70, .iload_n 3, 1), (71, .iconst 2, 1), (72, .isub, 1), (73, .laload, 1), (74, .invokevirtual 53, 3), (77, .lstore 8, 2), (79, .aload_n 0, 1), (80, .lload 8, 2), (82, .aload_n 0, 1), (83, .getfield 21, 3), (86, .iload_n 3, 1), (87, .iconst 2, 1), (88, .isub, 1), (89, .laload, 1), (90, .invokevirtual 53, 3), (93, .lstore 6, 2), (95, .aload_n 0, 1), (96, .getfield 21, 3), (99, .iload_n 3, 1), (100, .aload_n 0, 1), (101, .lload 4, 2), (103, .lload 6, 2), (105, .invokevirtual 57, 3), (108, .lastore, 1), (109, .aload_n 0, 1), (110, .getfield 32, 3), (113, .ifCond .eq 5, 3), (116, .iconst 0, 1), (117, .ireturn, 1), (118, .iinc 3 1, 3), (121, .goto (-107), 3), (124, .iconst 1, 1), (125, .ireturn, 1)]
theorem jm_d24 : ∀ q ∈ jm_c24, decode cX3_reaches q.1 = .ok q.2 := by decide +kernel
def jm_c25 : List (Nat × Instr × Nat) := [(0, .iload_n 1, 1), (1, .ifCond .ne 7, 3), (4, .lconst 0, 1), (5, .goto 11, 3), (8, .aload_n 0, 1), (9, .getfield 15, 3), (12, .iload_n 1, 1), (13, .iconst 1, 1), (14, .isub, 1), (15, .laload, 1), (16, .lstore_n 3, 1), (17, .aload_n 0, 1), (18, .getfield 15, 3), (21, .iload_n 1, 1), (22, .laload, 1), (23, .lload_n 3, 1), (24, .ladd, 1), (25, .aload_n 0, 1), (26, .getfield 18, 3), (29, .iload_n 1, 1), (30, .laload, 1), (31, .ladd, 1), (32, .iload_n 2, 1), (33, .i2l, 1), (34, .aload_n 0, 1), (35, .getfield 9, 3), (38, .iload_n 1, 1), (39, .laload, 1), (40, .lmul, 1), (41, .lsub, 1), (42, .lreturn, 1)]
theorem jm_d25 : ∀ q ∈ jm_c25, decode cX3_diagonal q.1 = .ok q.2 := by decide +kernel
def jm_c26 : List (Nat × Instr × Nat) := [(0, .lload_n 1, 1), (1, .lload_n 3, 1), (2, .lmul, 1), (3, .lstore 5, 2), (5, .lload_n 1, 1), (6, .ldc2_w 60, 3), (9, .lcmp, 1), (10, .ifCond .ne 28, 3), (13, .aload_n 0, 1), (14, .dup, 1), (15, .getfield 32, 3), (18, .lload_n 3, 1), (19, .ldc2_w 62, 3), (22, .lcmp, 1), (23, .ifCond .ne 7, 3), (26, .iconst 1, 1), (27, .goto 4, 3), (30, .iconst 0, 1), (31, .ior, 1), (32, .putfield 32, 3), (35, .goto 32, 3), (38, .lload_n 1, 1), (39, .lconst 0, 1), (40, .lcmp, 1), (41, .ifCond .eq 26, 3), (44, .aload_n 0, 1), (45, .dup, 1), (46, .getfield 32, 3), (49, .lload 5, 2), (51, .lload_n 1, 1), (52, .ldiv, 1), (53, .lload_n 3, 1), (54, .lcmp, 1), (55, .ifCond .eq 7, 3), (58, .iconst 1, 1), (59, .goto 4, 3), (62, .iconst 0, 1), (63, .ior, 1), (64, .putfield 32, 3), (67, .lload 5, 2), (69, .lreturn, 1)]
theorem jm_d26 : ∀ q ∈ jm_c26, decode cX3_times q.1 = .ok q.2 := by decide +kernel
def jm_c27 : List (Nat × Instr × Nat) := [(0, .lload_n 1, 1), (1, .lload_n 3, 1), (2, .lsub, 1), (3, .lstore 5, 2), (5, .aload_n 0, 1), (6, .dup, 1), (7, .getfield 32, 3), (10, .lload_n 1, 1), (11, .lload_n 3, 1), (12, .lxor, 1), (13, .lload_n 1, 1), (14, .lload 5, 2), (16, .lxor, 1), (17, .land, 1), (18, .lconst 0, 1), (19, .lcmp, 1), (20, .ifCond .ge 7, 3), (23, .iconst 1, 1), (24, .goto 4, 3), (27, .iconst 0, 1), (28, .ior, 1), (29, .putfield 32, 3), (32, .lload 5, 2), (34, .lreturn, 1)]
theorem jm_d27 : ∀ q ∈ jm_c27, decode cX3_less q.1 = .ok q.2 := by decide +kernel
def jm_c28 : List (Nat × Instr × Nat) := [(0, .aload_n 0, 1), (1, .aload_n 0, 1), (2, .getfield 28, 3), (5, .iload_n 1, 1), (6, .invokevirtual 64, 3), (9, .ifCond .ne 6, 3), (12, .ldc 68, 2), (14, .ireturn, 1), (15, .iconst 0, 1), (16, .istore_n 2, 1), (17, .iconst 0, 1), (18, .istore_n 3, 1), (19, .iconst 1, 1), (20, .istore 4, 2), (22, .iload 4, 2), (24, .aload_n 0, 1), (25, .getfield 28, 3), (28, .if_icmp .gt 55, 3), (31, .aload_n 0, 1), (32, .getfield 21, 3), (35, .iload 4, 2), (37, .laload, 1), (38, .lstore 5, 2), (40, .lload 5, 2), (42, .lconst 0, 1), (43, .lcmp, 1), (44, .ifCond .ne 7, 3), (47, .iload_n 3, 1), (48, .goto 15, 3), (51, .lload 5, 2), (53, .lconst 0, 1), (54, .lcmp, 1), (55, .ifCond .ge 7, 3), (58, .iconst 1, 1), (59, .goto 4, 3), (62, .iconst 0, 1), (63, .istore 7, 2), (65, .iload 7, 2), (67, .iload_n 3, 1), (68, .if_icmp .eq 6, 3), (71, .iinc 2 1, 3), (74, .iload 7, 2), (76, .istore_n 3, 1), (77, .iinc 4 1, 3), (80, .goto (-58), 3), (83, .iload_n 2, 1), (84, .ireturn, 1)]
theorem jm_d28 : ∀ q ∈ jm_c28, decode cX3_belowAt q.1 = .ok q.2 := by decide +kernel
def jm_c29 : List (Nat × Instr × Nat) := [(0, .aload_n 0, 1), (1, .sipush 200, 3), (4, .invokevirtual 69, 3), (7, .istore_n 2, 1), (8, .iload_n 2, 1), (9, .ldc 68, 2), (11, .if_icmp .ne 6, 3), (14, .ldc 68, 2), (16, .ireturn, 1), (17, .iload_n 2, 1), (18, .iload_n 1, 1), (19, .if_icmp .gt 6, 3), (22, .ldc 72, 2), (24, .ireturn, 1), (25, .iconst 0, 1), (26, .istore_n 3, 1), (27, .sipush 200, 3), (30, .istore 4, 2), (32, .iconst 0, 1), (33, .istore 5, 2), (35, .iload 5, 2), (37, .sipush 200, 3), (40, .if_icmp .ge 59, 3), (43, .iload 4, 2), (45, .iload_n 3, 1), (46, .iconst 1, 1), (47, .iadd, 1), (48, .if_icmp .le 51, 3), (51, .iload_n 3, 1), (52, .iload 4, 2), (54, .iadd, 1), (55, .iconst 2, 1), (56, .idiv, 1), (57, .istore 6, 2), (59, .aload_n 0, 1), (60, .iload 6, 2), (62, .invokevirtual 69, 3), (65, .istore 7, 2), (67, .iload 7, 2), (69, .ldc 68, 2), (71, .if_icmp .ne 6, 3), (74, .ldc 68, 2), (76, .ireturn, 1), (77, .iload 7, 2), (79, .iload_n 1, 1), (80, .if_icmp .gt 9, 3), (83, .iload 6, 2), (85, .istore_n 3, 1), (86, .goto 7, 3), (89, .iload 6, 2), (91, .istore 4, 2), (93, .iinc 5 1, 3), (96, .goto (-61), 3), (99, .iload_n 3, 1), (100, .ireturn, 1)]
theorem jm_d29 : ∀ q ∈ jm_c29, decode cX3_boxOf q.1 = .ok q.2 := by decide +kernel
def jm_c30 : List (Nat × Instr × Nat) := [(0, .iconst 0, 1), (1, .istore_n 1, 1), (2, .iload_n 1, 1), (3, .aload_n 0, 1), (4, .getfield 28, 3), (7, .if_icmp .ge 33, 3), (10, .aload_n 0, 1), (11, .getfield 24, 3), (14, .iload_n 1, 1), (15, .aload_n 0, 1), (16, .iload_n 1, 1), (17, .invokevirtual 73, 3), (20, .iastore, 1), (21, .aload_n 0, 1), (22, .getfield 24, 3), (25, .iload_n 1, 1), (26, .iaload, 1), (27, .ldc 68, 2), (29, .if_icmp .ne 5, 3), (32, .iconst 0, 1), (33, .ireturn, 1), (34, .iinc 1 1, 3), (37, .goto (-35), 3), (40, .iconst 1, 1), (41, .ireturn, 1)]
theorem jm_d30 : ∀ q ∈ jm_c30, decode cX3_boxesAll q.1 = .ok q.2 := by decide +kernel
def jm_c31 : List (Nat × Instr × Nat) := [(0, .ldc 72, 2), (2, .istore_n 1, 1), (3, .iconst (-1), 1), (4, .istore_n 2, 1), (5, .iconst 1, 1), (6, .istore_n 3, 1), (7, .iload_n 3, 1), (8, .aload_n 0, 1), (9, .getfield 28, 3), (12, .if_icmp .ge 53, 3), (15, .aload_n 0, 1), (16, .getfield 24, 3), (19, .iload_n 3, 1), (20, .iaload, 1), (21, .ldc 72, 2), (23, .if_icmp .eq 36, 3), (26, .aload_n 0, 1), (27, .getfield 24, 3), (30, .iload_n 3, 1), (31, .iconst 1, 1), (32, .isub, 1), (33, .iaload, 1), (34, .ldc 72, 2), (36, .if_icmp .ne 6, 3), (39, .goto 20, 3), (42, .aload_n 0, 1), (43, .iload_n 3, 1), (44, .invokevirtual 76, 3), (47, .iload_n 2, 1), (48, .if_icmp .le 11, 3), (51, .aload_n 0, 1), (52, .iload_n 3, 1), (53, .invokevirtual 76, 3), (56, .istore_n 2, 1), (57, .iload_n 3, 1), (58, .istore_n 1, 1), (59, .iinc 3 1, 3), (62, .goto (-55), 3), (65, .iload_n 1, 1), (66, .ireturn, 1)]
theorem jm_d31 : ∀ q ∈ jm_c31, decode cX3_widestGap q.1 = .ok q.2 := by decide +kernel
def jm_c32 : List (Nat × Instr × Nat) := [(0, .iload_n 1, 1), (1, .ifCond .le 29, 3), (4, .iload_n 1, 1), (5, .aload_n 0, 1), (6, .getfield 28, 3), (9, .if_icmp .ge 21, 3), (12, .aload_n 0, 1), (13, .getfield 24, 3), (16, .iload_n 1, 1), (17, .iaload, 1), (18, .aload_n 0, 1), (19, .getfield 24, 3), (22, .iload_n 1, 1), (23, .iconst 1, 1), (24, .isub, 1), (25, .iaload, 1), (26, .isub, 1), (27, .goto 4, 3), (30, .iconst 0, 1), (31, .ireturn, 1)]
theorem jm_d32 : ∀ q ∈ jm_c32, decode cX3_gapAt q.1 = .ok q.2 := by decide +kernel
def jm_c33 : List (Nat × Instr × Nat) := [(0, .iconst 0, 1), (1, .istore_n 3, 1), (2, .iload_n 3, 1), (3, .aload_n 0, 1), (4, .getfield 28, 3), (7, .if_icmp .ge 37, 3), (10, .aload_n 0, 1), (11, .getfield 24, 3), (14, .iload_n 3, 1), (15, .iaload, 1), (16, .ldc 72, 2), (18, .if_icmp .eq 20, 3), (21, .iload_n 1, 1), (22, .aload_n 0, 1), (23, .getfield 24, 3), (26, .iload_n 3, 1), (27, .iaload, 1), (28, .isub, 1), (29, .invokestatic 79, 3), (32, .iload_n 2, 1), (33, .if_icmp .gt 5, 3), (36, .iconst 0, 1), (37, .ireturn, 1), (38, .iinc 3 1, 3), (41, .goto (-39), 3), (44, .iconst 1, 1), (45, .ireturn, 1)]
theorem jm_d33 : ∀ q ∈ jm_c33, decode cX3_isClearBy q.1 = .ok q.2 := by decide +kernel
end
section
def jm_c34 : List (Nat × Instr × Nat) := [(0, .iload_n 1, 1), (1, .invokestatic 71, 3), (4, .ifCond .eq 18, 3), (7, .iload_n 2, 1), (8, .ifCond .lt 14, 3), (11, .iload_n 2, 1), (12, .iconst 2, 1), (13, .if_icmp .gt 9, 3), (16, .iload_n 3, 1), (17, .bipush 40, 2), (19, .if_icmp .le 6, 3), (22, .ldc 75, 2), (24, .ireturn, 1), (25, .iload_n 3, 1), (26, .ifCond .ge 9, 3), (29, .aload_n 0, 1), (30, .iconst 4, 1), (31, .invokevirtual 76, 3), (34, .ireturn, 1), (35, .aload_n 0, 1), (36, .getfield 9, 3), (39, .iload_n 1, 1), (40, .iload_n 2, 1), (41, .iastore, 1), (42, .aload_n 0, 1), (43, .getfield 13, 3), (46, .iload_n 1, 1), (47, .iload_n 3, 1), (48, .iastore, 1), (49, .iconst 0, 1), (50, .istore 4, 2), (52, .iload 4, 2), (54, .bipush 40, 2), (56, .if_icmp .ge 19, 3), (59, .aload_n 0, 1), (60, .getfield 18, 3), (63, .iload_n 1, 1), (64, .aaload, 1), (65, .iload 4, 2), (67, .iconst 0, 1), (68, .iastore, 1), (69, .iinc 4 1, 3), (72, .goto (-20), 3), (75, .aload_n 0, 1), (76, .iload_n 3, 1), (77, .invokevirtual 80, 3), (80, .ireturn, 1)]
theorem jm_d34 : ∀ q ∈ jm_c34, decode cX4_row q.1 = .ok q.2 := by decide +kernel
def jm_c35 : List (Nat × Instr × Nat) := [(0, .iload_n 1, 1), (1, .invokestatic 71, 3), (4, .ifCond .ne 6, 3), (7, .ldc 75, 2), (9, .ireturn, 1), (10, .aload_n 0, 1), (11, .iload_n 1, 1), (12, .invokevirtual 83, 3), (15, .ifCond .eq 9, 3), (18, .aload_n 0, 1), (19, .iconst 1, 1), (20, .invokevirtual 76, 3), (23, .ireturn, 1), (24, .aload_n 0, 1), (25, .iload_n 1, 1), (26, .iload_n 2, 1), (27, .iconst 1, 1), (28, .invokevirtual 86, 3), (31, .ifCond .ne 9, 3), (34, .aload_n 0, 1), (35, .iconst 2, 1), (36, .invokevirtual 76, 3), (39, .ireturn, 1), (40, .aload_n 0, 1), (41, .getfield 18, 3), (44, .iload_n 1, 1), (45, .aaload, 1), (46, .iload_n 2, 1), (47, .aload_n 0, 1), (48, .getfield 9, 3), (51, .iload_n 1, 1), (52, .iaload, 1), (53, .iload_n 3, 1), (54, .invokestatic 90, 3), (57, .iastore, 1), (58, .aload_n 0, 1), (59, .aload_n 0, 1), (60, .getfield 18, 3), (63, .iload_n 1, 1), (64, .aaload, 1), (65, .iload_n 2, 1), (66, .iaload, 1), (67, .invokevirtual 80, 3), (70, .ireturn, 1)]
theorem jm_d35 : ∀ q ∈ jm_c35, decode cX4_set q.1 = .ok q.2 := by decide +kernel
def jm_c36 : List (Nat × Instr × Nat) := [(0, .iload_n 1, 1), (1, .invokestatic 71, 3), (4, .ifCond .eq 10, 3), (7, .iload_n 3, 1), (8, .invokestatic 71, 3), (11, .ifCond .ne 6, 3), (14, .ldc 75, 2), (16, .ireturn, 1), (17, .aload_n 0, 1), (18, .iload_n 1, 1), (19, .invokevirtual 83, 3), (22, .ifCond .ne 11, 3), (25, .aload_n 0, 1), (26, .iload_n 3, 1), (27, .invokevirtual 83, 3), (30, .ifCond .eq 9, 3), (33, .aload_n 0, 1), (34, .iconst 1, 1), (35, .invokevirtual 76, 3), (38, .ireturn, 1), (39, .aload_n 0, 1), (40, .getfield 9, 3), (43, .iload_n 1, 1), (44, .iaload, 1), (45, .aload_n 0, 1), (46, .getfield 9, 3), (49, .iload_n 3, 1), (50, .iaload, 1), (51, .if_icmp .eq 9, 3), (54, .aload_n 0, 1), (55, .iconst 5, 1), (56, .invokevirtual 76, 3), (59, .ireturn, 1), (60, .aload_n 0, 1), (61, .iload_n 1, 1), (62, .iload_n 2, 1), (63, .iload 5, 2), (65, .invokevirtual 86, 3), (68, .ifCond .eq 15, 3), (71, .aload_n 0, 1), (72, .iload_n 3, 1), (73, .iload 4, 2), (75, .iload 5, 2), (77, .invokevirtual 86, 3), (80, .ifCond .ne 9, 3), (83, .aload_n 0, 1), (84, .iconst 2, 1), (85, .invokevirtual 76, 3), (88, .ireturn, 1), (89, .aload_n 0, 1), (90, .getfield 18, 3), (93, .iload_n 1, 1), (94, .aaload, 1), (95, .iload_n 2, 1), (96, .aload_n 0, 1), (97, .getfield 18, 3), (100, .iload_n 3, 1), (101, .aaload, 1), (102, .iload 4, 2), (104, .iload 5, 2), (106, .invokestatic 94, 3), (109, .aload_n 0, 1), (110, .iload 5, 2), (112, .invokevirtual 80, 3), (115, .ireturn, 1)]
theorem jm_d36 : ∀ q ∈ jm_c36, decode cX4_copy q.1 = .ok q.2 := by decide +kernel
def jm_c37 : List (Nat × Instr × Nat) := [(0, .iload_n 1, 1), (1, .invokestatic 71, 3), (4, .ifCond .ne 6, 3), (7, .ldc 75, 2), (9, .ireturn, 1), (10, .aload_n 0, 1), (11, .iload_n 1, 1), (12, .invokevirtual 83, 3), (15, .ifCond .eq 9, 3), (18, .aload_n 0, 1), (19, .iconst 1, 1), (20, .invokevirtual 76, 3), (23, .ireturn, 1), (24, .aload_n 0, 1), (25, .getfield 13, 3), (28, .iload_n 1, 1), (29, .iaload, 1), (30, .istore_n 2, 1), (31, .aload_n 0, 1), (32, .getfield 13, 3), (35, .iload_n 1, 1), (36, .iconst (-1), 1), (37, .iastore, 1), (38, .aload_n 0, 1), (39, .iload_n 2, 1), (40, .invokevirtual 80, 3), (43, .ireturn, 1)]
theorem jm_d37 : ∀ q ∈ jm_c37, decode cX4_drop q.1 = .ok q.2 := by decide +kernel
def jm_c38 : List (Nat × Instr × Nat) := [(0, .iload_n 0, 1), (1, .ifCond .lt 13, 3), (4, .iload_n 0, 1), (5, .bipush 8, 2), (7, .if_icmp .ge 7, 3), (10, .iconst 1, 1), (11, .goto 4, 3), (14, .iconst 0, 1), (15, .ireturn, 1)]
theorem jm_d38 : ∀ q ∈ jm_c38, decode cX4_isRow q.1 = .ok q.2 := by decide +kernel
def jm_c39 : List (Nat × Instr × Nat) := [(0, .aload_n 0, 1), (1, .getfield 13, 3), (4, .iload_n 1, 1), (5, .iaload, 1), (6, .iconst (-1), 1), (7, .if_icmp .ne 7, 3), (10, .iconst 1, 1), (11, .goto 4, 3), (14, .iconst 0, 1), (15, .ireturn, 1)]
theorem jm_d39 : ∀ q ∈ jm_c39, decode cX4_isMissing q.1 = .ok q.2 := by decide +kernel
def jm_c40 : List (Nat × Instr × Nat) := [(0, .iload_n 2, 1), (1, .ifCond .lt 33, 3), (4, .iload_n 3, 1), (5, .ifCond .lt 29, 3), (8, .iload_n 3, 1), (9, .aload_n 0, 1), (10, .getfield 13, 3), (13, .iload_n 1, 1), (14, .iaload, 1), (15, .if_icmp .gt 19, 3), (18, .iload_n 2, 1), (19, .aload_n 0, 1), (20, .getfield 13, 3), (23, .iload_n 1, 1), (24, .iaload, 1), (25, .iload_n 3, 1), (26, .isub, 1), (27, .if_icmp .gt 7, 3), (30, .iconst 1, 1), (31, .goto 4, 3), (34, .iconst 0, 1), (35, .ireturn, 1)]
theorem jm_d40 : ∀ q ∈ jm_c40, decode cX4_isWithin q.1 = .ok q.2 := by decide +kernel
def jm_c41 : List (Nat × Instr × Nat) := [(0, .iload_n 0, 1), (1, .ifCond .ne 6, 3), (4, .iload_n 1, 1), (5, .i2b, 1), (6, .ireturn, 1), (7, .iload_n 0, 1), (8, .iconst 1, 1), (9, .if_icmp .ne 8, 3), (12, .iload_n 1, 1), (13, .i2s, 1), (14, .goto 4, 3), (17, .iload_n 1, 1), (18, .ireturn, 1)]
theorem jm_d41 : ∀ q ∈ jm_c41, decode cX4_narrowed q.1 = .ok q.2 := by decide +kernel
def jm_c42 : List (Nat × Instr × Nat) := [(0, .iload_n 1, 1), (1, .ifCond .lt 10, 3), (4, .iload_n 1, 1), (5, .sipush 255, 3), (8, .if_icmp .le 6, 3), (11, .ldc 75, 2), (13, .ireturn, 1), (14, .aload_n 0, 1), (15, .getfield 24, 3), (18, .iload_n 1, 1), (19, .invokevirtual 100, 3), (22, .ifCond .eq 13, 3), (25, .aload_n 0, 1), (26, .getfield 24, 3), (29, .getfield 103, 3), (32, .goto 5, 3), (35, .ldc 106, 2), (37, .ireturn, 1)]
theorem jm_d42 : ∀ q ∈ jm_c42, decode cX4_feed q.1 = .ok q.2 := by decide +kernel
def jm_c43 : List (Nat × Instr × Nat) := [(0, .aload_n 0, 1), (1, .getfield 24, 3), (4, .aload_n 0, 1), (5, .getfield 35, 3), (8, .invokevirtual 107, 3), (11, .istore_n 1, 1), (12, .aload_n 0, 1), (13, .getfield 24, 3), (16, .iconst 0, 1), (17, .putfield 103, 3), (20, .iload_n 1, 1), (21, .ifCond .ne 25, 3), (24, .aload_n 0, 1), (25, .aload_n 0, 1), (26, .getfield 24, 3), (29, .getfield 111, 3), (32, .putfield 65, 3), (35, .ldc 114, 2), (37, .aload_n 0, 1), (38, .getfield 24, 3), (41, .getfield 115, 3), (44, .isub, 1), (45, .ireturn, 1), (46, .aload_n 0, 1), (47, .getfield 31, 3), (50, .aload_n 0, 1), (51, .getfield 35, 3), (54, .invokevirtual 118, 3), (57, .aload_n 0, 1), (58, .getfield 47, 3), (61, .invokevirtual 122, 3), (64, .aload_n 0, 1), (65, .getfield 31, 3), (68, .getfield 125, 3), (71, .ireturn, 1)]
theorem jm_d43 : ∀ q ∈ jm_c43, decode cX4_shaft q.1 = .ok q.2 := by decide +kernel
def jm_c44 : List (Nat × Instr × Nat) := [(0, .aload_n 0, 1), (1, .getfield 65, 3), (4, .ireturn, 1)]
theorem jm_d44 : ∀ q ∈ jm_c44, decode cX4_fault q.1 = .ok q.2 := by decide +kernel
def jm_c45 : List (Nat × Instr × Nat) := [(0, .aload_n 0, 1), (1, .getfield 47, 3), (4, .aload_n 0, 1), (5, .getfield 31, 3), (8, .invokevirtual 128, 3), (11, .ifCond .eq 13, 3), (14, .aload_n 0, 1), (15, .getfield 47, 3), (18, .getfield 131, 3), (21, .goto 5, 3), (24, .ldc 132, 2), (26, .ireturn, 1)]
theorem jm_d45 : ∀ q ∈ jm_c45, decode cX4_undo q.1 = .ok q.2 := by decide +kernel
def jm_c46 : List (Nat × Instr × Nat) := [(0, .aload_n 0, 1), (1, .getfield 31, 3), (4, .iload_n 1, 1), (5, .invokevirtual 133, 3), (8, .ifCond .eq 12, 3), (11, .iload_n 2, 1), (12, .ifCond .lt 8, 3), (15, .iload_n 2, 1), (16, .iconst 2, 1), (17, .if_icmp .le 6, 3), (20, .ldc 75, 2), (22, .ireturn, 1), (23, .iload_n 3, 1), (24, .getstatic 136, 3), (27, .iload_n 2, 1), (28, .iaload, 1), (29, .if_icmp .lt 12, 3), (32, .iload_n 3, 1), (33, .getstatic 139, 3), (36, .iload_n 2, 1), (37, .iaload, 1), (38, .if_icmp .le 6, 3), (41, .ldc 75, 2), (43, .ireturn, 1), (44, .aload_n 0, 1), (45, .iload_n 1, 1), (46, .iload_n 2, 1), (47, .iload_n 3, 1), (48, .invokevirtual 142, 3), (51, .ireturn, 1)]
theorem jm_d46 : ∀ q ∈ jm_c46, decode cX4_change q.1 = .ok q.2 := by decide +kernel
def jm_c47 : List (Nat × Instr × Nat) := [(0, .aload_n 0, 1), (1, .getfield 31, 3), (4, .iload_n 1, 1), (5, .invokevirtual 133, 3), (8, .ifCond .eq 13, 3), (11, .iload_n 2, 1), (12, .iconst 1, 1), (13, .if_icmp .lt 8, 3), (16, .iload_n 2, 1), (17, .iconst 5, 1), (18, .if_icmp .le 6, 3), (21, .ldc 75, 2), (23, .ireturn, 1), (24, .aload_n 0, 1), (25, .getfield 31, 3), (28, .getfield 146, 3), (31, .iconst 3, 1), (32, .aaload, 1), (33, .iload_n 1, 1), (34, .iaload, 1), (35, .iload_n 2, 1), (36, .if_icmp .ne 6, 3), (39, .ldc 132, 2), (41, .ireturn, 1), (42, .aload_n 0, 1), (43, .iload_n 1, 1), (44, .iconst 3, 1), (45, .iload_n 2, 1), (46, .invokevirtual 142, 3), (49, .ireturn, 1)]
theorem jm_d47 : ∀ q ∈ jm_c47, decode cX4_become q.1 = .ok q.2 := by decide +kernel
def jm_c48 : List (Nat × Instr × Nat) := [(0, .aload_n 0, 1), (1, .getfield 31, 3), (4, .getfield 125, 3), (7, .ifCond .ne 6, 3), (10, .ldc 132, 2), (12, .ireturn, 1), (13, .iload_n 1, 1), (14, .invokestatic 149, 3), (17, .ifCond .ne 6, 3), (20, .ldc 75, 2), (22, .ireturn, 1), (23, .aload_n 0, 1), (24, .getfield 31, 3), (27, .getfield 152, 3), (30, .istore_n 2, 1), (31, .aload_n 0, 1), (32, .getfield 47, 3), (35, .iconst 4, 1), (36, .iconst 0, 1), (37, .iload_n 2, 1), (38, .invokevirtual 155, 3), (41, .aload_n 0, 1), (42, .getfield 31, 3), (45, .iload_n 1, 1), (46, .putfield 152, 3), (49, .iload_n 2, 1), (50, .ireturn, 1)]
theorem jm_d48 : ∀ q ∈ jm_c48, decode cX4_mark q.1 = .ok q.2 := by decide +kernel
def jm_c49 : List (Nat × Instr × Nat) := [(0, .aload_n 0, 1), (1, .getfield 31, 3), (4, .iload_n 1, 1), (5, .invokevirtual 133, 3), (8, .ifCond .eq 14, 3), (11, .aload_n 0, 1), (12, .getfield 31, 3), (15, .iload_n 2, 1), (16, .invokevirtual 133, 3), (19, .ifCond .ne 6, 3), (22, .ldc 75, 2), (24, .ireturn, 1), (25, .iload_n 1, 1), (26, .iload_n 2, 1), (27, .if_icmp .ne 6, 3), (30, .ldc 132, 2), (32, .ireturn, 1), (33, .aload_n 0, 1), (34, .getfield 47, 3), (37, .iconst 5, 1), (38, .iload_n 1, 1), (39, .iload_n 2, 1), (40, .invokevirtual 155, 3), (43, .aload_n 0, 1), (44, .getfield 31, 3), (47, .iload_n 1, 1), (48, .iload_n 2, 1), (49, .invokevirtual 159, 3), (52, .iload_n 1, 1), (53, .iload_n 2, 1), (54, .isub, 1), (55, .invokestatic 163, 3), (58, .iconst 1, 1), (59, .iadd, 1), (60, .ireturn, 1)]
theorem jm_d49 : ∀ q ∈ jm_c49, decode cX4_swap q.1 = .ok q.2 := by decide +kernel
def jm_c50 : List (Nat × Instr × Nat) := [(0, .aload_n 0, 1), (1, .getfield 31, 3), (4, .iload_n 1, 1), (5, .invokevirtual 133, 3), (8, .ifCond .ne 6, 3), (11, .ldc 75, 2), (13, .ireturn, 1), (14, .iload_n 2, 1), (15, .tableswitch 113 0 6 #[41, 53, 65, 77, 86, 95, 104], 41), (56, .aload_n 0, 1), (57, .getfield 31, 3), (60, .getfield 146, 3), (63, .iconst 0, 1), (64, .aaload, 1), (65, .iload_n 1, 1), (66, .iaload, 1), (67, .ireturn, 1), (68, .aload_n 0, 1), (69, .getfield 31, 3), (72, .getfield 146, 3), (75, .iconst 1, 1), (76, .aaload, 1), (77, .iload_n 1, 1), (78, .iaload, 1), (79, .ireturn, 1), (80, .aload_n 0, 1), (81, .getfield 31, 3), (84, .getfield 146, 3), (87, .iconst 2, 1), (88, .aaload, 1), (89, .iload_n 1, 1), (90, .iaload, 1), (91, .ireturn, 1), (92, .aload_n 0, 1), (93, .getfield 31, 3), (96, .iload_n 1, 1), (97, .invokevirtual 168, 3), (100, .ireturn, 1), (101, .aload_n 0, 1), (102, .getfield 31, 3), (105, .iload_n 1, 1), (106, .invokevirtual 171, 3), (109, .ireturn, 1), (110, .aload_n 0, 1), (111, .getfield 31, 3), (114, .iload_n 1, 1), (115, .invokevirtual 174, 3), (118, .ireturn, 1), (119, .aload_n 0, 1), (120, .getfield 31, 3), (123, .iload_n 1, 1), (124, .invokevirtual 177, 3), (127, .ireturn, 1), (128, .ldc 75, 2), (130, .ireturn, 1)]
theorem jm_d50 : ∀ q ∈ jm_c50, decode cX4_disc q.1 = .ok q.2 := by decide +kernel
def jm_c51 : List (Nat × Instr × Nat) := [(0, .aload_n 0, 1), (1, .getfield 31, 3), (4, .getfield 146, 3), (7, .iload_n 2, 1), (8, .aaload, 1), (9, .iload_n 1, 1), (10, .iaload, 1), (11, .istore 4, 2), (13, .aload_n 0, 1), (14, .getfield 47, 3), (17, .iload_n 2, 1), (18, .iload_n 1, 1), (19, .iload 4, 2), (21, .invokevirtual 155, 3), (24, .aload_n 0, 1), (25, .getfield 31, 3), (28, .getfield 146, 3), (31, .iload_n 2, 1), (32, .aaload, 1), (33, .iload_n 1, 1), (34, .iload_n 3, 1), (35, .iastore, 1), (36, .iload 4, 2), (38, .ireturn, 1)]
theorem jm_d51 : ∀ q ∈ jm_c51, decode cX4_put q.1 = .ok q.2 := by decide +kernel
def jm_c52 : List (Nat × Instr × Nat) := [(0, .iload_n 0, 1), (1, .ifCond .lt 14, 3), (4, .iload_n 0, 1), (5, .sipush 200, 3), (8, .if_icmp .gt 7, 3), (11, .iconst 1, 1), (12, .goto 4, 3), (15, .iconst 0, 1), (16, .ireturn, 1)]
theorem jm_d52 : ∀ q ∈ jm_c52, decode cX4_isMark q.1 = .ok q.2 := by decide +kernel
def jm_c53 : List (Nat × Instr × Nat) := [(0, .aload_n 0, 1), (1, .getfield 31, 3), (4, .getfield 125, 3), (7, .ifCond .ne 7, 3), (10, .ldc2_w 180, 3), (13, .lreturn, 1), (14, .iload_n 1, 1), (15, .ifCond .lt 21, 3), (18, .iload_n 1, 1), (19, .aload_n 0, 1), (20, .getfield 31, 3), (23, .getfield 125, 3), (26, .if_icmp .gt 10, 3), (29, .iload_n 2, 1), (30, .invokestatic 149, 3), (33, .ifCond .ne 7, 3), (36, .ldc2_w 182, 3), (39, .lreturn, 1), (40, .aload_n 0, 1), (41, .getfield 54, 3), (44, .aload_n 0, 1), (45, .getfield 31, 3), (48, .invokevirtual 184, 3), (51, .aload_n 0, 1), (52, .getfield 54, 3), (55, .iload_n 1, 1), (56, .iload_n 2, 1), (57, .invokevirtual 187, 3), (60, .ifCond .ne 11, 3), (63, .aload_n 0, 1), (64, .bipush 6, 2), (66, .invokevirtual 76, 3), (69, .i2l, 1), (70, .lreturn, 1), (71, .aload_n 0, 1), (72, .iconst 0, 1), (73, .putfield 68, 3), (76, .aload_n 0, 1), (77, .getfield 54, 3), (80, .getfield 191, 3), (83, .iload_n 1, 1), (84, .laload, 1), (85, .lreturn, 1)]
theorem jm_d53 : ∀ q ∈ jm_c53, decode cX4_determinant q.1 = .ok q.2 := by decide +kernel
def jm_c54 : List (Nat × Instr × Nat) := [(0, .aload_n 0, 1), (1, .getfield 31, 3), (4, .getfield 125, 3), (7, .ifCond .ne 6, 3), (10, .ldc 132, 2), (12, .ireturn, 1), (13, .iload_n 1, 1), (14, .invokestatic 149, 3), (17, .ifCond .ne 6, 3), (20, .ldc 75, 2), (22, .ireturn, 1), (23, .aload_n 0, 1), (24, .getfield 54, 3), (27, .aload_n 0, 1), (28, .getfield 31, 3), (31, .invokevirtual 184, 3), (34, .aload_n 0, 1), (35, .aload_n 0, 1), (36, .getfield 54, 3), (39, .iload_n 1, 1), (40, .invokevirtual 195, 3), (43, .invokevirtual 198, 3), (46, .ireturn, 1)]
theorem jm_d54 : ∀ q ∈ jm_c54, decode cX4_below q.1 = .ok q.2 := by decide +kernel
def jm_c55 : List (Nat × Instr × Nat) := [(0, .aload_n 0, 1), (1, .getfield 31, 3), (4, .iload_n 1, 1), (5, .invokevirtual 133, 3), (8, .ifCond .ne 6, 3), (11, .ldc 75, 2), (13, .ireturn, 1), (14, .aload_n 0, 1), (15, .getfield 54, 3), (18, .aload_n 0, 1), (19, .getfield 31, 3), (22, .invokevirtual 184, 3), (25, .aload_n 0, 1), (26, .aload_n 0, 1), (27, .getfield 54, 3), (30, .iload_n 1, 1), (31, .invokevirtual 201, 3), (34, .invokevirtual 198, 3), (37, .ireturn, 1)]
theorem jm_d55 : ∀ q ∈ jm_c55, decode cX4_box q.1 = .ok q.2 := by decide +kernel
def jm_c56 : List (Nat × Instr × Nat) := [(0, .aload_n 0, 1), (1, .getfield 31, 3), (4, .getfield 125, 3), (7, .ifCond .ne 6, 3), (10, .ldc 132, 2), (12, .ireturn, 1), (13, .iload_n 1, 1), (14, .ifCond .lt 8, 3), (17, .iload_n 1, 1), (18, .iconst 1, 1), (19, .if_icmp .le 6, 3), (22, .ldc 75, 2), (24, .ireturn, 1), (25, .aload_n 0, 1), (26, .getfield 54, 3), (29, .aload_n 0, 1), (30, .getfield 31, 3), (33, .invokevirtual 184, 3), (36, .aload_n 0, 1), (37, .getfield 54, 3), (40, .invokevirtual 204, 3), (43, .ifCond .ne 10, 3), (46, .aload_n 0, 1), (47, .bipush 6, 2), (49, .invokevirtual 76, 3), (52, .ireturn, 1), (53, .aload_n 0, 1), (54, .getfield 54, 3), (57, .invokevirtual 208, 3), (60, .istore_n 2, 1), (61, .iload_n 2, 1), (62, .ldc 212, 2), (64, .if_icmp .eq 7, 3), (67, .iload_n 1, 1), (68, .ifCond .ne 9, 3), (71, .aload_n 0, 1), (72, .iload_n 2, 1), (73, .invokevirtual 80, 3), (76, .ireturn, 1), (77, .aload_n 0, 1), (78, .aload_n 0, 1), (79, .getfield 54, 3), (82, .iload_n 2, 1), (83, .invokevirtual 213, 3), (86, .invokevirtual 80, 3), (89, .ireturn, 1)]
theorem jm_d56 : ∀ q ∈ jm_c56, decode cX4_widest q.1 = .ok q.2 := by decide +kernel
def jm_c57 : List (Nat × Instr × Nat) := [(0, .aload_n 0, 1), (1, .getfield 31, 3), (4, .getfield 125, 3), (7, .ifCond .ne 6, 3), (10, .ldc 132, 2), (12, .ireturn, 1), (13, .iload_n 1, 1), (14, .invokestatic 149, 3), (17, .ifCond .eq 13, 3), (20, .iload_n 2, 1), (21, .ifCond .lt 9, 3), (24, .iload_n 2, 1), (25, .bipush 9, 2), (27, .if_icmp .le 6, 3), (30, .ldc 75, 2), (32, .ireturn, 1), (33, .aload_n 0, 1), (34, .getfield 54, 3), (37, .aload_n 0, 1), (38, .getfield 31, 3), (41, .invokevirtual 184, 3), (44, .aload_n 0, 1), (45, .getfield 54, 3), (48, .invokevirtual 204, 3), (51, .ifCond .ne 10, 3), (54, .aload_n 0, 1), (55, .bipush 6, 2), (57, .invokevirtual 76, 3), (60, .ireturn, 1), (61, .iload_n 1, 1), (62, .istore_n 3, 1), (63, .iload_n 3, 1), (64, .sipush 200, 3), (67, .if_icmp .gt 27, 3), (70, .aload_n 0, 1), (71, .getfield 54, 3), (74, .iload_n 3, 1), (75, .iload_n 2, 1), (76, .invokevirtual 216, 3), (79, .ifCond .eq 9, 3), (82, .aload_n 0, 1), (83, .iload_n 3, 1), (84, .invokevirtual 80, 3), (87, .ireturn, 1), (88, .iinc 3 1, 3), (91, .goto (-28), 3), (94, .aload_n 0, 1), (95, .ldc 212, 2), (97, .invokevirtual 80, 3), (100, .ireturn, 1)]
theorem jm_d57 : ∀ q ∈ jm_c57, decode cX4_clear q.1 = .ok q.2 := by decide +kernel
def jm_c58 : List (Nat × Instr × Nat) := [(0, .aload_n 0, 1), (1, .getfield 31, 3), (4, .iload_n 1, 1), (5, .invokevirtual 133, 3), (8, .ifCond .eq 26, 3), (11, .iload_n 1, 1), (12, .aload_n 0, 1), (13, .getfield 31, 3), (16, .getfield 125, 3), (19, .iconst 1, 1), (20, .isub, 1), (21, .if_icmp .eq 13, 3), (24, .iload_n 2, 1), (25, .ifCond .lt 9, 3), (28, .iload_n 2, 1), (29, .bipush 6, 2), (31, .if_icmp .le 6, 3), (34, .ldc 75, 2), (36, .ireturn, 1), (37, .aload_n 0, 1), (38, .getfield 35, 3), (41, .aload_n 0, 1), (42, .getfield 31, 3), (45, .invokevirtual 118, 3), (48, .iconst 0, 1), (49, .istore_n 3, 1), (50, .iload_n 3, 1), (51, .bipush 60, 2), (53, .if_icmp .gt 65, 3), (56, .aload_n 0, 1), (57, .getfield 35, 3), (60, .getfield 146, 3), (63, .iconst 1, 1), (64, .aaload, 1), (65, .iload_n 1, 1), (66, .aload_n 0, 1), (67, .getfield 31, 3), (70, .getfield 146, 3), (73, .iconst 1, 1), (74, .aaload, 1), (75, .iload_n 1, 1), (76, .iaload, 1), (77, .iload_n 3, 1), (78, .iadd, 1), (79, .iastore, 1), (80, .aload_n 0, 1), (81, .invokevirtual 219, 3), (84, .istore 4, 2), (86, .iload 4, 2), (88, .ldc 222, 2), (90, .if_icmp .ne 10, 3), (93, .aload_n 0, 1), (94, .bipush 6, 2), (96, .invokevirtual 76, 3), (99, .ireturn, 1), (100, .iload 4, 2), (102, .iload_n 2, 1), (103, .if_icmp .gt 9, 3), (106, .aload_n 0, 1), (107, .iload_n 3, 1), (108, .invokevirtual 80, 3), (111, .ireturn, 1), (112, .iinc 3 1, 3), (115, .goto (-65), 3), (118, .aload_n 0, 1), (119, .ldc 212, 2), (121, .invokevirtual 80, 3), (124, .ireturn, 1)]
theorem jm_d58 : ∀ q ∈ jm_c58, decode cX4_stiffer q.1 = .ok q.2 := by decide +kernel
def jm_c59 : List (Nat × Instr × Nat) := [(0, .aload_n 0, 1), (1, .getfield 31, 3), (4, .getfield 125, 3), (7, .ifCond .ne 6, 3), (10, .ldc 132, 2), (12, .ireturn, 1), (13, .iload_n 1, 1), (14, .ifCond .lt 18, 3), (17, .iload_n 1, 1), (18, .bipush 99, 2), (20, .if_icmp .gt 12, 3), (23, .iload_n 2, 1), (24, .ifCond .lt 8, 3), (27, .iload_n 2, 1), (28, .iconst 2, 1), (29, .if_icmp .le 6, 3), (32, .ldc 75, 2), (34, .ireturn, 1), (35, .iconst 0, 1), (36, .istore_n 3, 1), (37, .iconst 1, 1), (38, .aload_n 0, 1), (39, .getfield 31, 3), (42, .getfield 125, 3), (45, .ishl, 1), (46, .iconst 1, 1), (47, .isub, 1), (48, .istore 4, 2), (50, .iload 4, 2), (52, .istore 5, 2), (54, .iconst 0, 1), (55, .istore 6, 2), (57, .iconst 0, 1), (58, .istore 7, 2), (60, .iload 7, 2), (62, .iload 4, 2), (64, .if_icmp .gt 40, 3), (67, .aload_n 0, 1), (68, .getfield 31, 3), (71, .iconst 0, 1), (72, .iload 7, 2), (74, .invokevirtual 223, 3), (77, .iload_n 1, 1), (78, .if_icmp .ne 20, 3), (81, .iinc 3 1, 3), (84, .iload 5, 2), (86, .iload 7, 2), (88, .iand, 1), (89, .istore 5, 2), (91, .iload 6, 2), (93, .iload 7, 2), (95, .ior, 1), (96, .istore 6, 2), (98, .iinc 7 1, 3), (101, .goto (-41), 3), (104, .iload_n 2, 1), (105, .ifCond .ne 5, 3), (108, .iload_n 3, 1), (109, .ireturn, 1), (110, .iload_n 2, 1), (111, .iconst 2, 1), (112, .if_icmp .ne 6, 3), (115, .iload 6, 2), (117, .ireturn, 1), (118, .iload_n 3, 1), (119, .ifCond .ne 7, 3), (122, .iconst 0, 1), (123, .goto 5, 3), (126, .iload 5, 2), (128, .ireturn, 1)]
theorem jm_d59 : ∀ q ∈ jm_c59, decode cX4_sets q.1 = .ok q.2 := by decide +kernel
def jm_c60 : List (Nat × Instr × Nat) := [(0, .aload_n 0, 1), (1, .getfield 31, 3), (4, .iload_n 1, 1), (5, .invokevirtual 133, 3), (8, .ifCond .eq 14, 3), (11, .iload_n 2, 1), (12, .ifCond .lt 10, 3), (15, .iload_n 2, 1), (16, .sipush 999, 3), (19, .if_icmp .le 6, 3), (22, .ldc 75, 2), (24, .ireturn, 1), (25, .aload_n 0, 1), (26, .getfield 31, 3), (29, .iconst 1, 1), (30, .iconst (-1), 1), (31, .invokevirtual 223, 3), (34, .istore_n 3, 1), (35, .iload_n 3, 1), (36, .ifCond .eq 17, 3), (39, .aload_n 0, 1), (40, .getfield 31, 3), (43, .getfield 146, 3), (46, .iconst 1, 1), (47, .aaload, 1), (48, .iload_n 1, 1), (49, .iaload, 1), (50, .ifCond .ne 5, 3), (53, .iconst 0, 1), (54, .ireturn, 1), (55, .iload_n 2, 1), (56, .istore 4, 2), (58, .iconst 0, 1), (59, .istore 5, 2), (61, .iconst 0, 1), (62, .istore 6, 2), (64, .iload 6, 2), (66, .aload_n 0, 1), (67, .getfield 31, 3), (70, .getfield 125, 3), (73, .if_icmp .ge 54, 3), (76, .iload 4, 2), (78, .iload_n 2, 1), (79, .aload_n 0, 1), (80, .getfield 31, 3), (83, .getfield 146, 3), (86, .iconst 1, 1), (87, .aaload, 1), (88, .iload 6, 2), (90, .iaload, 1), (91, .imul, 1), (92, .iload_n 3, 1), (93, .idiv, 1), (94, .isub, 1), (95, .istore 4, 2), (97, .iload 6, 2), (99, .iload_n 1, 1), (100, .if_icmp .ge 21, 3), (103, .aload_n 0, 1), (104, .getfield 31, 3), (107, .getfield 146, 3), (110, .iconst 1, 1), (111, .aaload, 1), (112, .iload 6, 2), (114, .iaload, 1), (115, .ifCond .eq 6, 3), (118, .iinc 5 1, 3), (121, .iinc 6 1, 3), (124, .goto (-60), 3), (127, .iload 5, 2), (129, .iload 4, 2), (131, .if_icmp .ge 7, 3), (134, .iconst 1, 1), (135, .goto 4, 3), (138, .iconst 0, 1), (139, .istore 6, 2), (141, .iload_n 2, 1), (142, .aload_n 0, 1), (143, .getfield 31, 3), (146, .getfield 146, 3), (149, .iconst 1, 1), (150, .aaload, 1), (151, .iload_n 1, 1), (152, .iaload, 1), (153, .imul, 1), (154, .iload_n 3, 1), (155, .idiv, 1), (156, .iload 6, 2), (158, .iadd, 1), (159, .ireturn, 1)]
theorem jm_d60 : ∀ q ∈ jm_c60, decode cX4_share q.1 = .ok q.2 := by decide +kernel
def jm_c61 : List (Nat × Instr × Nat) := [(0, .aload_n 0, 1), (1, .getfield 31, 3), (4, .getfield 125, 3), (7, .ifCond .ne 6, 3), (10, .ldc 132, 2), (12, .ireturn, 1), (13, .iload_n 1, 1), (14, .ifCond .lt 8, 3), (17, .iload_n 1, 1), (18, .iconst 3, 1), (19, .if_icmp .le 6, 3), (22, .ldc 75, 2), (24, .ireturn, 1), (25, .aload_n 0, 1), (26, .getfield 35, 3), (29, .aload_n 0, 1), (30, .getfield 31, 3), (33, .invokevirtual 118, 3), (36, .aload_n 0, 1), (37, .iload_n 1, 1), (38, .iconst 1, 1), (39, .invokevirtual 226, 3), (42, .ireturn, 1)]
theorem jm_d61 : ∀ q ∈ jm_c61, decode cX4_byTurns q.1 = .ok q.2 := by decide +kernel
def jm_c62 : List (Nat × Instr × Nat) := [(0, .aload_n 0, 1), (1, .getfield 31, 3), (4, .iload_n 1, 1), (5, .invokevirtual 133, 3), (8, .ifCond .eq 12, 3), (11, .iload_n 2, 1), (12, .ifCond .lt 8, 3), (15, .iload_n 2, 1), (16, .iconst 3, 1), (17, .if_icmp .le 6, 3), (20, .ldc 75, 2), (22, .ireturn, 1), (23, .iload_n 3, 1), (24, .invokestatic 71, 3), (27, .ifCond .eq 21, 3), (30, .iload 5, 2), (32, .iconst 1, 1), (33, .if_icmp .lt 15, 3), (36, .iload 5, 2), (38, .aload_n 0, 1), (39, .getfield 31, 3), (42, .getfield 125, 3), (45, .if_icmp .le 6, 3), (48, .ldc 75, 2), (50, .ireturn, 1), (51, .aload_n 0, 1), (52, .iload_n 3, 1), (53, .invokevirtual 83, 3), (56, .ifCond .eq 9, 3), (59, .aload_n 0, 1), (60, .iconst 1, 1), (61, .invokevirtual 76, 3), (64, .ireturn, 1), (65, .aload_n 0, 1), (66, .iload_n 3, 1), (67, .iload 4, 2), (69, .iload 5, 2), (71, .invokevirtual 86, 3), (74, .ifCond .ne 9, 3), (77, .aload_n 0, 1), (78, .iconst 2, 1), (79, .invokevirtual 76, 3), (82, .ireturn, 1), (83, .iload_n 2, 1), (84, .ifCond .ne 19, 3), (87, .aload_n 0, 1), (88, .aload_n 0, 1), (89, .iload_n 1, 1), (90, .iconst 3, 1), (91, .iload_n 3, 1), (92, .iload 4, 2), (94, .iload 5, 2), (96, .invokevirtual 230, 3), (99, .invokevirtual 80, 3), (102, .ireturn, 1), (103, .iload_n 2, 1), (104, .iconst 1, 1), (105, .if_icmp .ne 19, 3), (108, .aload_n 0, 1), (109, .aload_n 0, 1), (110, .iload_n 1, 1), (111, .iconst 0, 1), (112, .iload_n 3, 1), (113, .iload 4, 2), (115, .iload 5, 2), (117, .invokevirtual 230, 3), (120, .invokevirtual 80, 3), (123, .ireturn, 1), (124, .aload_n 0, 1), (125, .aload_n 0, 1), (126, .iload_n 1, 1), (127, .iload_n 2, 1), (128, .iconst 3, 1), (129, .if_icmp .ne 7, 3), (132, .iconst 1, 1), (133, .goto 4, 3), (136, .iconst 0, 1), (137, .iload_n 3, 1), (138, .iload 4, 2), (140, .iload 5, 2), (142, .invokevirtual 234, 3), (145, .invokevirtual 80, 3), (148, .ireturn, 1)]
theorem jm_d62 : ∀ q ∈ jm_c62, decode cX4_who q.1 = .ok q.2 := by decide +kernel
def jm_c63 : List (Nat × Instr × Nat) := [(0, .aload_n 0, 1), (1, .getfield 31, 3), (4, .getfield 125, 3), (7, .ifCond .ne 7, 3), (10, .ldc2_w 180, 3), (13, .lreturn, 1), (14, .iload_n 1, 1), (15, .ifCond .lt 28, 3), (18, .iload_n 1, 1), (19, .bipush 6, 2), (21, .if_icmp .gt 22, 3), (24, .iload_n 2, 1), (25, .ifCond .lt 18, 3), (28, .iload_n 2, 1), (29, .bipush 10, 2), (31, .if_icmp .gt 12, 3), (34, .iload_n 3, 1), (35, .ifCond .lt 8, 3), (38, .iload_n 3, 1), (39, .iconst 1, 1), (40, .if_icmp .le 7, 3), (43, .ldc2_w 182, 3), (46, .lreturn, 1), (47, .lconst 0, 1), (48, .lstore 4, 2), (50, .lconst 1, 1), (51, .lstore 6, 2), (53, .aload_n 0, 1), (54, .getfield 31, 3), (57, .getfield 125, 3), (60, .iconst 1, 1), (61, .isub, 1), (62, .istore 8, 2), (64, .iconst 0, 1), (65, .istore 9, 2), (67, .iload 9, 2), (69, .iload 8, 2), (71, .if_icmp .ge 17, 3), (74, .lload 6, 2), (76, .ldc2_w 238, 3), (79, .lmul, 1), (80, .lstore 6, 2), (82, .iinc 9 1, 3), (85, .goto (-18), 3), (88, .aload_n 0, 1), (89, .getfield 35, 3), (92, .aload_n 0, 1), (93, .getfield 31, 3), (96, .invokevirtual 118, 3), (99, .iconst 0, 1), (100, .istore 9, 2), (102, .iload 9, 2), (104, .iconst 1, 1), (105, .iload 8, 2), (107, .ishl, 1), (108, .if_icmp .ge 22, 3), (111, .lload 4, 2), (113, .aload_n 0, 1), (114, .iload 9, 2), (116, .iload_n 1, 1), (117, .iload_n 2, 1), (118, .invokevirtual 240, 3), (121, .ladd, 1), (122, .lstore 4, 2), (124, .iinc 9 1, 3), (127, .goto (-25), 3), (130, .lload 6, 2), (132, .lload 4, 2), (134, .invokestatic 244, 3), (137, .lstore 9, 2), (139, .iload_n 3, 1), (140, .ifCond .ne 11, 3), (143, .lload 4, 2), (145, .lload 9, 2), (147, .ldiv, 1), (148, .goto 8, 3), (151, .lload 6, 2), (153, .lload 9, 2), (155, .ldiv, 1), (156, .lreturn, 1)]
theorem jm_d63 : ∀ q ∈ jm_c63, decode cX4_broken q.1 = .ok q.2 := by decide +kernel
end
section
def jm_c64 : List (Nat × Instr × Nat) := [(0, .aload_n 0, 1), (1, .getfield 31, 3), (4, .getfield 125, 3), (7, .ifCond .ne 6, 3), (10, .ldc 132, 2), (12, .ireturn, 1), (13, .iload_n 1, 1), (14, .ifCond .lt 29, 3), (17, .iload_n 1, 1), (18, .bipush 40, 2), (20, .if_icmp .gt 23, 3), (23, .iload_n 2, 1), (24, .iconst 1, 1), (25, .if_icmp .lt 18, 3), (28, .iload_n 2, 1), (29, .ldc 248, 2), (31, .if_icmp .gt 12, 3), (34, .iload_n 3, 1), (35, .ifCond .lt 8, 3), (38, .iload_n 3, 1), (39, .iconst 1, 1), (40, .if_icmp .le 6, 3), (43, .ldc 75, 2), (45, .ireturn, 1), (46, .aload_n 0, 1), (47, .getfield 35, 3), (50, .aload_n 0, 1), (51, .getfield 31, 3), (54, .invokevirtual 118, 3), (57, .iload_n 2, 1), (58, .i2l, 1), (59, .lstore 4, 2), (61, .iconst 0, 1), (62, .istore 6, 2), (64, .iconst 0, 1), (65, .istore 7, 2), (67, .iconst 0, 1), (68, .istore 8, 2), (70, .iload 8, 2), (72, .iload_n 1, 1), (73, .if_icmp .ge 53, 3), (76, .lload 4, 2), (78, .ldc2_w 249, 3), (81, .lmul, 1), (82, .ldc2_w 251, 3), (85, .lrem, 1), (86, .lstore 4, 2), (88, .aload_n 0, 1), (89, .lload 4, 2), (91, .invokevirtual 253, 3), (94, .aload_n 0, 1), (95, .invokevirtual 219, 3), (98, .istore 9, 2), (100, .iload 9, 2), (102, .ldc 222, 2), (104, .if_icmp .ne 9, 3), (107, .iinc 7 1, 3), (110, .goto 10, 3), (113, .iload 6, 2), (115, .iload 9, 2), (117, .iadd, 1), (118, .istore 6, 2), (120, .iinc 8 1, 3), (123, .goto (-53), 3), (126, .iload_n 3, 1), (127, .ifCond .ne 8, 3), (130, .iload 6, 2), (132, .goto 5, 3), (135, .iload 7, 2), (137, .ireturn, 1)]
theorem jm_d64 : ∀ q ∈ jm_c64, decode cX4_drawn q.1 = .ok q.2 := by decide +kernel
def jm_c65 : List (Nat × Instr × Nat) := [(0, .iload_n 1, 1), (1, .invokestatic 257, 3), (4, .ifCond .ne 6, 3), (7, .ldc 75, 2), (9, .ireturn, 1), (10, .aload_n 0, 1), (11, .getfield 31, 3), (14, .getfield 125, 3), (17, .ifCond .ne 6, 3), (20, .ldc 132, 2), (22, .ireturn, 1), (23, .aload_n 0, 1), (24, .iload_n 1, 1), (25, .invokevirtual 260, 3), (28, .aload_n 0, 1), (29, .getfield 31, 3), (32, .invokevirtual 118, 3), (35, .iconst 1, 1), (36, .ireturn, 1)]
theorem jm_d65 : ∀ q ∈ jm_c65, decode cX4_image q.1 = .ok q.2 := by decide +kernel
def jm_c66 : List (Nat × Instr × Nat) := [(0, .iload_n 1, 1), (1, .invokestatic 257, 3), (4, .ifCond .ne 6, 3), (7, .ldc 75, 2), (9, .ireturn, 1), (10, .aload_n 0, 1), (11, .iload_n 1, 1), (12, .invokevirtual 260, 3), (15, .getfield 125, 3), (18, .ifCond .ne 6, 3), (21, .ldc 132, 2), (23, .ireturn, 1), (24, .aload_n 0, 1), (25, .getfield 31, 3), (28, .aload_n 0, 1), (29, .iload_n 1, 1), (30, .invokevirtual 260, 3), (33, .invokevirtual 118, 3), (36, .aload_n 0, 1), (37, .getfield 47, 3), (40, .invokevirtual 122, 3), (43, .iconst 1, 1), (44, .ireturn, 1)]
theorem jm_d66 : ∀ q ∈ jm_c66, decode cX4_restore q.1 = .ok q.2 := by decide +kernel
def jm_c67 : List (Nat × Instr × Nat) := [(0, .aload_n 0, 1), (1, .getfield 54, 3), (4, .aload_n 0, 1), (5, .getfield 35, 3), (8, .invokevirtual 184, 3), (11, .aload_n 0, 1), (12, .getfield 54, 3), (15, .aload_n 0, 1), (16, .getfield 35, 3), (19, .getfield 152, 3), (22, .invokevirtual 195, 3), (25, .ireturn, 1)]
theorem jm_d67 : ∀ q ∈ jm_c67, decode cX4_belowMarkTried q.1 = .ok q.2 := by decide +kernel
def jm_c68 : List (Nat × Instr × Nat) := [(0, .iload_n 1, 1), (1, .ifCond .gt 26, 3), (4, .aload_n 0, 1), (5, .invokevirtual 219, 3), (8, .istore_n 3, 1), (9, .iload_n 3, 1), (10, .ldc 222, 2), (12, .if_icmp .ne 13, 3), (15, .aload_n 0, 1), (16, .getfield 35, 3), (19, .getfield 125, 3), (22, .goto 4, 3), (25, .iload_n 3, 1), (26, .ireturn, 1), (27, .iload_n 2, 1), (28, .ifCond .eq 7, 3), (31, .iconst 1, 1), (32, .goto 4, 3), (35, .iconst 0, 1), (36, .istore_n 3, 1), (37, .iload_n 2, 1), (38, .ifCond .eq 7, 3), (41, .iconst 5, 1), (42, .goto 4, 3), (45, .iconst 1, 1), (46, .istore 4, 2), (48, .iload_n 2, 1), (49, .ifCond .eq 8, 3), (52, .bipush 6, 2), (54, .goto 4, 3), (57, .iconst 0, 1), (58, .istore 5, 2), (60, .iconst 0, 1), (61, .istore 6, 2), (63, .iload 6, 2), (65, .aload_n 0, 1), (66, .getfield 35, 3), (69, .getfield 125, 3), (72, .if_icmp .ge 84, 3), (75, .aload_n 0, 1), (76, .getfield 35, 3), (79, .getfield 146, 3), (82, .iload_n 3, 1), (83, .aaload, 1), (84, .iload 6, 2), (86, .dup2, 1), (87, .iaload, 1), (88, .iload 4, 2), (90, .iadd, 1), (91, .iastore, 1), (92, .aload_n 0, 1), (93, .iload_n 1, 1), (94, .iconst 1, 1), (95, .isub, 1), (96, .iload_n 2, 1), (97, .ifCond .ne 7, 3), (100, .iconst 1, 1), (101, .goto 4, 3), (104, .iconst 0, 1), (105, .invokevirtual 226, 3), (108, .istore 7, 2), (110, .aload_n 0, 1), (111, .getfield 35, 3), (114, .getfield 146, 3), (117, .iload_n 3, 1), (118, .aaload, 1), (119, .iload 6, 2), (121, .dup2, 1), (122, .iaload, 1), (123, .iload 4, 2), (125, .isub, 1), (126, .iastore, 1), (127, .iload_n 2, 1), (128, .ifCond .eq 13, 3), (131, .iload 5, 2), (133, .iload 7, 2), (135, .invokestatic 264, 3), (138, .goto 10, 3), (141, .iload 5, 2), (143, .iload 7, 2), (145, .invokestatic 267, 3), (148, .istore 5, 2), (150, .iinc 6 1, 3), (153, .goto (-90), 3), (156, .iload 5, 2), (158, .ireturn, 1)]
theorem jm_d68 : ∀ q ∈ jm_c68, decode cX4_turned q.1 = .ok q.2 := by decide +kernel
def jm_c69 : List (Nat × Instr × Nat) := [(0, .iconst 0, 1), (1, .istore 6, 2), (3, .aload_n 0, 1), (4, .getfield 35, 3), (7, .aload_n 0, 1), (8, .getfield 31, 3), (11, .invokevirtual 118, 3), (14, .getstatic 136, 3), (17, .iload_n 2, 1), (18, .iaload, 1), (19, .istore 7, 2), (21, .iload 7, 2), (23, .getstatic 139, 3), (26, .iload_n 2, 1), (27, .iaload, 1), (28, .if_icmp .gt 43, 3), (31, .aload_n 0, 1), (32, .getfield 35, 3), (35, .getfield 146, 3), (38, .iload_n 2, 1), (39, .aaload, 1), (40, .iload_n 1, 1), (41, .iload 7, 2), (43, .iastore, 1), (44, .aload_n 0, 1), (45, .iload_n 3, 1), (46, .iload 4, 2), (48, .iload 5, 2), (50, .invokevirtual 270, 3), (53, .ifCond .eq 12, 3), (56, .iload 6, 2), (58, .iconst 1, 1), (59, .iload 7, 2), (61, .ishl, 1), (62, .ior, 1), (63, .istore 6, 2), (65, .iinc 7 1, 3), (68, .goto (-47), 3), (71, .iload 6, 2), (73, .ireturn, 1)]
theorem jm_d69 : ∀ q ∈ jm_c69, decode cX4_bitsThatFit q.1 = .ok q.2 := by decide +kernel
def jm_c70 : List (Nat × Instr × Nat) := [(0, .iconst 0, 1), (1, .istore 6, 2), (3, .aload_n 0, 1), (4, .getfield 35, 3), (7, .aload_n 0, 1), (8, .getfield 31, 3), (11, .invokevirtual 118, 3), (14, .getstatic 136, 3), (17, .iconst 1, 1), (18, .iaload, 1), (19, .istore 7, 2), (21, .iload 7, 2), (23, .getstatic 139, 3), (26, .iconst 1, 1), (27, .iaload, 1), (28, .if_icmp .gt 44, 3), (31, .aload_n 0, 1), (32, .getfield 35, 3), (35, .getfield 146, 3), (38, .iconst 1, 1), (39, .aaload, 1), (40, .iload_n 1, 1), (41, .iload 7, 2), (43, .iastore, 1), (44, .aload_n 0, 1), (45, .iload_n 3, 1), (46, .iload 4, 2), (48, .iload 5, 2), (50, .invokevirtual 270, 3), (53, .ifCond .eq 13, 3), (56, .iload_n 2, 1), (57, .ifCond .eq 6, 3), (60, .iload 7, 2), (62, .ireturn, 1), (63, .iinc 6 1, 3), (66, .iinc 7 1, 3), (69, .goto (-48), 3), (72, .iload_n 2, 1), (73, .ifCond .eq 8, 3), (76, .ldc 212, 2), (78, .goto 5, 3), (81, .iload 6, 2), (83, .ireturn, 1)]
theorem jm_d70 : ∀ q ∈ jm_c70, decode cX4_springsThatFit q.1 = .ok q.2 := by decide +kernel
def jm_c71 : List (Nat × Instr × Nat) := [(0, .aload_n 0, 1), (1, .getfield 54, 3), (4, .aload_n 0, 1), (5, .getfield 35, 3), (8, .invokevirtual 184, 3), (11, .iconst 0, 1), (12, .istore 4, 2), (14, .iload 4, 2), (16, .iload_n 3, 1), (17, .if_icmp .ge 62, 3), (20, .aload_n 0, 1), (21, .getfield 54, 3), (24, .iload 4, 2), (26, .invokevirtual 201, 3), (29, .istore 5, 2), (31, .iload 5, 2), (33, .ldc 222, 2), (35, .if_icmp .ne 5, 3), (38, .iconst 0, 1), (39, .ireturn, 1), (40, .iload 5, 2), (42, .ldc 212, 2), (44, .if_icmp .ne 7, 3), (47, .iconst (-1), 1), (48, .goto 5, 3), (51, .iload 5, 2), (53, .istore 6, 2), (55, .iload 6, 2), (57, .aload_n 0, 1), (58, .getfield 18, 3), (61, .iload_n 1, 1), (62, .aaload, 1), (63, .iload_n 2, 1), (64, .iload 4, 2), (66, .iadd, 1), (67, .iaload, 1), (68, .if_icmp .eq 5, 3), (71, .iconst 0, 1), (72, .ireturn, 1), (73, .iinc 4 1, 3), (76, .goto (-62), 3), (79, .iconst 1, 1), (80, .ireturn, 1)]
theorem jm_d71 : ∀ q ∈ jm_c71, decode cX4_triedBoxesAre q.1 = .ok q.2 := by decide +kernel
def jm_c72 : List (Nat × Instr × Nat) := [(0, .lconst 1, 1), (1, .lstore 4, 2), (3, .iconst 0, 1), (4, .istore 6, 2), (6, .iload 6, 2), (8, .aload_n 0, 1), (9, .getfield 31, 3), (12, .getfield 125, 3), (15, .iconst 1, 1), (16, .isub, 1), (17, .if_icmp .ge 79, 3), (20, .iload_n 1, 1), (21, .iload 6, 2), (23, .ishr, 1), (24, .iconst 1, 1), (25, .iand, 1), (26, .iconst 1, 1), (27, .if_icmp .ne 7, 3), (30, .iconst 1, 1), (31, .goto 4, 3), (34, .iconst 0, 1), (35, .istore 7, 2), (37, .aload_n 0, 1), (38, .getfield 35, 3), (41, .getfield 146, 3), (44, .iconst 1, 1), (45, .aaload, 1), (46, .iload 6, 2), (48, .iload 7, 2), (50, .ifCond .eq 7, 3), (53, .iconst 0, 1), (54, .goto 15, 3), (57, .aload_n 0, 1), (58, .getfield 31, 3), (61, .getfield 146, 3), (64, .iconst 1, 1), (65, .aaload, 1), (66, .iload 6, 2), (68, .iaload, 1), (69, .iastore, 1), (70, .lload 4, 2), (72, .iload 7, 2), (74, .ifCond .eq 8, 3), (77, .iload_n 3, 1), (78, .i2l, 1), (79, .goto 8, 3), (82, .bipush 10, 2), (84, .iload_n 3, 1), (85, .isub, 1), (86, .i2l, 1), (87, .lmul, 1), (88, .lstore 4, 2), (90, .iinc 6 1, 3), (93, .goto (-87), 3), (96, .aload_n 0, 1), (97, .invokevirtual 219, 3), (100, .iload_n 2, 1), (101, .if_icmp .ne 8, 3), (104, .lload 4, 2), (106, .goto 4, 3), (109, .lconst 0, 1), (110, .lreturn, 1)]
theorem jm_d72 : ∀ q ∈ jm_c72, decode cX4_casesOf q.1 = .ok q.2 := by decide +kernel
def jm_c73 : List (Nat × Instr × Nat) := [(0, .lload_n 0, 1), (1, .lstore 4, 2), (3, .lload_n 2, 1), (4, .lstore 6, 2), (6, .iconst 0, 1), (7, .istore 8, 2), (9, .iload 8, 2), (11, .sipush 200, 3), (14, .if_icmp .ge 31, 3), (17, .lload 6, 2), (19, .lconst 0, 1), (20, .lcmp, 1), (21, .ifCond .eq 24, 3), (24, .lload 4, 2), (26, .lload 6, 2), (28, .lrem, 1), (29, .lstore 9, 2), (31, .lload 6, 2), (33, .lstore 4, 2), (35, .lload 9, 2), (37, .lstore 6, 2), (39, .iinc 8 1, 3), (42, .goto (-33), 3), (45, .lload 4, 2), (47, .lconst 0, 1), (48, .lcmp, 1), (49, .ifCond .ne 7, 3), (52, .lconst 1, 1), (53, .goto 5, 3), (56, .lload 4, 2), (58, .lreturn, 1)]
theorem jm_d73 : ∀ q ∈ jm_c73, decode cX4_commonDivisor q.1 = .ok q.2 := by decide +kernel
def jm_c74 : List (Nat × Instr × Nat) := [(0, .aload_n 0, 1), (1, .getfield 35, 3), (4, .getfield 125, 3), (7, .ifCond .ne 4, 3), (10, .return_, 1), (11, .lload_n 1, 1), (12, .aload_n 0, 1), (13, .getfield 35, 3), (16, .getfield 125, 3), (19, .i2l, 1), (20, .lrem, 1), (21, .l2i, 1), (22, .istore_n 3, 1), (23, .aload_n 0, 1), (24, .getfield 35, 3), (27, .iload_n 3, 1), (28, .invokevirtual 133, 3), (31, .ifCond .ne 4, 3), (34, .return_, 1), (35, .lload_n 1, 1), (36, .ldc2_w 273, 3), (39, .lrem, 1), (40, .lconst 0, 1), (41, .lcmp, 1), (42, .ifCond .ne 27, 3), (45, .aload_n 0, 1), (46, .getfield 35, 3), (49, .getfield 146, 3), (52, .iconst 1, 1), (53, .aaload, 1), (54, .iload_n 3, 1), (55, .lload_n 1, 1), (56, .ldc2_w 275, 3), (59, .ldiv, 1), (60, .ldc2_w 277, 3), (63, .lrem, 1), (64, .l2i, 1), (65, .iastore, 1), (66, .goto 26, 3), (69, .aload_n 0, 1), (70, .getfield 35, 3), (73, .getfield 146, 3), (76, .iconst 0, 1), (77, .aaload, 1), (78, .iload_n 3, 1), (79, .lload_n 1, 1), (80, .ldc2_w 279, 3), (83, .ldiv, 1), (84, .ldc2_w 281, 3), (87, .lrem, 1), (88, .l2i, 1), (89, .iconst 1, 1), (90, .iadd, 1), (91, .iastore, 1), (92, .return_, 1)]
theorem jm_d74 : ∀ q ∈ jm_c74, decode cX4_drawOne q.1 = .ok q.2 := by decide +kernel
def jm_c75 : List (Nat × Instr × Nat) := [(0, .iload_n 0, 1), (1, .ifCond .lt 12, 3), (4, .iload_n 0, 1), (5, .iconst 2, 1), (6, .if_icmp .ge 7, 3), (9, .iconst 1, 1), (10, .goto 4, 3), (13, .iconst 0, 1), (14, .ireturn, 1)]
theorem jm_d75 : ∀ q ∈ jm_c75, decode cX4_isImage q.1 = .ok q.2 := by decide +kernel
def jm_c76 : List (Nat × Instr × Nat) := [(0, .iload_n 1, 1), (1, .ifCond .ne 10, 3), (4, .aload_n 0, 1), (5, .getfield 38, 3), (8, .goto 7, 3), (11, .aload_n 0, 1), (12, .getfield 41, 3), (15, .areturn, 1)]
theorem jm_d76 : ∀ q ∈ jm_c76, decode cX4_imageAt q.1 = .ok q.2 := by decide +kernel
def jm_c77 : List (Nat × Instr × Nat) := [(0, .aload_n 0, 1), (1, .getfield 31, 3), (4, .iload_n 1, 1), (5, .invokevirtual 133, 3), (8, .ifCond .eq 17, 3), (11, .aload_n 0, 1), (12, .getfield 31, 3), (15, .getfield 146, 3), (18, .iconst 3, 1), (19, .aaload, 1), (20, .iload_n 1, 1), (21, .iaload, 1), (22, .goto 5, 3), (25, .ldc 75, 2), (27, .ireturn, 1)]
theorem jm_d77 : ∀ q ∈ jm_c77, decode cX4_kind q.1 = .ok q.2 := by decide +kernel
def jm_c78 : List (Nat × Instr × Nat) := [(0, .aload_n 0, 1), (1, .getfield 31, 3), (4, .iload_n 1, 1), (5, .invokevirtual 133, 3), (8, .ifCond .eq 13, 3), (11, .iload_n 2, 1), (12, .ifCond .lt 9, 3), (15, .iload_n 2, 1), (16, .bipush 6, 2), (18, .if_icmp .lt 6, 3), (21, .ldc 75, 2), (23, .ireturn, 1), (24, .aload_n 0, 1), (25, .getfield 31, 3), (28, .getfield 146, 3), (31, .iconst 3, 1), (32, .aaload, 1), (33, .iload_n 1, 1), (34, .iaload, 1), (35, .iload_n 2, 1), (36, .invokestatic 283, 3), (39, .ifCond .eq 11, 3), (42, .aload_n 0, 1), (43, .iload_n 1, 1), (44, .invokevirtual 80, 3), (47, .goto 8, 3), (50, .aload_n 0, 1), (51, .iconst 3, 1), (52, .invokevirtual 76, 3), (55, .ireturn, 1)]
theorem jm_d78 : ∀ q ∈ jm_c78, decode cX4_as q.1 = .ok q.2 := by decide +kernel
def jm_c79 : List (Nat × Instr × Nat) := [(0, .aload_n 0, 1), (1, .getfield 31, 3), (4, .iload_n 1, 1), (5, .invokevirtual 133, 3), (8, .ifCond .eq 12, 3), (11, .iload_n 2, 1), (12, .ifCond .lt 8, 3), (15, .iload_n 2, 1), (16, .iconst 1, 1), (17, .if_icmp .le 6, 3), (20, .ldc 75, 2), (22, .ireturn, 1), (23, .aload_n 0, 1), (24, .iconst 0, 1), (25, .putfield 61, 3), (28, .aload_n 0, 1), (29, .iload_n 1, 1), (30, .iload_n 2, 1), (31, .iconst 0, 1), (32, .invokevirtual 286, 3), (35, .ireturn, 1)]
theorem jm_d79 : ∀ q ∈ jm_c79, decode cX4_ask q.1 = .ok q.2 := by decide +kernel
def jm_c80 : List (Nat × Instr × Nat) := [(0, .iload_n 1, 1), (1, .ifCond .lt 20, 3), (4, .iload_n 1, 1), (5, .aload_n 0, 1), (6, .getfield 61, 3), (9, .if_icmp .ge 12, 3), (12, .aload_n 0, 1), (13, .getfield 58, 3), (16, .iload_n 1, 1), (17, .iaload, 1), (18, .goto 5, 3), (21, .ldc 212, 2), (23, .ireturn, 1)]
theorem jm_d80 : ∀ q ∈ jm_c80, decode cX4_trace q.1 = .ok q.2 := by decide +kernel
def jm_c81 : List (Nat × Instr × Nat) := [(0, .iload_n 1, 1), (1, .tableswitch 100 0 6 #[43, 48, 56, 64, 74, 84, 92], 43), (44, .aload_n 0, 1), (45, .invokevirtual 289, 3), (48, .ireturn, 1), (49, .aload_n 0, 1), (50, .getfield 31, 3), (53, .getfield 125, 3), (56, .ireturn, 1), (57, .aload_n 0, 1), (58, .getfield 31, 3), (61, .getfield 152, 3), (64, .ireturn, 1), (65, .aload_n 0, 1), (66, .getfield 31, 3), (69, .iconst 0, 1), (70, .iconst (-1), 1), (71, .invokevirtual 223, 3), (74, .ireturn, 1), (75, .aload_n 0, 1), (76, .getfield 31, 3), (79, .iconst 1, 1), (80, .iconst (-1), 1), (81, .invokevirtual 223, 3), (84, .ireturn, 1), (85, .aload_n 0, 1), (86, .getfield 47, 3), (89, .getfield 131, 3), (92, .ireturn, 1), (93, .aload_n 0, 1), (94, .getfield 24, 3), (97, .getfield 103, 3), (100, .ireturn, 1), (101, .ldc 75, 2), (103, .ireturn, 1)]
theorem jm_d81 : ∀ q ∈ jm_c81, decode cX4_count q.1 = .ok q.2 := by decide +kernel
def jm_c82 : List (Nat × Instr × Nat) := [(0, .aload_n 0, 1), (1, .getfield 68, 3), (4, .ireturn, 1)]
theorem jm_d82 : ∀ q ∈ jm_c82, decode cX4_status q.1 = .ok q.2 := by decide +kernel
def jm_c83 : List (Nat × Instr × Nat) := [(0, .iload_n 0, 1), (1, .istore_n 2, 1), (2, .iconst 0, 1), (3, .istore_n 3, 1), (4, .iload_n 3, 1), (5, .bipush 6, 2), (7, .if_icmp .ge 32, 3), (10, .iload_n 2, 1), (11, .ifCond .lt 28, 3), (14, .iload_n 2, 1), (15, .bipush 6, 2), (17, .if_icmp .ge 22, 3), (20, .iload_n 2, 1), (21, .iload_n 1, 1), (22, .if_icmp .ne 5, 3), (25, .iconst 1, 1), (26, .ireturn, 1), (27, .getstatic 292, 3), (30, .iload_n 2, 1), (31, .iaload, 1), (32, .istore_n 2, 1), (33, .iinc 3 1, 3), (36, .goto (-32), 3), (39, .iconst 0, 1), (40, .ireturn, 1)]
theorem jm_d83 : ∀ q ∈ jm_c83, decode cX4_isOfKind q.1 = .ok q.2 := by decide +kernel
def jm_c84 : List (Nat × Instr × Nat) := [(0, .aload_n 0, 1), (1, .getfield 31, 3), (4, .getfield 146, 3), (7, .iconst 3, 1), (8, .aaload, 1), (9, .iload_n 1, 1), (10, .iaload, 1), (11, .istore 4, 2), (13, .iload 4, 2), (15, .ifCond .lt 10, 3), (18, .iload 4, 2), (20, .bipush 6, 2), (22, .if_icmp .lt 5, 3), (25, .iconst 0, 1), (26, .ireturn, 1), (27, .aload_n 0, 1), (28, .iload_n 2, 1), (29, .ifCond .ne 12, 3), (32, .getstatic 295, 3), (35, .iload 4, 2), (37, .iaload, 1), (38, .goto 9, 3), (41, .getstatic 298, 3), (44, .iload 4, 2), (46, .iaload, 1), (47, .iload_n 1, 1), (48, .iload_n 3, 1), (49, .invokevirtual 301, 3), (52, .ireturn, 1)]
theorem jm_d84 : ∀ q ∈ jm_c84, decode cX4_asked q.1 = .ok q.2 := by decide +kernel
def jm_c85 : List (Nat × Instr × Nat) := [(0, .iload_n 3, 1), (1, .bipush 12, 2), (3, .if_icmp .le 5, 3), (6, .iconst 0, 1), (7, .ireturn, 1), (8, .aload_n 0, 1), (9, .iload_n 1, 1), (10, .invokevirtual 304, 3), (13, .iload_n 3, 1), (14, .iconst 1, 1), (15, .iadd, 1), (16, .istore 4, 2), (18, .iload_n 1, 1), (19, .tableswitch 209 10 24 #[73, 85, 104, 115, 128, 209, 209, 209, 209, 209, 140, 142, 164, 178, 197], 73), (92, .aload_n 0, 1), (93, .getfield 31, 3), (96, .getfield 146, 3), (99, .iconst 1, 1), (100, .aaload, 1), (101, .iload_n 2, 1), (102, .iaload, 1), (103, .ireturn, 1), (104, .aload_n 0, 1), (105, .bipush 10, 2), (107, .iload_n 2, 1), (108, .iload 4, 2), (110, .invokevirtual 301, 3), (113, .aload_n 0, 1), (114, .iload_n 2, 1), (115, .iconst 1, 1), (116, .iload 4, 2), (118, .invokevirtual 286, 3), (121, .iadd, 1), (122, .ireturn, 1), (123, .aload_n 0, 1), (124, .bipush 11, 2), (126, .iload_n 2, 1), (127, .iload 4, 2), (129, .invokevirtual 301, 3), (132, .ineg, 1), (133, .ireturn, 1), (134, .aload_n 0, 1), (135, .bipush 10, 2), (137, .iload_n 2, 1), (138, .iload 4, 2), (140, .invokevirtual 301, 3), (143, .bipush 100, 2), (145, .isub, 1), (146, .ireturn, 1), (147, .iconst 2, 1), (148, .aload_n 0, 1), (149, .bipush 13, 2), (151, .iload_n 2, 1), (152, .iload 4, 2), (154, .invokevirtual 301, 3), (157, .imul, 1), (158, .ireturn, 1), (159, .iload_n 2, 1), (160, .ireturn, 1), (161, .aload_n 0, 1), (162, .bipush 20, 2), (164, .iload_n 2, 1), (165, .iload 4, 2), (167, .invokevirtual 301, 3), (170, .aload_n 0, 1), (171, .getfield 31, 3), (174, .getfield 146, 3), (177, .iconst 0, 1), (178, .aaload, 1), (179, .iload_n 2, 1), (180, .iaload, 1), (181, .iadd, 1), (182, .ireturn, 1), (183, .aload_n 0, 1), (184, .bipush 21, 2), (186, .iload_n 2, 1), (187, .iload 4, 2), (189, .invokevirtual 301, 3), (192, .sipush 1000, 3), (195, .isub, 1), (196, .ireturn, 1), (197, .aload_n 0, 1), (198, .bipush 20, 2), (200, .iload_n 2, 1), (201, .iload 4, 2), (203, .invokevirtual 301, 3), (206, .aload_n 0, 1), (207, .iload_n 2, 1), (208, .iconst 0, 1), (209, .iload 4, 2), (211, .invokevirtual 286, 3), (214, .isub, 1), (215, .ireturn, 1), (216, .iconst 2, 1), (217, .aload_n 0, 1), (218, .bipush 21, 2), (220, .iload_n 2, 1), (221, .iload 4, 2), (223, .invokevirtual 301, 3), (226, .imul, 1), (227, .ireturn, 1), (228, .iconst 0, 1), (229, .ireturn, 1)]
theorem jm_d85 : ∀ q ∈ jm_c85, decode cX4_answerOf q.1 = .ok q.2 := by decide +kernel
def jm_c86 : List (Nat × Instr × Nat) := [(0, .aload_n 0, 1), (1, .getfield 61, 3), (4, .bipush 16, 2), (6, .if_icmp .ge 23, 3), (9, .aload_n 0, 1), (10, .getfield 58, 3), (13, .aload_n 0, 1), (14, .getfield 61, 3), (17, .iload_n 1, 1), (18, .iastore, 1), (19, .aload_n 0, 1), (20, .dup, 1), (21, .getfield 61, 3), (24, .iconst 1, 1), (25, .iadd, 1), (26, .putfield 61, 3), (29, .return_, 1)]
theorem jm_d86 : ∀ q ∈ jm_c86, decode cX4_leaveTrace q.1 = .ok q.2 := by decide +kernel
def jm_c87 : List (Nat × Instr × Nat) := [(0, .iconst 0, 1), (1, .istore_n 1, 1), (2, .iconst 0, 1), (3, .istore_n 2, 1), (4, .iload_n 2, 1), (5, .bipush 8, 2), (7, .if_icmp .ge 20, 3), (10, .aload_n 0, 1), (11, .iload_n 2, 1), (12, .invokevirtual 83, 3), (15, .ifCond .ne 6, 3), (18, .iinc 1 1, 3), (21, .iinc 2 1, 3), (24, .goto (-20), 3), (27, .iload_n 1, 1), (28, .ireturn, 1)]
theorem jm_d87 : ∀ q ∈ jm_c87, decode cX4_rowsThatStand q.1 = .ok q.2 := by decide +kernel
def jm_c88 : List (Nat × Instr × Nat) := [(0, .aload_n 0, 1), (1, .iload_n 1, 1), (2, .putfield 68, 3), (5, .ldc_w 308, 3), (8, .iload_n 1, 1), (9, .isub, 1), (10, .ireturn, 1)]
theorem jm_d88 : ∀ q ∈ jm_c88, decode cX4_found q.1 = .ok q.2 := by decide +kernel
def jm_c89 : List (Nat × Instr × Nat) := [(0, .aload_n 0, 1), (1, .iconst 0, 1), (2, .putfield 68, 3), (5, .iload_n 1, 1), (6, .ireturn, 1)]
theorem jm_d89 : ∀ q ∈ jm_c89, decode cX4_clean q.1 = .ok q.2 := by decide +kernel
def jm_c90 : List (Nat × Instr × Nat) := [(0, .iload_n 1, 1), (1, .ldc 222, 2), (3, .if_icmp .ne 12, 3), (6, .aload_n 0, 1), (7, .bipush 6, 2), (9, .invokevirtual 76, 3), (12, .goto 8, 3), (15, .aload_n 0, 1), (16, .iload_n 1, 1), (17, .invokevirtual 80, 3), (20, .ireturn, 1)]
theorem jm_d90 : ∀ q ∈ jm_c90, decode cX4_answered q.1 = .ok q.2 := by decide +kernel
def jm_c91 : List (Nat × Instr × Nat) := [(0, .lload_n 0, 1), (1, .lload_n 2, 1), (2, .lcmp, 1), (3, .ifCond .lt 14, 3), (6, .lload_n 0, 1), (7, .lload 4, 2), (9, .lcmp, 1), (10, .ifCond .gt 7, 3), (13, .iconst 1, 1), (14, .goto 4, 3), (17, .iconst 0, 1), (18, .ireturn, 1)]
theorem jm_d91 : ∀ q ∈ jm_c91, decode cX5_in q.1 = .ok q.2 := by decide +kernel
def jm_c92 : List (Nat × Instr × Nat) := [(0, .aload_n 0, 1), (1, .iload_n 1, 1), (2, .putfield 55, 3), (5, .ldc 58, 2), (7, .iload_n 1, 1), (8, .isub, 1), (9, .ireturn, 1)]
theorem jm_d92 : ∀ q ∈ jm_c92, decode cX5_finding q.1 = .ok q.2 := by decide +kernel
def jm_c93 : List (Nat × Instr × Nat) := [(0, .iload_n 0, 1), (1, .i2l, 1), (2, .lconst 0, 1), (3, .ldc2_w 59, 3), (6, .invokestatic 61, 3), (9, .ireturn, 1)]
theorem jm_d93 : ∀ q ∈ jm_c93, decode cX5_isRow q.1 = .ok q.2 := by decide +kernel
def jm_c94 : List (Nat × Instr × Nat) := [(0, .aload_n 0, 1), (1, .iconst 0, 1), (2, .putfield 51, 3), (5, .iload_n 1, 1), (6, .invokestatic 65, 3), (9, .ifCond .eq 21, 3), (12, .iload_n 2, 1), (13, .i2l, 1), (14, .lconst 0, 1), (15, .ldc2_w 69, 3), (18, .invokestatic 61, 3), (21, .ifCond .eq 9, 3), (24, .iload_n 3, 1), (25, .bipush 40, 2), (27, .if_icmp .le 6, 3), (30, .ldc 71, 2), (32, .ireturn, 1), (33, .aload_n 0, 1), (34, .iconst 0, 1), (35, .putfield 55, 3), (38, .iload_n 3, 1), (39, .ifCond .ge 9, 3), (42, .aload_n 0, 1), (43, .iconst 4, 1), (44, .invokevirtual 72, 3), (47, .ireturn, 1), (48, .aload_n 0, 1), (49, .getfield 7, 3), (52, .iload_n 1, 1), (53, .iload_n 2, 1), (54, .iastore, 1), (55, .aload_n 0, 1), (56, .getfield 13, 3), (59, .iload_n 1, 1), (60, .iload_n 3, 1), (61, .iastore, 1), (62, .iconst 0, 1), (63, .istore 4, 2), (65, .iload 4, 2), (67, .bipush 40, 2), (69, .if_icmp .ge 22, 3), (72, .aload_n 0, 1), (73, .getfield 16, 3), (76, .bipush 40, 2), (78, .iload_n 1, 1), (79, .imul, 1), (80, .iload 4, 2), (82, .iadd, 1), (83, .iconst 0, 1), (84, .iastore, 1), (85, .iinc 4 1, 3), (88, .goto (-23), 3), (91, .iload_n 3, 1), (92, .ireturn, 1)]
theorem jm_d94 : ∀ q ∈ jm_c94, decode cX5_row q.1 = .ok q.2 := by decide +kernel
def jm_c95 : List (Nat × Instr × Nat) := [(0, .aload_n 0, 1), (1, .iconst 0, 1), (2, .putfield 51, 3), (5, .iload_n 1, 1), (6, .invokestatic 65, 3), (9, .ifCond .ne 6, 3), (12, .ldc 71, 2), (14, .ireturn, 1), (15, .aload_n 0, 1), (16, .iconst 0, 1), (17, .putfield 55, 3), (20, .aload_n 0, 1), (21, .getfield 7, 3), (24, .iload_n 1, 1), (25, .iaload, 1), (26, .ifCond .ge 9, 3), (29, .aload_n 0, 1), (30, .iconst 1, 1), (31, .invokevirtual 72, 3), (34, .ireturn, 1), (35, .iload_n 2, 1), (36, .i2l, 1), (37, .lconst 0, 1), (38, .aload_n 0, 1), (39, .getfield 13, 3), (42, .iload_n 1, 1), (43, .iaload, 1), (44, .iconst 1, 1), (45, .isub, 1), (46, .i2l, 1), (47, .invokestatic 61, 3), (50, .ifCond .ne 9, 3), (53, .aload_n 0, 1), (54, .iconst 2, 1), (55, .invokevirtual 72, 3), (58, .ireturn, 1), (59, .aload_n 0, 1), (60, .getfield 16, 3), (63, .bipush 40, 2), (65, .iload_n 1, 1), (66, .imul, 1), (67, .iload_n 2, 1), (68, .iadd, 1), (69, .aload_n 0, 1), (70, .getfield 7, 3), (73, .iload_n 1, 1), (74, .iaload, 1), (75, .ifCond .ne 8, 3), (78, .iload_n 3, 1), (79, .i2b, 1), (80, .goto 19, 3), (83, .aload_n 0, 1), (84, .getfield 7, 3), (87, .iload_n 1, 1), (88, .iaload, 1), (89, .iconst 1, 1), (90, .if_icmp .ne 8, 3), (93, .iload_n 3, 1), (94, .i2s, 1), (95, .goto 4, 3), (98, .iload_n 3, 1), (99, .iastore, 1), (100, .aload_n 0, 1), (101, .getfield 16, 3), (104, .bipush 40, 2), (106, .iload_n 1, 1), (107, .imul, 1), (108, .iload_n 2, 1), (109, .iadd, 1), (110, .iaload, 1), (111, .ireturn, 1)]
theorem jm_d95 : ∀ q ∈ jm_c95, decode cX5_set q.1 = .ok q.2 := by decide +kernel
def jm_c96 : List (Nat × Instr × Nat) := [(0, .aload_n 0, 1), (1, .iconst 0, 1), (2, .putfield 51, 3), (5, .iload_n 1, 1), (6, .invokestatic 65, 3), (9, .ifCond .eq 10, 3), (12, .iload_n 3, 1), (13, .invokestatic 65, 3), (16, .ifCond .ne 6, 3), (19, .ldc 71, 2), (21, .ireturn, 1), (22, .aload_n 0, 1), (23, .iconst 0, 1), (24, .putfield 55, 3), (27, .aload_n 0, 1), (28, .getfield 7, 3), (31, .iload_n 1, 1), (32, .iaload, 1), (33, .ifCond .lt 12, 3), (36, .aload_n 0, 1), (37, .getfield 7, 3), (40, .iload_n 3, 1), (41, .iaload, 1), (42, .ifCond .ge 9, 3), (45, .aload_n 0, 1), (46, .iconst 1, 1), (47, .invokevirtual 72, 3), (50, .ireturn, 1), (51, .aload_n 0, 1), (52, .getfield 7, 3), (55, .iload_n 1, 1), (56, .iaload, 1), (57, .aload_n 0, 1), (58, .getfield 7, 3), (61, .iload_n 3, 1), (62, .iaload, 1), (63, .if_icmp .eq 9, 3), (66, .aload_n 0, 1), (67, .iconst 5, 1), (68, .invokevirtual 72, 3), (71, .ireturn, 1), (72, .iload_n 2, 1), (73, .ifCond .lt 48, 3), (76, .iload 4, 2), (78, .ifCond .lt 43, 3), (81, .iload 5, 2), (83, .ifCond .lt 38, 3), (86, .iload_n 2, 1), (87, .i2l, 1), (88, .iload 5, 2), (90, .i2l, 1), (91, .ladd, 1), (92, .aload_n 0, 1), (93, .getfield 13, 3), (96, .iload_n 1, 1), (97, .iaload, 1), (98, .i2l, 1), (99, .lcmp, 1), (100, .ifCond .gt 21, 3), (103, .iload 4, 2), (105, .i2l, 1), (106, .iload 5, 2), (108, .i2l, 1), (109, .ladd, 1), (110, .aload_n 0, 1), (111, .getfield 13, 3), (114, .iload_n 3, 1), (115, .iaload, 1), (116, .i2l, 1), (117, .lcmp, 1), (118, .ifCond .le 9, 3), (121, .aload_n 0, 1), (122, .iconst 2, 1), (123, .invokevirtual 72, 3), (126, .ireturn, 1), (127, .iload_n 2, 1), (128, .iload 4, 2), (130, .if_icmp .lt 7, 3), (133, .iconst 1, 1), (134, .goto 4, 3), (137, .iconst 0, 1), (138, .istore 6, 2), (140, .iconst 0, 1), (141, .istore 7, 2), (143, .iload 7, 2), (145, .iload 5, 2), (147, .if_icmp .ge 57, 3), (150, .iload 6, 2), (152, .ifCond .eq 8, 3), (155, .iload 7, 2), (157, .goto 10, 3), (160, .iload 5, 2), (162, .iconst 1, 1), (163, .isub, 1), (164, .iload 7, 2), (166, .isub, 1), (167, .istore 8, 2), (169, .aload_n 0, 1), (170, .getfield 16, 3), (173, .bipush 40, 2), (175, .iload_n 3, 1), (176, .imul, 1), (177, .iload 4, 2), (179, .iadd, 1), (180, .iload 8, 2), (182, .iadd, 1), (183, .aload_n 0, 1), (184, .getfield 16, 3), (187, .bipush 40, 2), (189, .iload_n 1, 1), (190, .imul, 1), (191, .iload_n 2, 1), (192, .iadd, 1), (193, .iload 8, 2), (195, .iadd, 1), (196, .iaload, 1), (197, .iastore, 1), (198, .iinc 7 1, 3), (201, .goto (-58), 3), (204, .iload 5, 2), (206, .ireturn, 1)]
theorem jm_d96 : ∀ q ∈ jm_c96, decode cX5_copy q.1 = .ok q.2 := by decide +kernel
end
section
def jm_c97 : List (Nat × Instr × Nat) := [(0, .aload_n 0, 1), (1, .iconst 0, 1), (2, .putfield 51, 3), (5, .iload_n 1, 1), (6, .invokestatic 65, 3), (9, .ifCond .ne 6, 3), (12, .ldc 71, 2), (14, .ireturn, 1), (15, .aload_n 0, 1), (16, .iconst 0, 1), (17, .putfield 55, 3), (20, .aload_n 0, 1), (21, .getfield 7, 3), (24, .iload_n 1, 1), (25, .iaload, 1), (26, .ifCond .ge 9, 3), (29, .aload_n 0, 1), (30, .iconst 1, 1), (31, .invokevirtual 72, 3), (34, .ireturn, 1), (35, .aload_n 0, 1), (36, .getfield 7, 3), (39, .iload_n 1, 1), (40, .iconst (-1), 1), (41, .iastore, 1), (42, .aload_n 0, 1), (43, .getfield 13, 3), (46, .iload_n 1, 1), (47, .iaload, 1), (48, .ireturn, 1)]
theorem jm_d97 : ∀ q ∈ jm_c97, decode cX5_drop q.1 = .ok q.2 := by decide +kernel
def jm_c98 : List (Nat × Instr × Nat) := [(0, .aload_n 0, 1), (1, .iconst 0, 1), (2, .putfield 51, 3), (5, .iload_n 1, 1), (6, .i2l, 1), (7, .lconst 0, 1), (8, .ldc2_w 76, 3), (11, .invokestatic 61, 3), (14, .ifCond .ne 6, 3), (17, .ldc 71, 2), (19, .ireturn, 1), (20, .aload_n 0, 1), (21, .getfield 78, 3), (24, .bipush 80, 2), (26, .if_icmp .ne 6, 3), (29, .ldc 81, 2), (31, .ireturn, 1), (32, .aload_n 0, 1), (33, .getfield 31, 3), (36, .aload_n 0, 1), (37, .getfield 78, 3), (40, .iload_n 1, 1), (41, .iastore, 1), (42, .aload_n 0, 1), (43, .dup, 1), (44, .getfield 78, 3), (47, .iconst 1, 1), (48, .iadd, 1), (49, .putfield 78, 3), (52, .aload_n 0, 1), (53, .getfield 78, 3), (56, .ireturn, 1)]
theorem jm_d98 : ∀ q ∈ jm_c98, decode cX5_feed q.1 = .ok q.2 := by decide +kernel
def jm_c99 : List (Nat × Instr × Nat) := [(0, .aload_n 0, 1), (1, .getfield 82, 3), (4, .ifCond .ne 16, 3), (7, .aload_n 0, 1), (8, .iload_n 1, 1), (9, .putfield 82, 3), (12, .aload_n 0, 1), (13, .aload_n 0, 1), (14, .getfield 85, 3), (17, .putfield 88, 3), (20, .return_, 1)]
theorem jm_d99 : ∀ q ∈ jm_c99, decode cX5_bad q.1 = .ok q.2 := by decide +kernel
def jm_c100 : List (Nat × Instr × Nat) := [(0, .aload_n 0, 1), (1, .aload_n 0, 1), (2, .getfield 91, 3), (5, .putfield 85, 3), (8, .aload_n 0, 1), (9, .aload_n 0, 1), (10, .getfield 91, 3), (13, .aload_n 0, 1), (14, .getfield 78, 3), (17, .if_icmp .ge 15, 3), (20, .aload_n 0, 1), (21, .getfield 31, 3), (24, .aload_n 0, 1), (25, .getfield 91, 3), (28, .iaload, 1), (29, .goto 5, 3), (32, .ldc 94, 2), (34, .putfield 95, 3), (37, .aload_n 0, 1), (38, .aload_n 0, 1), (39, .getfield 91, 3), (42, .aload_n 0, 1), (43, .getfield 78, 3), (46, .if_icmp .ne 7, 3), (49, .iconst 1, 1), (50, .goto 68, 3), (53, .aload_n 0, 1), (54, .getfield 95, 3), (57, .i2l, 1), (58, .ldc2_w 98, 3), (61, .ldc2_w 100, 3), (64, .invokestatic 61, 3), (67, .ifCond .eq 7, 3), (70, .iconst 2, 1), (71, .goto 47, 3), (74, .aload_n 0, 1), (75, .getfield 95, 3), (78, .i2l, 1), (79, .ldc2_w 102, 3), (82, .ldc2_w 104, 3), (85, .invokestatic 61, 3), (88, .ifCond .eq 7, 3), (91, .iconst 3, 1), (92, .goto 26, 3), (95, .aload_n 0, 1), (96, .getfield 95, 3), (99, .bipush 44, 2), (101, .if_icmp .eq 12, 3), (104, .aload_n 0, 1), (105, .getfield 95, 3), (108, .bipush 59, 2), (110, .if_icmp .ne 7, 3), (113, .iconst 4, 1), (114, .goto 4, 3), (117, .iconst 0, 1), (118, .putfield 106, 3), (121, .aload_n 0, 1), (122, .dup, 1), (123, .getfield 91, 3), (126, .aload_n 0, 1), (127, .getfield 91, 3), (130, .aload_n 0, 1), (131, .getfield 78, 3), (134, .if_icmp .ge 7, 3), (137, .iconst 1, 1), (138, .goto 4, 3), (141, .iconst 0, 1), (142, .iadd, 1), (143, .putfield 91, 3), (146, .aload_n 0, 1), (147, .getfield 106, 3), (150, .iconst 3, 1), (151, .if_icmp .ne 126, 3), (154, .aload_n 0, 1), (155, .dup, 1), (156, .getfield 95, 3), (159, .bipush 48, 2), (161, .isub, 1), (162, .putfield 95, 3), (165, .aload_n 0, 1), (166, .getfield 91, 3), (169, .aload_n 0, 1), (170, .getfield 78, 3), (173, .if_icmp .ge 82, 3), (176, .aload_n 0, 1), (177, .getfield 31, 3), (180, .aload_n 0, 1), (181, .getfield 91, 3), (184, .iaload, 1), (185, .i2l, 1), (186, .ldc2_w 102, 3), (189, .ldc2_w 104, 3), (192, .invokestatic 61, 3), (195, .ifCond .eq 60, 3), (198, .aload_n 0, 1), (199, .aload_n 0, 1), (200, .getfield 91, 3), (203, .aload_n 0, 1), (204, .getfield 85, 3), (207, .isub, 1), (208, .iconst 2, 1), (209, .if_icmp .ge 26, 3), (212, .bipush 10, 2), (214, .aload_n 0, 1), (215, .getfield 95, 3), (218, .imul, 1), (219, .aload_n 0, 1), (220, .getfield 31, 3), (223, .aload_n 0, 1), (224, .getfield 91, 3), (227, .iaload, 1), (228, .iadd, 1), (229, .bipush 48, 2), (231, .isub, 1), (232, .goto 7, 3), (235, .aload_n 0, 1), (236, .getfield 95, 3), (239, .putfield 95, 3), (242, .aload_n 0, 1), (243, .dup, 1), (244, .getfield 91, 3), (247, .iconst 1, 1), (248, .iadd, 1), (249, .putfield 91, 3), (252, .goto (-87), 3), (255, .aload_n 0, 1), (256, .aload_n 0, 1), (257, .getfield 91, 3), (260, .aload_n 0, 1), (261, .getfield 85, 3), (264, .isub, 1), (265, .iconst 2, 1), (266, .if_icmp .le 7, 3), (269, .iconst 0, 1), (270, .goto 4, 3), (273, .iconst 3, 1), (274, .putfield 106, 3), (277, .return_, 1)]
theorem jm_d100 : ∀ q ∈ jm_c100, decode cX5_nextToken q.1 = .ok q.2 := by decide +kernel
def jm_c101 : List (Nat × Instr × Nat) := [(0, .iload_n 1, 1), (1, .ifCond .ne 8, 3), (4, .aload_n 0, 1), (5, .iconst 1, 1), (6, .invokevirtual 109, 3), (9, .aload_n 0, 1), (10, .getfield 82, 3), (13, .ifCond .ne 7, 3), (16, .aload_n 0, 1), (17, .invokevirtual 113, 3), (20, .return_, 1)]
theorem jm_d101 : ∀ q ∈ jm_c101, decode cX5_must q.1 = .ok q.2 := by decide +kernel
def jm_c102 : List (Nat × Instr × Nat) := [(0, .aload_n 0, 1), (1, .getfield 82, 3), (4, .ifCond .ne 23, 3), (7, .aload_n 0, 1), (8, .getfield 106, 3), (11, .iconst 2, 1), (12, .if_icmp .ne 15, 3), (15, .aload_n 0, 1), (16, .getfield 95, 3), (19, .iload_n 1, 1), (20, .if_icmp .ne 7, 3), (23, .iconst 1, 1), (24, .goto 4, 3), (27, .iconst 0, 1), (28, .ireturn, 1)]
theorem jm_d102 : ∀ q ∈ jm_c102, decode cX5_isLetter q.1 = .ok q.2 := by decide +kernel
def jm_c103 : List (Nat × Instr × Nat) := [(0, .aload_n 0, 1), (1, .getfield 82, 3), (4, .ifCond .ne 16, 3), (7, .aload_n 0, 1), (8, .getfield 106, 3), (11, .iconst 3, 1), (12, .if_icmp .eq 8, 3), (15, .aload_n 0, 1), (16, .iconst 1, 1), (17, .invokevirtual 109, 3), (20, .aload_n 0, 1), (21, .getfield 82, 3), (24, .ifCond .ne 23, 3), (27, .aload_n 0, 1), (28, .getfield 95, 3), (31, .i2l, 1), (32, .iload_n 1, 1), (33, .i2l, 1), (34, .iload_n 2, 1), (35, .i2l, 1), (36, .invokestatic 61, 3), (39, .ifCond .ne 8, 3), (42, .aload_n 0, 1), (43, .iconst 2, 1), (44, .invokevirtual 109, 3), (47, .aload_n 0, 1), (48, .getfield 82, 3), (51, .ifCond .ne 10, 3), (54, .aload_n 0, 1), (55, .getfield 95, 3), (58, .goto 4, 3), (61, .iload_n 1, 1), (62, .istore_n 3, 1), (63, .aload_n 0, 1), (64, .iconst 1, 1), (65, .invokevirtual 116, 3), (68, .iload_n 3, 1), (69, .ireturn, 1)]
theorem jm_d103 : ∀ q ∈ jm_c103, decode cX5_number q.1 = .ok q.2 := by decide +kernel
def jm_c104 : List (Nat × Instr × Nat) := [(0, .aload_n 0, 1), (1, .aload_n 0, 1), (2, .getfield 106, 3), (5, .iconst 4, 1), (6, .if_icmp .ne 15, 3), (9, .aload_n 0, 1), (10, .getfield 95, 3), (13, .iload_n 1, 1), (14, .if_icmp .ne 7, 3), (17, .iconst 1, 1), (18, .goto 4, 3), (21, .iconst 0, 1), (22, .invokevirtual 116, 3), (25, .return_, 1)]
theorem jm_d104 : ∀ q ∈ jm_c104, decode cX5_mustSign q.1 = .ok q.2 := by decide +kernel
def jm_c105 : List (Nat × Instr × Nat) := [(0, .aload_n 0, 1), (1, .iconst 0, 1), (2, .putfield 91, 3), (5, .aload_n 0, 1), (6, .iconst 0, 1), (7, .putfield 82, 3), (10, .aload_n 0, 1), (11, .invokevirtual 113, 3), (14, .return_, 1)]
theorem jm_d105 : ∀ q ∈ jm_c105, decode cX5_begin q.1 = .ok q.2 := by decide +kernel
def jm_c106 : List (Nat × Instr × Nat) := [(0, .aload_n 0, 1), (1, .getfield 82, 3), (4, .ifCond .ne 16, 3), (7, .aload_n 0, 1), (8, .getfield 106, 3), (11, .iconst 1, 1), (12, .if_icmp .eq 8, 3), (15, .aload_n 0, 1), (16, .iconst 1, 1), (17, .invokevirtual 109, 3), (20, .aload_n 0, 1), (21, .iconst 0, 1), (22, .putfield 78, 3), (25, .aload_n 0, 1), (26, .aload_n 0, 1), (27, .getfield 82, 3), (30, .ifCond .le 10, 3), (33, .aload_n 0, 1), (34, .getfield 82, 3), (37, .goto 7, 3), (40, .aload_n 0, 1), (41, .getfield 120, 3), (44, .putfield 120, 3), (47, .aload_n 0, 1), (48, .getfield 82, 3), (51, .ifCond .le 7, 3), (54, .iconst 1, 1), (55, .goto 4, 3), (58, .iconst 0, 1), (59, .ireturn, 1)]
theorem jm_d106 : ∀ q ∈ jm_c106, decode cX5_failed q.1 = .ok q.2 := by decide +kernel
def jm_c107 : List (Nat × Instr × Nat) := [(0, .aload_n 0, 1), (1, .iconst 0, 1), (2, .putfield 51, 3), (5, .aload_n 0, 1), (6, .getfield 120, 3), (9, .ireturn, 1)]
theorem jm_d107 : ∀ q ∈ jm_c107, decode cX5_fault q.1 = .ok q.2 := by decide +kernel
def jm_c108 : List (Nat × Instr × Nat) := [(0, .iload_n 0, 1), (1, .bipush 112, 2), (3, .if_icmp .ne 7, 3), (6, .iconst 1, 1), (7, .goto 45, 3), (10, .iload_n 0, 1), (11, .bipush 103, 2), (13, .if_icmp .ne 7, 3), (16, .iconst 2, 1), (17, .goto 35, 3), (20, .iload_n 0, 1), (21, .bipush 119, 2), (23, .if_icmp .ne 7, 3), (26, .iconst 3, 1), (27, .goto 25, 3), (30, .iload_n 0, 1), (31, .bipush 116, 2), (33, .if_icmp .ne 7, 3), (36, .iconst 4, 1), (37, .goto 15, 3), (40, .iload_n 0, 1), (41, .bipush 115, 2), (43, .if_icmp .ne 7, 3), (46, .iconst 5, 1), (47, .goto 5, 3), (50, .ldc 94, 2), (52, .ireturn, 1)]
theorem jm_d108 : ∀ q ∈ jm_c108, decode cX5_kindBy q.1 = .ok q.2 := by decide +kernel
def jm_c109 : List (Nat × Instr × Nat) := [(0, .aload_n 0, 1), (1, .getfield 82, 3), (4, .ifCond .ne 27, 3), (7, .aload_n 0, 1), (8, .getfield 106, 3), (11, .iconst 2, 1), (12, .if_icmp .ne 19, 3), (15, .aload_n 0, 1), (16, .getfield 95, 3), (19, .invokestatic 123, 3), (22, .ldc 94, 2), (24, .if_icmp .eq 7, 3), (27, .iconst 1, 1), (28, .goto 4, 3), (31, .iconst 0, 1), (32, .ireturn, 1)]
theorem jm_d109 : ∀ q ∈ jm_c109, decode cX5_isSort q.1 = .ok q.2 := by decide +kernel
def jm_c110 : List (Nat × Instr × Nat) := [(0, .aload_n 0, 1), (1, .getfield 95, 3), (4, .invokestatic 123, 3), (7, .istore_n 1, 1), (8, .aload_n 0, 1), (9, .getfield 22, 3), (12, .iconst 0, 1), (13, .iaload, 1), (14, .bipush 6, 2), (16, .if_icmp .ne 8, 3), (19, .aload_n 0, 1), (20, .iconst 3, 1), (21, .invokevirtual 109, 3), (24, .aload_n 0, 1), (25, .iconst 1, 1), (26, .invokevirtual 116, 3), (29, .aload_n 0, 1), (30, .iconst 1, 1), (31, .iconst 5, 1), (32, .invokevirtual 126, 3), (35, .istore_n 2, 1), (36, .aload_n 0, 1), (37, .bipush 44, 2), (39, .invokevirtual 130, 3), (42, .aload_n 0, 1), (43, .iconst 0, 1), (44, .bipush 40, 2), (46, .invokevirtual 126, 3), (49, .istore_n 3, 1), (50, .aload_n 0, 1), (51, .bipush 44, 2), (53, .invokevirtual 130, 3), (56, .aload_n 0, 1), (57, .iconst 0, 1), (58, .bipush 9, 2), (60, .invokevirtual 126, 3), (63, .istore 4, 2), (65, .aload_n 0, 1), (66, .bipush 59, 2), (68, .invokevirtual 130, 3), (71, .aload_n 0, 1), (72, .getfield 82, 3), (75, .ifCond .ne 66, 3), (78, .iconst 2, 1), (79, .iconst 4, 1), (80, .aload_n 0, 1), (81, .getfield 22, 3), (84, .iconst 0, 1), (85, .iaload, 1), (86, .imul, 1), (87, .iadd, 1), (88, .istore 5, 2), (90, .aload_n 0, 1), (91, .getfield 22, 3), (94, .iload 5, 2), (96, .iconst 0, 1), (97, .iadd, 1), (98, .iload_n 1, 1), (99, .iastore, 1), (100, .aload_n 0, 1), (101, .getfield 22, 3), (104, .iload 5, 2), (106, .iconst 1, 1), (107, .iadd, 1), (108, .iload_n 2, 1), (109, .iastore, 1), (110, .aload_n 0, 1), (111, .getfield 22, 3), (114, .iload 5, 2), (116, .iconst 2, 1), (117, .iadd, 1), (118, .iload_n 3, 1), (119, .iastore, 1), (120, .aload_n 0, 1), (121, .getfield 22, 3), (124, .iload 5, 2), (126, .iconst 3, 1), (127, .iadd, 1), (128, .iload 4, 2), (130, .iastore, 1), (131, .aload_n 0, 1), (132, .getfield 22, 3), (135, .iconst 0, 1), (136, .dup2, 1), (137, .iaload, 1), (138, .iconst 1, 1), (139, .iadd, 1), (140, .iastore, 1), (141, .return_, 1)]
theorem jm_d110 : ∀ q ∈ jm_c110, decode cX5_readDisc q.1 = .ok q.2 := by decide +kernel
def jm_c111 : List (Nat × Instr × Nat) := [(0, .aload_n 0, 1), (1, .iconst 0, 1), (2, .putfield 51, 3), (5, .aload_n 0, 1), (6, .invokevirtual 133, 3), (9, .iconst 0, 1), (10, .istore_n 1, 1), (11, .iload_n 1, 1), (12, .bipush 26, 2), (14, .if_icmp .ge 16, 3), (17, .aload_n 0, 1), (18, .getfield 22, 3), (21, .iload_n 1, 1), (22, .iconst 0, 1), (23, .iastore, 1), (24, .iinc 1 1, 3), (27, .goto (-16), 3), (30, .aload_n 0, 1), (31, .aload_n 0, 1), (32, .bipush 109, 2), (34, .invokevirtual 136, 3), (37, .invokevirtual 116, 3), (40, .aload_n 0, 1), (41, .iconst 0, 1), (42, .bipush 20, 2), (44, .invokevirtual 126, 3), (47, .istore_n 1, 1), (48, .aload_n 0, 1), (49, .bipush 44, 2), (51, .invokevirtual 130, 3), (54, .aload_n 0, 1), (55, .getfield 22, 3), (58, .iconst 1, 1), (59, .bipush 10, 2), (61, .iload_n 1, 1), (62, .imul, 1), (63, .aload_n 0, 1), (64, .iconst 0, 1), (65, .iload_n 1, 1), (66, .bipush 20, 2), (68, .if_icmp .ne 7, 3), (71, .iconst 0, 1), (72, .goto 5, 3), (75, .bipush 9, 2), (77, .invokevirtual 126, 3), (80, .iadd, 1), (81, .iastore, 1), (82, .aload_n 0, 1), (83, .bipush 59, 2), (85, .invokevirtual 130, 3), (88, .iconst 0, 1), (89, .istore_n 2, 1), (90, .iload_n 2, 1), (91, .iconst 2, 1), (92, .if_icmp .ge 28, 3), (95, .aload_n 0, 1), (96, .invokevirtual 139, 3), (99, .ifCond .ne 11, 3), (102, .aload_n 0, 1), (103, .iconst 1, 1), (104, .invokevirtual 109, 3), (107, .goto 7, 3), (110, .aload_n 0, 1), (111, .invokevirtual 143, 3), (114, .iinc 2 1, 3), (117, .goto (-27), 3), (120, .aload_n 0, 1), (121, .invokevirtual 139, 3), (124, .ifCond .eq 10, 3), (127, .aload_n 0, 1), (128, .invokevirtual 143, 3), (131, .goto (-11), 3), (134, .aload_n 0, 1), (135, .invokevirtual 146, 3), (138, .ifCond .eq 11, 3), (141, .ldc 149, 2), (143, .aload_n 0, 1), (144, .getfield 88, 3), (147, .isub, 1), (148, .ireturn, 1), (149, .aload_n 0, 1), (150, .iconst 0, 1), (151, .putfield 150, 3), (154, .iconst 0, 1), (155, .istore_n 2, 1), (156, .iload_n 2, 1), (157, .bipush 26, 2), (159, .if_icmp .ge 21, 3), (162, .aload_n 0, 1), (163, .getfield 19, 3), (166, .iload_n 2, 1), (167, .aload_n 0, 1), (168, .getfield 22, 3), (171, .iload_n 2, 1), (172, .iaload, 1), (173, .iastore, 1), (174, .iinc 2 1, 3), (177, .goto (-21), 3), (180, .aload_n 0, 1), (181, .getfield 19, 3), (184, .iconst 0, 1), (185, .iaload, 1), (186, .ireturn, 1)]
theorem jm_d111 : ∀ q ∈ jm_c111, decode cX5_shaft q.1 = .ok q.2 := by decide +kernel
def jm_c112 : List (Nat × Instr × Nat) := [(0, .aload_n 0, 1), (1, .getfield 19, 3), (4, .iconst 0, 1), (5, .iaload, 1), (6, .ifCond .le 7, 3), (9, .iconst 1, 1), (10, .goto 4, 3), (13, .iconst 0, 1), (14, .ireturn, 1)]
theorem jm_d112 : ∀ q ∈ jm_c112, decode cX5_isThere q.1 = .ok q.2 := by decide +kernel
def jm_c113 : List (Nat × Instr × Nat) := [(0, .iload_n 1, 1), (1, .i2l, 1), (2, .lconst 0, 1), (3, .aload_n 0, 1), (4, .getfield 19, 3), (7, .iconst 0, 1), (8, .iaload, 1), (9, .iconst 1, 1), (10, .isub, 1), (11, .i2l, 1), (12, .invokestatic 61, 3), (15, .ireturn, 1)]
theorem jm_d113 : ∀ q ∈ jm_c113, decode cX5_isDisc q.1 = .ok q.2 := by decide +kernel
def jm_c114 : List (Nat × Instr × Nat) := [(0, .iload_n 0, 1), (1, .iload_n 1, 1), (2, .ishr, 1), (3, .iconst 1, 1), (4, .iand, 1), (5, .iconst 1, 1), (6, .if_icmp .ne 7, 3), (9, .iconst 1, 1), (10, .goto 4, 3), (13, .iconst 0, 1), (14, .ireturn, 1)]
theorem jm_d114 : ∀ q ∈ jm_c114, decode cX5_has q.1 = .ok q.2 := by decide +kernel
def jm_c115 : List (Nat × Instr × Nat) := [(0, .aload_n 0, 1), (1, .iconst 2, 1), (2, .iconst 4, 1), (3, .iload_n 1, 1), (4, .imul, 1), (5, .iadd, 1), (6, .iload_n 2, 1), (7, .iadd, 1), (8, .iaload, 1), (9, .ireturn, 1)]
theorem jm_d115 : ∀ q ∈ jm_c115, decode cX5_of q.1 = .ok q.2 := by decide +kernel
def jm_c116 : List (Nat × Instr × Nat) := [(0, .iconst 1, 1), (1, .istore_n 2, 1), (2, .iconst 0, 1), (3, .istore_n 3, 1), (4, .iload_n 3, 1), (5, .iload_n 1, 1), (6, .if_icmp .gt 27, 3), (9, .iload_n 2, 1), (10, .aload_n 0, 1), (11, .iload_n 3, 1), (12, .iconst 0, 1), (13, .invokestatic 153, 3), (16, .iconst 2, 1), (17, .if_icmp .ne 7, 3), (20, .iconst 2, 1), (21, .goto 4, 3), (24, .iconst 1, 1), (25, .imul, 1), (26, .istore_n 2, 1), (27, .iinc 3 1, 3), (30, .goto (-26), 3), (33, .iload_n 2, 1), (34, .ireturn, 1)]
theorem jm_d116 : ∀ q ∈ jm_c116, decode cX5_ratio q.1 = .ok q.2 := by decide +kernel
def jm_c117 : List (Nat × Instr × Nat) := [(0, .aload_n 0, 1), (1, .iload_n 1, 1), (2, .invokestatic 157, 3), (5, .istore_n 2, 1), (6, .aload_n 0, 1), (7, .iload_n 1, 1), (8, .iconst 1, 1), (9, .invokestatic 153, 3), (12, .aload_n 0, 1), (13, .iload_n 1, 1), (14, .iconst 0, 1), (15, .invokestatic 153, 3), (18, .iconst 3, 1), (19, .if_icmp .ne 12, 3), (22, .aload_n 0, 1), (23, .iload_n 1, 1), (24, .iconst 3, 1), (25, .invokestatic 153, 3), (28, .goto 4, 3), (31, .iconst 0, 1), (32, .iadd, 1), (33, .iload_n 2, 1), (34, .imul, 1), (35, .iload_n 2, 1), (36, .imul, 1), (37, .ireturn, 1)]
theorem jm_d117 : ∀ q ∈ jm_c117, decode cX5_weight q.1 = .ok q.2 := by decide +kernel
def jm_c118 : List (Nat × Instr × Nat) := [(0, .iload_n 1, 1), (1, .ifCond .lt 12, 3), (4, .iload_n 1, 1), (5, .iconst 1, 1), (6, .iadd, 1), (7, .aload_n 0, 1), (8, .iconst 0, 1), (9, .iaload, 1), (10, .if_icmp .lt 5, 3), (13, .iconst 0, 1), (14, .ireturn, 1), (15, .aload_n 0, 1), (16, .iload_n 1, 1), (17, .invokestatic 157, 3), (20, .istore_n 2, 1), (21, .aload_n 0, 1), (22, .iload_n 1, 1), (23, .iconst 0, 1), (24, .invokestatic 153, 3), (27, .iconst 5, 1), (28, .if_icmp .ne 14, 3), (31, .aload_n 0, 1), (32, .iload_n 1, 1), (33, .iconst 2, 1), (34, .invokestatic 153, 3), (37, .iconst 2, 1), (38, .idiv, 1), (39, .goto 9, 3), (42, .aload_n 0, 1), (43, .iload_n 1, 1), (44, .iconst 2, 1), (45, .invokestatic 153, 3), (48, .iload_n 2, 1), (49, .imul, 1), (50, .iload_n 2, 1), (51, .imul, 1), (52, .ireturn, 1)]
theorem jm_d118 : ∀ q ∈ jm_c118, decode cX5_spring q.1 = .ok q.2 := by decide +kernel
def jm_c119 : List (Nat × Instr × Nat) := [(0, .aload_n 0, 1), (1, .iload_n 1, 1), (2, .invokestatic 157, 3), (5, .istore_n 2, 1), (6, .aload_n 0, 1), (7, .iload_n 1, 1), (8, .iconst 0, 1), (9, .invokestatic 153, 3), (12, .iconst 4, 1), (13, .if_icmp .lt 16, 3), (16, .aload_n 0, 1), (17, .iload_n 1, 1), (18, .iconst 3, 1), (19, .invokestatic 153, 3), (22, .iload_n 2, 1), (23, .imul, 1), (24, .iload_n 2, 1), (25, .imul, 1), (26, .goto 4, 3), (29, .iconst 0, 1), (30, .ireturn, 1)]
theorem jm_d119 : ∀ q ∈ jm_c119, decode cX5_tie q.1 = .ok q.2 := by decide +kernel
def jm_c120 : List (Nat × Instr × Nat) := [(0, .lload_n 1, 1), (1, .lload_n 3, 1), (2, .lmul, 1), (3, .lstore 5, 2), (5, .lload_n 1, 1), (6, .lconst 0, 1), (7, .lcmp, 1), (8, .ifCond .eq 33, 3), (11, .lload 5, 2), (13, .lload_n 1, 1), (14, .ldiv, 1), (15, .lload_n 3, 1), (16, .lcmp, 1), (17, .ifCond .ne 19, 3), (20, .lload_n 1, 1), (21, .ldc2_w 161, 3), (24, .lcmp, 1), (25, .ifCond .ne 16, 3), (28, .lload_n 3, 1), (29, .ldc2_w 163, 3), (32, .lcmp, 1), (33, .ifCond .ne 8, 3), (36, .aload_n 0, 1), (37, .iconst 1, 1), (38, .putfield 165, 3), (41, .lload 5, 2), (43, .lreturn, 1)]
theorem jm_d120 : ∀ q ∈ jm_c120, decode cX5_product q.1 = .ok q.2 := by decide +kernel
def jm_c121 : List (Nat × Instr × Nat) := [(0, .lload_n 1, 1), (1, .lload_n 3, 1), (2, .lsub, 1), (3, .lstore 5, 2), (5, .lload_n 1, 1), (6, .lload_n 3, 1), (7, .lxor, 1), (8, .lload_n 1, 1), (9, .lload 5, 2), (11, .lxor, 1), (12, .land, 1), (13, .lconst 0, 1), (14, .lcmp, 1), (15, .ifCond .ge 8, 3), (18, .aload_n 0, 1), (19, .iconst 1, 1), (20, .putfield 165, 3), (23, .lload 5, 2), (25, .lreturn, 1)]
theorem jm_d121 : ∀ q ∈ jm_c121, decode cX5_difference q.1 = .ok q.2 := by decide +kernel
def jm_c122 : List (Nat × Instr × Nat) := [(0, .aload_n 0, 1), (1, .iconst 0, 1), (2, .putfield 165, 3), (5, .aload_n 0, 1), (6, .getfield 34, 3), (9, .iconst 0, 1), (10, .lconst 1, 1), (11, .lastore, 1), (12, .iconst 1, 1), (13, .istore 4, 2), (15, .iload 4, 2), (17, .iload_n 2, 1), (18, .if_icmp .gt 136, 3), (21, .aload_n 0, 1), (22, .getfield 165, 3), (25, .ifCond .ne 129, 3), (28, .aload_n 1, 1), (29, .iload 4, 2), (31, .iconst 1, 1), (32, .isub, 1), (33, .invokestatic 169, 3), (36, .i2l, 1), (37, .aload_n 1, 1), (38, .iload 4, 2), (40, .iconst 2, 1), (41, .isub, 1), (42, .invokestatic 169, 3), (45, .i2l, 1), (46, .ladd, 1), (47, .aload_n 1, 1), (48, .iload 4, 2), (50, .iconst 1, 1), (51, .isub, 1), (52, .invokestatic 172, 3), (55, .i2l, 1), (56, .ladd, 1), (57, .iload_n 3, 1), (58, .i2l, 1), (59, .aload_n 1, 1), (60, .iload 4, 2), (62, .iconst 1, 1), (63, .isub, 1), (64, .invokestatic 175, 3), (67, .i2l, 1), (68, .lmul, 1), (69, .lsub, 1), (70, .lstore 5, 2), (72, .aload_n 0, 1), (73, .lload 5, 2), (75, .aload_n 0, 1), (76, .getfield 34, 3), (79, .iload 4, 2), (81, .iconst 1, 1), (82, .isub, 1), (83, .laload, 1), (84, .invokevirtual 178, 3), (87, .lstore 7, 2), (89, .iload 4, 2), (91, .iconst 1, 1), (92, .if_icmp .le 47, 3), (95, .aload_n 1, 1), (96, .iload 4, 2), (98, .iconst 2, 1), (99, .isub, 1), (100, .invokestatic 169, 3), (103, .i2l, 1), (104, .lstore 9, 2), (106, .aload_n 0, 1), (107, .lload 9, 2), (109, .lload 9, 2), (111, .invokevirtual 178, 3), (114, .lstore 11, 2), (116, .aload_n 0, 1), (117, .lload 7, 2), (119, .aload_n 0, 1), (120, .lload 11, 2), (122, .aload_n 0, 1), (123, .getfield 34, 3), (126, .iload 4, 2), (128, .iconst 2, 1), (129, .isub, 1), (130, .laload, 1), (131, .invokevirtual 178, 3), (134, .invokevirtual 182, 3), (137, .lstore 7, 2), (139, .aload_n 0, 1), (140, .getfield 34, 3), (143, .iload 4, 2), (145, .lload 7, 2), (147, .lastore, 1), (148, .iinc 4 1, 3), (151, .goto (-136), 3), (154, .return_, 1)]
theorem jm_d122 : ∀ q ∈ jm_c122, decode cX5_reckon q.1 = .ok q.2 := by decide +kernel
def jm_c123 : List (Nat × Instr × Nat) := [(0, .aload_n 0, 1), (1, .aload_n 1, 1), (2, .aload_n 1, 1), (3, .iconst 0, 1), (4, .iaload, 1), (5, .iload_n 2, 1), (6, .invokevirtual 185, 3), (9, .iconst 0, 1), (10, .istore_n 3, 1), (11, .iconst 0, 1), (12, .istore 4, 2), (14, .iconst 1, 1), (15, .istore 5, 2), (17, .iload 5, 2), (19, .aload_n 1, 1), (20, .iconst 0, 1), (21, .iaload, 1), (22, .if_icmp .gt 71, 3), (25, .aload_n 0, 1), (26, .getfield 165, 3), (29, .ifCond .ne 64, 3), (32, .aload_n 0, 1), (33, .getfield 34, 3), (36, .iload 5, 2), (38, .laload, 1), (39, .lconst 0, 1), (40, .lcmp, 1), (41, .ifCond .ne 8, 3), (44, .iload 4, 2), (46, .goto 20, 3), (49, .aload_n 0, 1), (50, .getfield 34, 3), (53, .iload 5, 2), (55, .laload, 1), (56, .lconst 0, 1), (57, .lcmp, 1), (58, .ifCond .ge 7, 3), (61, .iconst 1, 1), (62, .goto 4, 3), (65, .iconst 0, 1), (66, .istore 6, 2), (68, .iload_n 3, 1), (69, .iload 6, 2), (71, .iload 4, 2), (73, .if_icmp .eq 7, 3), (76, .iconst 1, 1), (77, .goto 4, 3), (80, .iconst 0, 1), (81, .iadd, 1), (82, .istore_n 3, 1), (83, .iload 6, 2), (85, .istore 4, 2), (87, .iinc 5 1, 3), (90, .goto (-73), 3), (93, .iload_n 3, 1), (94, .ireturn, 1)]
theorem jm_d123 : ∀ q ∈ jm_c123, decode cX5_belowOf q.1 = .ok q.2 := by decide +kernel
def jm_c124 : List (Nat × Instr × Nat) := [(0, .aload_n 0, 1), (1, .aload_n 1, 1), (2, .sipush 200, 3), (5, .invokevirtual 189, 3), (8, .istore_n 3, 1), (9, .aload_n 0, 1), (10, .getfield 165, 3), (13, .ifCond .ne 8, 3), (16, .iload_n 3, 1), (17, .iload_n 2, 1), (18, .if_icmp .gt 6, 3), (21, .ldc 94, 2), (23, .ireturn, 1), (24, .iconst 0, 1), (25, .istore 4, 2), (27, .sipush 200, 3), (30, .istore 5, 2), (32, .iload 5, 2), (34, .iload 4, 2), (36, .isub, 1), (37, .iconst 1, 1), (38, .if_icmp .le 51, 3), (41, .iload 4, 2), (43, .iload 5, 2), (45, .iadd, 1), (46, .iconst 2, 1), (47, .idiv, 1), (48, .istore 6, 2), (50, .aload_n 0, 1), (51, .aload_n 1, 1), (52, .iload 6, 2), (54, .invokevirtual 189, 3), (57, .istore 7, 2), (59, .aload_n 0, 1), (60, .getfield 165, 3), (63, .ifCond .eq 6, 3), (66, .ldc 94, 2), (68, .ireturn, 1), (69, .iload 7, 2), (71, .iload_n 2, 1), (72, .if_icmp .gt 10, 3), (75, .iload 6, 2), (77, .istore 4, 2), (79, .goto 7, 3), (82, .iload 6, 2), (84, .istore 5, 2), (86, .goto (-54), 3), (89, .iload 4, 2), (91, .ireturn, 1)]
theorem jm_d124 : ∀ q ∈ jm_c124, decode cX5_boxOf q.1 = .ok q.2 := by decide +kernel
def jm_c125 : List (Nat × Instr × Nat) := [(0, .aload_n 0, 1), (1, .iconst 0, 1), (2, .putfield 165, 3), (5, .iconst 0, 1), (6, .istore_n 3, 1), (7, .iload_n 3, 1), (8, .iload_n 2, 1), (9, .if_icmp .ge 28, 3), (12, .aload_n 0, 1), (13, .getfield 165, 3), (16, .ifCond .ne 21, 3), (19, .aload_n 0, 1), (20, .getfield 38, 3), (23, .iload_n 3, 1), (24, .aload_n 0, 1), (25, .aload_n 1, 1), (26, .iload_n 3, 1), (27, .invokevirtual 192, 3), (30, .iastore, 1), (31, .iinc 3 1, 3), (34, .goto (-27), 3), (37, .return_, 1)]
theorem jm_d125 : ∀ q ∈ jm_c125, decode cX5_layBoxes q.1 = .ok q.2 := by decide +kernel
def jm_c126 : List (Nat × Instr × Nat) := [(0, .iconst 0, 1), (1, .istore_n 1, 1), (2, .iload_n 1, 1), (3, .bipush 26, 2), (5, .if_icmp .ge 21, 3), (8, .aload_n 0, 1), (9, .getfield 25, 3), (12, .iload_n 1, 1), (13, .aload_n 0, 1), (14, .getfield 19, 3), (17, .iload_n 1, 1), (18, .iaload, 1), (19, .iastore, 1), (20, .iinc 1 1, 3), (23, .goto (-21), 3), (26, .return_, 1)]
theorem jm_d126 : ∀ q ∈ jm_c126, decode cX5_layThen q.1 = .ok q.2 := by decide +kernel
def jm_c127 : List (Nat × Instr × Nat) := [(0, .aload_n 0, 1), (1, .getfield 150, 3), (4, .bipush 24, 2), (6, .if_icmp .ne 43, 3), (9, .iconst 0, 1), (10, .istore_n 1, 1), (11, .iload_n 1, 1), (12, .sipush 598, 3), (15, .if_icmp .ge 24, 3), (18, .aload_n 0, 1), (19, .getfield 28, 3), (22, .iload_n 1, 1), (23, .aload_n 0, 1), (24, .getfield 28, 3), (27, .iload_n 1, 1), (28, .bipush 26, 2), (30, .iadd, 1), (31, .iaload, 1), (32, .iastore, 1), (33, .iinc 1 1, 3), (36, .goto (-25), 3), (39, .aload_n 0, 1), (40, .dup, 1), (41, .getfield 150, 3), (44, .iconst 1, 1), (45, .isub, 1), (46, .putfield 150, 3), (49, .iconst 0, 1), (50, .istore_n 1, 1), (51, .iload_n 1, 1), (52, .bipush 26, 2), (54, .if_icmp .ge 29, 3), (57, .aload_n 0, 1), (58, .getfield 28, 3), (61, .bipush 26, 2), (63, .aload_n 0, 1), (64, .getfield 150, 3), (67, .imul, 1), (68, .iload_n 1, 1), (69, .iadd, 1), (70, .aload_n 0, 1), (71, .getfield 19, 3), (74, .iload_n 1, 1), (75, .iaload, 1), (76, .iastore, 1), (77, .iinc 1 1, 3), (80, .goto (-29), 3), (83, .aload_n 0, 1), (84, .dup, 1), (85, .getfield 150, 3), (88, .iconst 1, 1), (89, .iadd, 1), (90, .putfield 150, 3), (93, .return_, 1)]
theorem jm_d127 : ∀ q ∈ jm_c127, decode cX5_keep q.1 = .ok q.2 := by decide +kernel
def jm_c128 : List (Nat × Instr × Nat) := [(0, .aload_n 0, 1), (1, .iconst 0, 1), (2, .putfield 51, 3), (5, .iload_n 2, 1), (6, .ifCond .ne 15, 3), (9, .iload_n 3, 1), (10, .i2l, 1), (11, .lconst 1, 1), (12, .ldc2_w 195, 3), (15, .invokestatic 61, 3), (18, .ifCond .ne 37, 3), (21, .iload_n 2, 1), (22, .iconst 1, 1), (23, .if_icmp .ne 15, 3), (26, .iload_n 3, 1), (27, .i2l, 1), (28, .lconst 0, 1), (29, .ldc2_w 197, 3), (32, .invokestatic 61, 3), (35, .ifCond .ne 20, 3), (38, .iload_n 2, 1), (39, .iconst 2, 1), (40, .if_icmp .ne 19, 3), (43, .iload_n 3, 1), (44, .i2l, 1), (45, .lconst 0, 1), (46, .ldc2_w 199, 3), (49, .invokestatic 61, 3), (52, .ifCond .eq 7, 3), (55, .iconst 1, 1), (56, .goto 4, 3), (59, .iconst 0, 1), (60, .istore 4, 2), (62, .aload_n 0, 1), (63, .iload_n 1, 1), (64, .invokevirtual 201, 3), (67, .ifCond .eq 8, 3), (70, .iload 4, 2), (72, .ifCond .ne 6, 3), (75, .ldc 71, 2), (77, .ireturn, 1), (78, .aload_n 0, 1), (79, .invokevirtual 204, 3), (82, .aload_n 0, 1), (83, .getfield 19, 3), (86, .iload_n 1, 1), (87, .iconst 1, 1), (88, .iload_n 2, 1), (89, .iadd, 1), (90, .invokestatic 153, 3), (93, .istore 5, 2), (95, .aload_n 0, 1), (96, .getfield 19, 3), (99, .iconst 2, 1), (100, .iconst 4, 1), (101, .iload_n 1, 1), (102, .imul, 1), (103, .iadd, 1), (104, .iconst 1, 1), (105, .iadd, 1), (106, .iload_n 2, 1), (107, .iadd, 1), (108, .iload_n 3, 1), (109, .iastore, 1), (110, .iload 5, 2), (112, .ireturn, 1)]
theorem jm_d128 : ∀ q ∈ jm_c128, decode cX5_change q.1 = .ok q.2 := by decide +kernel
end
section
def jm_c129 : List (Nat × Instr × Nat) := [(0, .aload_n 0, 1), (1, .iconst 0, 1), (2, .putfield 51, 3), (5, .aload_n 0, 1), (6, .iload_n 1, 1), (7, .invokevirtual 201, 3), (10, .ifCond .eq 15, 3), (13, .iload_n 2, 1), (14, .i2l, 1), (15, .lconst 1, 1), (16, .ldc2_w 195, 3), (19, .invokestatic 61, 3), (22, .ifCond .ne 6, 3), (25, .ldc 71, 2), (27, .ireturn, 1), (28, .aload_n 0, 1), (29, .getfield 19, 3), (32, .iload_n 1, 1), (33, .iconst 0, 1), (34, .invokestatic 153, 3), (37, .istore_n 3, 1), (38, .iload_n 3, 1), (39, .iload_n 2, 1), (40, .if_icmp .ne 6, 3), (43, .ldc 207, 2), (45, .ireturn, 1), (46, .aload_n 0, 1), (47, .invokevirtual 204, 3), (50, .aload_n 0, 1), (51, .getfield 19, 3), (54, .iconst 2, 1), (55, .iconst 4, 1), (56, .iload_n 1, 1), (57, .imul, 1), (58, .iadd, 1), (59, .iload_n 2, 1), (60, .iastore, 1), (61, .iload_n 3, 1), (62, .ireturn, 1)]
theorem jm_d129 : ∀ q ∈ jm_c129, decode cX5_become q.1 = .ok q.2 := by decide +kernel
def jm_c130 : List (Nat × Instr × Nat) := [(0, .aload_n 0, 1), (1, .iconst 0, 1), (2, .putfield 51, 3), (5, .aload_n 0, 1), (6, .invokevirtual 208, 3), (9, .ifCond .ne 6, 3), (12, .ldc 207, 2), (14, .ireturn, 1), (15, .iload_n 1, 1), (16, .i2l, 1), (17, .lconst 0, 1), (18, .ldc2_w 211, 3), (21, .invokestatic 61, 3), (24, .ifCond .ne 6, 3), (27, .ldc 71, 2), (29, .ireturn, 1), (30, .aload_n 0, 1), (31, .invokevirtual 204, 3), (34, .aload_n 0, 1), (35, .getfield 19, 3), (38, .iconst 1, 1), (39, .iaload, 1), (40, .istore_n 2, 1), (41, .aload_n 0, 1), (42, .getfield 19, 3), (45, .iconst 1, 1), (46, .iload_n 1, 1), (47, .iastore, 1), (48, .iload_n 2, 1), (49, .ireturn, 1)]
theorem jm_d130 : ∀ q ∈ jm_c130, decode cX5_mark q.1 = .ok q.2 := by decide +kernel
def jm_c131 : List (Nat × Instr × Nat) := [(0, .aload_n 0, 1), (1, .iconst 0, 1), (2, .putfield 51, 3), (5, .aload_n 0, 1), (6, .iload_n 1, 1), (7, .invokevirtual 201, 3), (10, .ifCond .eq 11, 3), (13, .aload_n 0, 1), (14, .iload_n 2, 1), (15, .invokevirtual 201, 3), (18, .ifCond .ne 6, 3), (21, .ldc 71, 2), (23, .ireturn, 1), (24, .iload_n 1, 1), (25, .iload_n 2, 1), (26, .if_icmp .ne 6, 3), (29, .ldc 207, 2), (31, .ireturn, 1), (32, .aload_n 0, 1), (33, .invokevirtual 204, 3), (36, .iconst 0, 1), (37, .istore_n 3, 1), (38, .iload_n 3, 1), (39, .iconst 4, 1), (40, .if_icmp .ge 55, 3), (43, .aload_n 0, 1), (44, .getfield 19, 3), (47, .iload_n 1, 1), (48, .iload_n 3, 1), (49, .invokestatic 153, 3), (52, .istore 4, 2), (54, .aload_n 0, 1), (55, .getfield 19, 3), (58, .iconst 2, 1), (59, .iconst 4, 1), (60, .iload_n 1, 1), (61, .imul, 1), (62, .iadd, 1), (63, .iload_n 3, 1), (64, .iadd, 1), (65, .aload_n 0, 1), (66, .getfield 19, 3), (69, .iload_n 2, 1), (70, .iload_n 3, 1), (71, .invokestatic 153, 3), (74, .iastore, 1), (75, .aload_n 0, 1), (76, .getfield 19, 3), (79, .iconst 2, 1), (80, .iconst 4, 1), (81, .iload_n 2, 1), (82, .imul, 1), (83, .iadd, 1), (84, .iload_n 3, 1), (85, .iadd, 1), (86, .iload 4, 2), (88, .iastore, 1), (89, .iinc 3 1, 3), (92, .goto (-54), 3), (95, .iload_n 1, 1), (96, .iload_n 2, 1), (97, .if_icmp .ge 9, 3), (100, .iload_n 2, 1), (101, .iload_n 1, 1), (102, .isub, 1), (103, .goto 6, 3), (106, .iload_n 1, 1), (107, .iload_n 2, 1), (108, .isub, 1), (109, .iconst 1, 1), (110, .iadd, 1), (111, .ireturn, 1)]
theorem jm_d131 : ∀ q ∈ jm_c131, decode cX5_swap q.1 = .ok q.2 := by decide +kernel
def jm_c132 : List (Nat × Instr × Nat) := [(0, .aload_n 0, 1), (1, .iconst 0, 1), (2, .putfield 51, 3), (5, .aload_n 0, 1), (6, .getfield 150, 3), (9, .ifCond .ne 6, 3), (12, .ldc 207, 2), (14, .ireturn, 1), (15, .aload_n 0, 1), (16, .dup, 1), (17, .getfield 150, 3), (20, .iconst 1, 1), (21, .isub, 1), (22, .putfield 150, 3), (25, .iconst 0, 1), (26, .istore_n 1, 1), (27, .iload_n 1, 1), (28, .bipush 26, 2), (30, .if_icmp .ge 29, 3), (33, .aload_n 0, 1), (34, .getfield 19, 3), (37, .iload_n 1, 1), (38, .aload_n 0, 1), (39, .getfield 28, 3), (42, .bipush 26, 2), (44, .aload_n 0, 1), (45, .getfield 150, 3), (48, .imul, 1), (49, .iload_n 1, 1), (50, .iadd, 1), (51, .iaload, 1), (52, .iastore, 1), (53, .iinc 1 1, 3), (56, .goto (-29), 3), (59, .aload_n 0, 1), (60, .getfield 150, 3), (63, .ireturn, 1)]
theorem jm_d132 : ∀ q ∈ jm_c132, decode cX5_undo q.1 = .ok q.2 := by decide +kernel
def jm_c133 : List (Nat × Instr × Nat) := [(0, .aload_n 0, 1), (1, .iconst 0, 1), (2, .putfield 51, 3), (5, .aload_n 0, 1), (6, .iload_n 1, 1), (7, .invokevirtual 201, 3), (10, .ifCond .ne 6, 3), (13, .ldc 71, 2), (15, .ireturn, 1), (16, .iload_n 2, 1), (17, .tableswitch 91 0 6 #[43, 43, 43, 55, 64, 73, 82], 43), (60, .aload_n 0, 1), (61, .getfield 19, 3), (64, .iload_n 1, 1), (65, .iconst 1, 1), (66, .iload_n 2, 1), (67, .iadd, 1), (68, .invokestatic 153, 3), (71, .ireturn, 1), (72, .aload_n 0, 1), (73, .getfield 19, 3), (76, .iload_n 1, 1), (77, .invokestatic 157, 3), (80, .ireturn, 1), (81, .aload_n 0, 1), (82, .getfield 19, 3), (85, .iload_n 1, 1), (86, .invokestatic 175, 3), (89, .ireturn, 1), (90, .aload_n 0, 1), (91, .getfield 19, 3), (94, .iload_n 1, 1), (95, .invokestatic 169, 3), (98, .ireturn, 1), (99, .aload_n 0, 1), (100, .getfield 19, 3), (103, .iload_n 1, 1), (104, .invokestatic 172, 3), (107, .ireturn, 1), (108, .ldc 71, 2), (110, .ireturn, 1)]
theorem jm_d133 : ∀ q ∈ jm_c133, decode cX5_disc q.1 = .ok q.2 := by decide +kernel
def jm_c134 : List (Nat × Instr × Nat) := [(0, .aload_n 0, 1), (1, .iconst 0, 1), (2, .putfield 55, 3), (5, .aload_n 0, 1), (6, .getfield 165, 3), (9, .ifCond .eq 12, 3), (12, .aload_n 0, 1), (13, .bipush 6, 2), (15, .invokevirtual 72, 3), (18, .goto 4, 3), (21, .iload_n 1, 1), (22, .ireturn, 1)]
theorem jm_d134 : ∀ q ∈ jm_c134, decode cX5_unless q.1 = .ok q.2 := by decide +kernel
def jm_c135 : List (Nat × Instr × Nat) := [(0, .aload_n 0, 1), (1, .iconst 0, 1), (2, .putfield 51, 3), (5, .aload_n 0, 1), (6, .invokevirtual 208, 3), (9, .ifCond .ne 7, 3), (12, .ldc2_w 213, 3), (15, .lreturn, 1), (16, .iload_n 1, 1), (17, .i2l, 1), (18, .lconst 0, 1), (19, .aload_n 0, 1), (20, .getfield 19, 3), (23, .iconst 0, 1), (24, .iaload, 1), (25, .i2l, 1), (26, .invokestatic 61, 3), (29, .ifCond .eq 15, 3), (32, .iload_n 2, 1), (33, .i2l, 1), (34, .lconst 0, 1), (35, .ldc2_w 211, 3), (38, .invokestatic 61, 3), (41, .ifCond .ne 7, 3), (44, .ldc2_w 215, 3), (47, .lreturn, 1), (48, .aload_n 0, 1), (49, .aload_n 0, 1), (50, .getfield 19, 3), (53, .iload_n 1, 1), (54, .iload_n 2, 1), (55, .invokevirtual 185, 3), (58, .aload_n 0, 1), (59, .iconst 0, 1), (60, .putfield 55, 3), (63, .aload_n 0, 1), (64, .getfield 165, 3), (67, .ifCond .eq 13, 3), (70, .aload_n 0, 1), (71, .bipush 6, 2), (73, .invokevirtual 72, 3), (76, .i2l, 1), (77, .goto 9, 3), (80, .aload_n 0, 1), (81, .getfield 34, 3), (84, .iload_n 1, 1), (85, .laload, 1), (86, .lreturn, 1)]
theorem jm_d135 : ∀ q ∈ jm_c135, decode cX5_determinant q.1 = .ok q.2 := by decide +kernel
def jm_c136 : List (Nat × Instr × Nat) := [(0, .aload_n 0, 1), (1, .iconst 0, 1), (2, .putfield 51, 3), (5, .aload_n 0, 1), (6, .invokevirtual 208, 3), (9, .ifCond .ne 6, 3), (12, .ldc 207, 2), (14, .ireturn, 1), (15, .iload_n 1, 1), (16, .i2l, 1), (17, .lconst 0, 1), (18, .ldc2_w 211, 3), (21, .invokestatic 61, 3), (24, .ifCond .ne 6, 3), (27, .ldc 71, 2), (29, .ireturn, 1), (30, .aload_n 0, 1), (31, .aload_n 0, 1), (32, .aload_n 0, 1), (33, .getfield 19, 3), (36, .iload_n 1, 1), (37, .invokevirtual 189, 3), (40, .invokevirtual 217, 3), (43, .ireturn, 1)]
theorem jm_d136 : ∀ q ∈ jm_c136, decode cX5_below q.1 = .ok q.2 := by decide +kernel
def jm_c137 : List (Nat × Instr × Nat) := [(0, .aload_n 0, 1), (1, .iconst 0, 1), (2, .putfield 51, 3), (5, .aload_n 0, 1), (6, .iload_n 1, 1), (7, .invokevirtual 201, 3), (10, .ifCond .ne 6, 3), (13, .ldc 71, 2), (15, .ireturn, 1), (16, .aload_n 0, 1), (17, .aload_n 0, 1), (18, .aload_n 0, 1), (19, .getfield 19, 3), (22, .iload_n 1, 1), (23, .invokevirtual 192, 3), (26, .invokevirtual 217, 3), (29, .ireturn, 1)]
theorem jm_d137 : ∀ q ∈ jm_c137, decode cX5_box q.1 = .ok q.2 := by decide +kernel
def jm_c138 : List (Nat × Instr × Nat) := [(0, .aload_n 0, 1), (1, .iconst 0, 1), (2, .putfield 51, 3), (5, .aload_n 0, 1), (6, .invokevirtual 208, 3), (9, .ifCond .ne 6, 3), (12, .ldc 207, 2), (14, .ireturn, 1), (15, .iload_n 1, 1), (16, .i2l, 1), (17, .lconst 0, 1), (18, .lconst 1, 1), (19, .invokestatic 61, 3), (22, .ifCond .ne 6, 3), (25, .ldc 71, 2), (27, .ireturn, 1), (28, .aload_n 0, 1), (29, .aload_n 0, 1), (30, .getfield 19, 3), (33, .aload_n 0, 1), (34, .getfield 19, 3), (37, .iconst 0, 1), (38, .iaload, 1), (39, .invokevirtual 220, 3), (42, .ldc 94, 2), (44, .istore_n 2, 1), (45, .ldc 94, 2), (47, .istore_n 3, 1), (48, .iconst 1, 1), (49, .istore 4, 2), (51, .iload 4, 2), (53, .aload_n 0, 1), (54, .getfield 19, 3), (57, .iconst 0, 1), (58, .iaload, 1), (59, .if_icmp .ge 90, 3), (62, .aload_n 0, 1), (63, .getfield 165, 3), (66, .ifCond .ne 83, 3), (69, .aload_n 0, 1), (70, .getfield 38, 3), (73, .iload 4, 2), (75, .iaload, 1), (76, .ldc 94, 2), (78, .if_icmp .eq 65, 3), (81, .aload_n 0, 1), (82, .getfield 38, 3), (85, .iload 4, 2), (87, .iconst 1, 1), (88, .isub, 1), (89, .iaload, 1), (90, .ldc 94, 2), (92, .if_icmp .eq 51, 3), (95, .iload_n 2, 1), (96, .ldc 94, 2), (98, .if_icmp .eq 24, 3), (101, .aload_n 0, 1), (102, .getfield 38, 3), (105, .iload 4, 2), (107, .iaload, 1), (108, .aload_n 0, 1), (109, .getfield 38, 3), (112, .iload 4, 2), (114, .iconst 1, 1), (115, .isub, 1), (116, .iaload, 1), (117, .isub, 1), (118, .iload_n 3, 1), (119, .if_icmp .le 24, 3), (122, .iload 4, 2), (124, .istore_n 2, 1), (125, .aload_n 0, 1), (126, .getfield 38, 3), (129, .iload 4, 2), (131, .iaload, 1), (132, .aload_n 0, 1), (133, .getfield 38, 3), (136, .iload 4, 2), (138, .iconst 1, 1), (139, .isub, 1), (140, .iaload, 1), (141, .isub, 1), (142, .istore_n 3, 1), (143, .iinc 4 1, 3), (146, .goto (-95), 3), (149, .aload_n 0, 1), (150, .iload_n 1, 1), (151, .ifCond .ne 7, 3), (154, .iload_n 2, 1), (155, .goto 4, 3), (158, .iload_n 3, 1), (159, .invokevirtual 217, 3), (162, .ireturn, 1)]
theorem jm_d138 : ∀ q ∈ jm_c138, decode cX5_widest q.1 = .ok q.2 := by decide +kernel
def jm_c139 : List (Nat × Instr × Nat) := [(0, .iconst 1, 1), (1, .istore_n 3, 1), (2, .iconst 0, 1), (3, .istore 4, 2), (5, .iload 4, 2), (7, .aload_n 0, 1), (8, .getfield 19, 3), (11, .iconst 0, 1), (12, .iaload, 1), (13, .if_icmp .ge 57, 3), (16, .iload_n 3, 1), (17, .ifCond .eq 45, 3), (20, .aload_n 0, 1), (21, .getfield 38, 3), (24, .iload 4, 2), (26, .iaload, 1), (27, .ldc 94, 2), (29, .if_icmp .eq 29, 3), (32, .iload_n 1, 1), (33, .aload_n 0, 1), (34, .getfield 38, 3), (37, .iload 4, 2), (39, .iaload, 1), (40, .isub, 1), (41, .iload_n 2, 1), (42, .if_icmp .gt 16, 3), (45, .aload_n 0, 1), (46, .getfield 38, 3), (49, .iload 4, 2), (51, .iaload, 1), (52, .iload_n 1, 1), (53, .isub, 1), (54, .iload_n 2, 1), (55, .if_icmp .le 7, 3), (58, .iconst 1, 1), (59, .goto 4, 3), (62, .iconst 0, 1), (63, .istore_n 3, 1), (64, .iinc 4 1, 3), (67, .goto (-62), 3), (70, .iload_n 3, 1), (71, .ireturn, 1)]
theorem jm_d139 : ∀ q ∈ jm_c139, decode cX5_isClear q.1 = .ok q.2 := by decide +kernel
def jm_c140 : List (Nat × Instr × Nat) := [(0, .aload_n 0, 1), (1, .iconst 0, 1), (2, .putfield 51, 3), (5, .aload_n 0, 1), (6, .invokevirtual 208, 3), (9, .ifCond .ne 6, 3), (12, .ldc 207, 2), (14, .ireturn, 1), (15, .iload_n 1, 1), (16, .i2l, 1), (17, .lconst 0, 1), (18, .ldc2_w 211, 3), (21, .invokestatic 61, 3), (24, .ifCond .eq 15, 3), (27, .iload_n 2, 1), (28, .i2l, 1), (29, .lconst 0, 1), (30, .ldc2_w 199, 3), (33, .invokestatic 61, 3), (36, .ifCond .ne 6, 3), (39, .ldc 71, 2), (41, .ireturn, 1), (42, .aload_n 0, 1), (43, .aload_n 0, 1), (44, .getfield 19, 3), (47, .aload_n 0, 1), (48, .getfield 19, 3), (51, .iconst 0, 1), (52, .iaload, 1), (53, .invokevirtual 220, 3), (56, .ldc 94, 2), (58, .istore_n 3, 1), (59, .sipush 200, 3), (62, .istore 4, 2), (64, .iload 4, 2), (66, .iload_n 1, 1), (67, .if_icmp .lt 33, 3), (70, .aload_n 0, 1), (71, .getfield 165, 3), (74, .ifCond .ne 26, 3), (77, .aload_n 0, 1), (78, .iload 4, 2), (80, .iload_n 2, 1), (81, .invokevirtual 224, 3), (84, .ifCond .eq 8, 3), (87, .iload 4, 2), (89, .goto 4, 3), (92, .iload_n 3, 1), (93, .istore_n 3, 1), (94, .iinc 4 (-1), 3), (97, .goto (-33), 3), (100, .aload_n 0, 1), (101, .iload_n 3, 1), (102, .invokevirtual 217, 3), (105, .ireturn, 1)]
theorem jm_d140 : ∀ q ∈ jm_c140, decode cX5_clear q.1 = .ok q.2 := by decide +kernel
def jm_c141 : List (Nat × Instr × Nat) := [(0, .aload_n 0, 1), (1, .iconst 0, 1), (2, .putfield 51, 3), (5, .iload_n 1, 1), (6, .i2l, 1), (7, .lconst 0, 1), (8, .aload_n 0, 1), (9, .getfield 19, 3), (12, .iconst 0, 1), (13, .iaload, 1), (14, .iconst 2, 1), (15, .isub, 1), (16, .i2l, 1), (17, .invokestatic 61, 3), (20, .ifCond .eq 15, 3), (23, .iload_n 2, 1), (24, .i2l, 1), (25, .lconst 0, 1), (26, .ldc2_w 228, 3), (29, .invokestatic 61, 3), (32, .ifCond .ne 6, 3), (35, .ldc 71, 2), (37, .ireturn, 1), (38, .iconst 0, 1), (39, .istore_n 3, 1), (40, .iload_n 3, 1), (41, .bipush 60, 2), (43, .if_icmp .gt 64, 3), (46, .aload_n 0, 1), (47, .invokevirtual 230, 3), (50, .aload_n 0, 1), (51, .getfield 25, 3), (54, .iconst 2, 1), (55, .iconst 4, 1), (56, .iload_n 1, 1), (57, .imul, 1), (58, .iadd, 1), (59, .iconst 2, 1), (60, .iadd, 1), (61, .dup2, 1), (62, .iaload, 1), (63, .iload_n 3, 1), (64, .iadd, 1), (65, .iastore, 1), (66, .aload_n 0, 1), (67, .aload_n 0, 1), (68, .getfield 25, 3), (71, .aload_n 0, 1), (72, .getfield 19, 3), (75, .iconst 1, 1), (76, .iaload, 1), (77, .invokevirtual 189, 3), (80, .istore 4, 2), (82, .aload_n 0, 1), (83, .getfield 165, 3), (86, .ifCond .ne 9, 3), (89, .iload 4, 2), (91, .iload_n 2, 1), (92, .if_icmp .gt 9, 3), (95, .aload_n 0, 1), (96, .iload_n 3, 1), (97, .invokevirtual 217, 3), (100, .ireturn, 1), (101, .iinc 3 1, 3), (104, .goto (-64), 3), (107, .aload_n 0, 1), (108, .ldc 94, 2), (110, .invokevirtual 217, 3), (113, .ireturn, 1)]
theorem jm_d141 : ∀ q ∈ jm_c141, decode cX5_stiffer q.1 = .ok q.2 := by decide +kernel
def jm_c142 : List (Nat × Instr × Nat) := [(0, .aload_n 0, 1), (1, .iconst 0, 1), (2, .putfield 51, 3), (5, .aload_n 0, 1), (6, .invokevirtual 208, 3), (9, .ifCond .ne 6, 3), (12, .ldc 207, 2), (14, .ireturn, 1), (15, .iload_n 1, 1), (16, .i2l, 1), (17, .lconst 0, 1), (18, .ldc2_w 233, 3), (21, .invokestatic 61, 3), (24, .ifCond .eq 15, 3), (27, .iload_n 2, 1), (28, .i2l, 1), (29, .lconst 0, 1), (30, .ldc2_w 69, 3), (33, .invokestatic 61, 3), (36, .ifCond .ne 6, 3), (39, .ldc 71, 2), (41, .ireturn, 1), (42, .iconst 0, 1), (43, .istore_n 3, 1), (44, .iconst 0, 1), (45, .istore 4, 2), (47, .iconst 0, 1), (48, .istore 5, 2), (50, .iconst 0, 1), (51, .istore 6, 2), (53, .iload 6, 2), (55, .iconst 1, 1), (56, .aload_n 0, 1), (57, .getfield 19, 3), (60, .iconst 0, 1), (61, .iaload, 1), (62, .ishl, 1), (63, .if_icmp .ge 93, 3), (66, .iconst 0, 1), (67, .istore 7, 2), (69, .iconst 0, 1), (70, .istore 8, 2), (72, .iload 8, 2), (74, .aload_n 0, 1), (75, .getfield 19, 3), (78, .iconst 0, 1), (79, .iaload, 1), (80, .if_icmp .ge 38, 3), (83, .iload 7, 2), (85, .iload 6, 2), (87, .iload 8, 2), (89, .invokestatic 235, 3), (92, .ifCond .eq 16, 3), (95, .aload_n 0, 1), (96, .getfield 19, 3), (99, .iload 8, 2), (101, .iconst 1, 1), (102, .invokestatic 153, 3), (105, .goto 4, 3), (108, .iconst 0, 1), (109, .iadd, 1), (110, .istore 7, 2), (112, .iinc 8 1, 3), (115, .goto (-43), 3), (118, .iload 7, 2), (120, .iload_n 1, 1), (121, .if_icmp .ne 29, 3), (124, .iload_n 3, 1), (125, .ifCond .ne 8, 3), (128, .iload 6, 2), (130, .goto 8, 3), (133, .iload 4, 2), (135, .iload 6, 2), (137, .iand, 1), (138, .istore 4, 2), (140, .iload 5, 2), (142, .iload 6, 2), (144, .ior, 1), (145, .istore 5, 2), (147, .iinc 3 1, 3), (150, .iinc 6 1, 3), (153, .goto (-100), 3), (156, .iload_n 2, 1), (157, .ifCond .ne 7, 3), (160, .iload_n 3, 1), (161, .goto 15, 3), (164, .iload_n 2, 1), (165, .iconst 1, 1), (166, .if_icmp .ne 8, 3), (169, .iload 4, 2), (171, .goto 5, 3), (174, .iload 5, 2), (176, .ireturn, 1)]
theorem jm_d142 : ∀ q ∈ jm_c142, decode cX5_sets q.1 = .ok q.2 := by decide +kernel
def jm_c143 : List (Nat × Instr × Nat) := [(0, .iconst 0, 1), (1, .istore_n 2, 1), (2, .iconst 0, 1), (3, .istore_n 3, 1), (4, .iload_n 3, 1), (5, .aload_n 0, 1), (6, .getfield 19, 3), (9, .iconst 0, 1), (10, .iaload, 1), (11, .if_icmp .ge 21, 3), (14, .iload_n 2, 1), (15, .aload_n 0, 1), (16, .getfield 19, 3), (19, .iload_n 3, 1), (20, .iload_n 1, 1), (21, .invokestatic 153, 3), (24, .iadd, 1), (25, .istore_n 2, 1), (26, .iinc 3 1, 3), (29, .goto (-25), 3), (32, .iload_n 2, 1), (33, .ireturn, 1)]
theorem jm_d143 : ∀ q ∈ jm_c143, decode cX5_together q.1 = .ok q.2 := by decide +kernel
def jm_c144 : List (Nat × Instr × Nat) := [(0, .aload_n 0, 1), (1, .iconst 0, 1), (2, .putfield 51, 3), (5, .aload_n 0, 1), (6, .iload_n 1, 1), (7, .invokevirtual 201, 3), (10, .ifCond .eq 15, 3), (13, .iload_n 2, 1), (14, .i2l, 1), (15, .lconst 0, 1), (16, .ldc2_w 238, 3), (19, .invokestatic 61, 3), (22, .ifCond .ne 6, 3), (25, .ldc 71, 2), (27, .ireturn, 1), (28, .aload_n 0, 1), (29, .iconst 2, 1), (30, .invokevirtual 240, 3), (33, .istore_n 3, 1), (34, .aload_n 0, 1), (35, .getfield 19, 3), (38, .iload_n 1, 1), (39, .iconst 2, 1), (40, .invokestatic 153, 3), (43, .istore 4, 2), (45, .iload 4, 2), (47, .ifCond .ne 5, 3), (50, .iconst 0, 1), (51, .ireturn, 1), (52, .iload_n 2, 1), (53, .istore 5, 2), (55, .iconst 0, 1), (56, .istore 6, 2), (58, .iconst 0, 1), (59, .istore 7, 2), (61, .iload 7, 2), (63, .aload_n 0, 1), (64, .getfield 19, 3), (67, .iconst 0, 1), (68, .iaload, 1), (69, .if_icmp .ge 57, 3), (72, .iload 5, 2), (74, .iload_n 2, 1), (75, .aload_n 0, 1), (76, .getfield 19, 3), (79, .iload 7, 2), (81, .iconst 2, 1), (82, .invokestatic 153, 3), (85, .imul, 1), (86, .iload_n 3, 1), (87, .idiv, 1), (88, .isub, 1), (89, .istore 5, 2), (91, .iload 6, 2), (93, .iload 7, 2), (95, .iload_n 1, 1), (96, .if_icmp .ge 20, 3), (99, .aload_n 0, 1), (100, .getfield 19, 3), (103, .iload 7, 2), (105, .iconst 2, 1), (106, .invokestatic 153, 3), (109, .ifCond .le 7, 3), (112, .iconst 1, 1), (113, .goto 4, 3), (116, .iconst 0, 1), (117, .iadd, 1), (118, .istore 6, 2), (120, .iinc 7 1, 3), (123, .goto (-62), 3), (126, .iload_n 2, 1), (127, .iload 4, 2), (129, .imul, 1), (130, .iload_n 3, 1), (131, .idiv, 1), (132, .iload 6, 2), (134, .iload 5, 2), (136, .if_icmp .ge 7, 3), (139, .iconst 1, 1), (140, .goto 4, 3), (143, .iconst 0, 1), (144, .iadd, 1), (145, .ireturn, 1)]
theorem jm_d144 : ∀ q ∈ jm_c144, decode cX5_share q.1 = .ok q.2 := by decide +kernel
def jm_c145 : List (Nat × Instr × Nat) := [(0, .aload_n 0, 1), (1, .invokevirtual 230, 3), (4, .iload_n 1, 1), (5, .aload_n 0, 1), (6, .getfield 19, 3), (9, .iconst 0, 1), (10, .iaload, 1), (11, .if_icmp .ge 19, 3), (14, .aload_n 0, 1), (15, .getfield 25, 3), (18, .iconst 2, 1), (19, .iconst 4, 1), (20, .iload_n 1, 1), (21, .imul, 1), (22, .iadd, 1), (23, .iconst 2, 1), (24, .iadd, 1), (25, .dup2, 1), (26, .iaload, 1), (27, .iconst 5, 1), (28, .iadd, 1), (29, .iastore, 1), (30, .iload_n 2, 1), (31, .aload_n 0, 1), (32, .getfield 19, 3), (35, .iconst 0, 1), (36, .iaload, 1), (37, .if_icmp .ge 19, 3), (40, .aload_n 0, 1), (41, .getfield 25, 3), (44, .iconst 2, 1), (45, .iconst 4, 1), (46, .iload_n 2, 1), (47, .imul, 1), (48, .iadd, 1), (49, .iconst 1, 1), (50, .iadd, 1), (51, .dup2, 1), (52, .iaload, 1), (53, .iconst 1, 1), (54, .iadd, 1), (55, .iastore, 1), (56, .iload_n 3, 1), (57, .aload_n 0, 1), (58, .getfield 19, 3), (61, .iconst 0, 1), (62, .iaload, 1), (63, .if_icmp .ge 19, 3), (66, .aload_n 0, 1), (67, .getfield 25, 3), (70, .iconst 2, 1), (71, .iconst 4, 1), (72, .iload_n 3, 1), (73, .imul, 1), (74, .iadd, 1), (75, .iconst 2, 1), (76, .iadd, 1), (77, .dup2, 1), (78, .iaload, 1), (79, .iconst 5, 1), (80, .iadd, 1), (81, .iastore, 1), (82, .aload_n 0, 1), (83, .aload_n 0, 1), (84, .getfield 25, 3), (87, .aload_n 0, 1), (88, .getfield 19, 3), (91, .iconst 1, 1), (92, .iaload, 1), (93, .invokevirtual 189, 3), (96, .istore 4, 2), (98, .aload_n 0, 1), (99, .getfield 165, 3), (102, .ifCond .eq 12, 3), (105, .aload_n 0, 1), (106, .getfield 19, 3), (109, .iconst 0, 1), (110, .iaload, 1), (111, .goto 5, 3), (114, .iload 4, 2), (116, .ireturn, 1)]
theorem jm_d145 : ∀ q ∈ jm_c145, decode cX5_afterTurns q.1 = .ok q.2 := by decide +kernel
def jm_c146 : List (Nat × Instr × Nat) := [(0, .aload_n 0, 1), (1, .iconst 0, 1), (2, .putfield 51, 3), (5, .aload_n 0, 1), (6, .invokevirtual 208, 3), (9, .ifCond .ne 6, 3), (12, .ldc 207, 2), (14, .ireturn, 1), (15, .iload_n 1, 1), (16, .i2l, 1), (17, .lconst 0, 1), (18, .ldc2_w 243, 3), (21, .invokestatic 61, 3), (24, .ifCond .ne 6, 3), (27, .ldc 71, 2), (29, .ireturn, 1), (30, .aload_n 0, 1), (31, .getfield 19, 3), (34, .iconst 0, 1), (35, .iaload, 1), (36, .istore_n 2, 1), (37, .ldc 94, 2), (39, .istore_n 3, 1), (40, .iload_n 1, 1), (41, .ifCond .le 7, 3), (44, .iconst 0, 1), (45, .goto 4, 3), (48, .iload_n 2, 1), (49, .istore 4, 2), (51, .iload 4, 2), (53, .iload_n 1, 1), (54, .ifCond .le 7, 3), (57, .iload_n 2, 1), (58, .goto 6, 3), (61, .iload_n 2, 1), (62, .iconst 1, 1), (63, .iadd, 1), (64, .if_icmp .ge 157, 3), (67, .ldc 94, 2), (69, .istore 5, 2), (71, .iload_n 1, 1), (72, .iconst 1, 1), (73, .if_icmp .le 7, 3), (76, .iconst 0, 1), (77, .goto 4, 3), (80, .iload_n 2, 1), (81, .istore 6, 2), (83, .iload 6, 2), (85, .iload_n 1, 1), (86, .iconst 1, 1), (87, .if_icmp .le 7, 3), (90, .iload_n 2, 1), (91, .goto 6, 3), (94, .iload_n 2, 1), (95, .iconst 1, 1), (96, .iadd, 1), (97, .if_icmp .ge 99, 3), (100, .ldc 94, 2), (102, .istore 7, 2), (104, .iload_n 1, 1), (105, .iconst 2, 1), (106, .if_icmp .le 7, 3), (109, .iconst 0, 1), (110, .goto 4, 3), (113, .iload_n 2, 1), (114, .istore 8, 2), (116, .iload 8, 2), (118, .iload_n 1, 1), (119, .iconst 2, 1), (120, .if_icmp .le 7, 3), (123, .iload_n 2, 1), (124, .goto 6, 3), (127, .iload_n 2, 1), (128, .iconst 1, 1), (129, .iadd, 1), (130, .if_icmp .ge 44, 3), (133, .aload_n 0, 1), (134, .iload 4, 2), (136, .iload 6, 2), (138, .iload 8, 2), (140, .invokevirtual 245, 3), (143, .istore 9, 2), (145, .iload 7, 2), (147, .ldc 94, 2), (149, .if_icmp .eq 10, 3), (152, .iload 9, 2), (154, .iload 7, 2), (156, .if_icmp .ge 8, 3), (159, .iload 9, 2), (161, .goto 5, 3), (164, .iload 7, 2), (166, .istore 7, 2), (168, .iinc 8 1, 3), (171, .goto (-55), 3), (174, .iload 7, 2), (176, .iload 5, 2), (178, .if_icmp .le 8, 3), (181, .iload 7, 2), (183, .goto 5, 3), (186, .iload 5, 2), (188, .istore 5, 2), (190, .iinc 6 1, 3), (193, .goto (-110), 3), (196, .iload_n 3, 1), (197, .ldc 94, 2), (199, .if_icmp .eq 9, 3), (202, .iload 5, 2), (204, .iload_n 3, 1), (205, .if_icmp .ge 8, 3), (208, .iload 5, 2), (210, .goto 4, 3), (213, .iload_n 3, 1), (214, .istore_n 3, 1), (215, .iinc 4 1, 3), (218, .goto (-167), 3), (221, .iload_n 3, 1), (222, .ireturn, 1)]
theorem jm_d146 : ∀ q ∈ jm_c146, decode cX5_byTurns q.1 = .ok q.2 := by decide +kernel
def jm_c147 : List (Nat × Instr × Nat) := [(0, .aload_n 0, 1), (1, .getfield 7, 3), (4, .iload_n 1, 1), (5, .iaload, 1), (6, .ifCond .ge 9, 3), (9, .aload_n 0, 1), (10, .iconst 1, 1), (11, .invokevirtual 72, 3), (14, .ireturn, 1), (15, .iload_n 2, 1), (16, .ifCond .lt 19, 3), (19, .iload_n 2, 1), (20, .i2l, 1), (21, .iload_n 3, 1), (22, .i2l, 1), (23, .ladd, 1), (24, .aload_n 0, 1), (25, .getfield 13, 3), (28, .iload_n 1, 1), (29, .iaload, 1), (30, .i2l, 1), (31, .lcmp, 1), (32, .ifCond .le 9, 3), (35, .aload_n 0, 1), (36, .iconst 2, 1), (37, .invokevirtual 72, 3), (40, .ireturn, 1), (41, .aload_n 0, 1), (42, .iconst 0, 1), (43, .putfield 55, 3), (46, .iconst 0, 1), (47, .ireturn, 1)]
theorem jm_d147 : ∀ q ∈ jm_c147, decode cX5_rowFound q.1 = .ok q.2 := by decide +kernel
def jm_c148 : List (Nat × Instr × Nat) := [(0, .aload_n 0, 1), (1, .aload_n 0, 1), (2, .getfield 25, 3), (5, .iload_n 2, 1), (6, .invokevirtual 220, 3), (9, .aload_n 0, 1), (10, .getfield 165, 3), (13, .ifCond .ne 7, 3), (16, .iconst 1, 1), (17, .goto 4, 3), (20, .iconst 0, 1), (21, .istore_n 3, 1), (22, .iconst 0, 1), (23, .istore 4, 2), (25, .iload 4, 2), (27, .iload_n 2, 1), (28, .if_icmp .ge 54, 3), (31, .iload_n 3, 1), (32, .ifCond .eq 50, 3), (35, .aload_n 0, 1), (36, .getfield 38, 3), (39, .iload 4, 2), (41, .iaload, 1), (42, .ldc 94, 2), (44, .if_icmp .ne 7, 3), (47, .iconst (-1), 1), (48, .goto 10, 3), (51, .aload_n 0, 1), (52, .getfield 38, 3), (55, .iload 4, 2), (57, .iaload, 1), (58, .aload_n 0, 1), (59, .getfield 16, 3), (62, .iload_n 1, 1), (63, .iload 4, 2), (65, .iadd, 1), (66, .iaload, 1), (67, .if_icmp .ne 7, 3), (70, .iconst 1, 1), (71, .goto 4, 3), (74, .iconst 0, 1), (75, .istore_n 3, 1), (76, .iinc 4 1, 3), (79, .goto (-54), 3), (82, .iload_n 3, 1), (83, .ireturn, 1)]
theorem jm_d148 : ∀ q ∈ jm_c148, decode cX5_isBoxedSo q.1 = .ok q.2 := by decide +kernel
def jm_c149 : List (Nat × Instr × Nat) := [(0, .aload_n 0, 1), (1, .iconst 0, 1), (2, .putfield 51, 3), (5, .aload_n 0, 1), (6, .iload_n 1, 1), (7, .invokevirtual 201, 3), (10, .ifCond .eq 39, 3), (13, .iload_n 2, 1), (14, .i2l, 1), (15, .lconst 0, 1), (16, .ldc2_w 243, 3), (19, .invokestatic 61, 3), (22, .ifCond .eq 27, 3), (25, .iload_n 3, 1), (26, .invokestatic 65, 3), (29, .ifCond .eq 20, 3), (32, .iload 5, 2), (34, .i2l, 1), (35, .lconst 1, 1), (36, .aload_n 0, 1), (37, .getfield 19, 3), (40, .iconst 0, 1), (41, .iaload, 1), (42, .i2l, 1), (43, .invokestatic 61, 3), (46, .ifCond .ne 6, 3), (49, .ldc 71, 2), (51, .ireturn, 1), (52, .aload_n 0, 1), (53, .iload_n 3, 1), (54, .iload 4, 2), (56, .iload 5, 2), (58, .invokevirtual 249, 3), (61, .istore 6, 2), (63, .iload 6, 2), (65, .ifCond .eq 6, 3), (68, .iload 6, 2), (70, .ireturn, 1), (71, .iconst 0, 1), (72, .istore 7, 2), (74, .iconst 0, 1), (75, .istore 8, 2), (77, .ldc 94, 2), (79, .istore 9, 2), (81, .iload_n 2, 1), (82, .iconst 1, 1), (83, .if_icmp .le 7, 3), (86, .iconst 0, 1), (87, .goto 4, 3), (90, .iconst 1, 1), (91, .istore 10, 2), (93, .iload 10, 2), (95, .iload_n 2, 1), (96, .iconst 1, 1), (97, .if_icmp .le 8, 3), (100, .bipush 40, 2), (102, .goto 4, 3), (105, .iconst 5, 1), (106, .if_icmp .gt 87, 3), (109, .aload_n 0, 1), (110, .invokevirtual 230, 3), (113, .aload_n 0, 1), (114, .getfield 25, 3), (117, .iconst 2, 1), (118, .iconst 4, 1), (119, .iload_n 1, 1), (120, .imul, 1), (121, .iadd, 1), (122, .iload_n 2, 1), (123, .iconst 1, 1), (124, .if_icmp .le 7, 3), (127, .iconst 2, 1), (128, .goto 4, 3), (131, .iload_n 2, 1), (132, .iadd, 1), (133, .iload 10, 2), (135, .iastore, 1), (136, .aload_n 0, 1), (137, .bipush 40, 2), (139, .iload_n 3, 1), (140, .imul, 1), (141, .iload 4, 2), (143, .iadd, 1), (144, .iload 5, 2), (146, .invokevirtual 252, 3), (149, .ifCond .eq 38, 3), (152, .iload 7, 2), (154, .iload_n 2, 1), (155, .iconst 2, 1), (156, .if_icmp .ge 10, 3), (159, .iconst 1, 1), (160, .iload 10, 2), (162, .ishl, 1), (163, .goto 4, 3), (166, .iconst 0, 1), (167, .ior, 1), (168, .istore 7, 2), (170, .iload 8, 2), (172, .ifCond .ne 8, 3), (175, .iload 10, 2), (177, .goto 5, 3), (180, .iload 9, 2), (182, .istore 9, 2), (184, .iinc 8 1, 3), (187, .iinc 10 1, 3), (190, .goto (-97), 3), (193, .iload_n 2, 1), (194, .iconst 2, 1), (195, .if_icmp .ge 8, 3), (198, .iload 7, 2), (200, .goto 15, 3), (203, .iload_n 2, 1), (204, .iconst 2, 1), (205, .if_icmp .ne 8, 3), (208, .iload 8, 2), (210, .goto 5, 3), (213, .iload 9, 2), (215, .ireturn, 1)]
theorem jm_d149 : ∀ q ∈ jm_c149, decode cX5_who q.1 = .ok q.2 := by decide +kernel
end
section
def jm_c150 : List (Nat × Instr × Nat) := [(0, .aload_n 0, 1), (1, .iconst 0, 1), (2, .putfield 51, 3), (5, .aload_n 0, 1), (6, .invokevirtual 208, 3), (9, .ifCond .ne 7, 3), (12, .ldc2_w 213, 3), (15, .lreturn, 1), (16, .iload_n 1, 1), (17, .i2l, 1), (18, .lconst 0, 1), (19, .ldc2_w 228, 3), (22, .invokestatic 61, 3), (25, .ifCond .eq 25, 3), (28, .iload_n 2, 1), (29, .i2l, 1), (30, .lconst 0, 1), (31, .ldc2_w 255, 3), (34, .invokestatic 61, 3), (37, .ifCond .eq 13, 3), (40, .iload_n 3, 1), (41, .i2l, 1), (42, .lconst 0, 1), (43, .lconst 1, 1), (44, .invokestatic 61, 3), (47, .ifCond .ne 7, 3), (50, .ldc2_w 215, 3), (53, .lreturn, 1), (54, .aload_n 0, 1), (55, .getfield 19, 3), (58, .iconst 0, 1), (59, .iaload, 1), (60, .iconst 1, 1), (61, .isub, 1), (62, .istore 4, 2), (64, .lconst 0, 1), (65, .lstore 5, 2), (67, .lconst 0, 1), (68, .lstore 7, 2), (70, .iconst 0, 1), (71, .istore 9, 2), (73, .iload 9, 2), (75, .iconst 1, 1), (76, .iload 4, 2), (78, .ishl, 1), (79, .if_icmp .ge 145, 3), (82, .lconst 1, 1), (83, .lstore 10, 2), (85, .aload_n 0, 1), (86, .invokevirtual 230, 3), (89, .iconst 0, 1), (90, .istore 12, 2), (92, .iload 12, 2), (94, .iload 4, 2), (96, .if_icmp .ge 75, 3), (99, .lload 10, 2), (101, .iload 9, 2), (103, .iload 12, 2), (105, .invokestatic 235, 3), (108, .ifCond .eq 8, 3), (111, .iload_n 2, 1), (112, .i2l, 1), (113, .goto 9, 3), (116, .ldc2_w 255, 3), (119, .iload_n 2, 1), (120, .i2l, 1), (121, .lsub, 1), (122, .lmul, 1), (123, .lstore 10, 2), (125, .aload_n 0, 1), (126, .getfield 25, 3), (129, .iconst 2, 1), (130, .iconst 4, 1), (131, .iload 12, 2), (133, .imul, 1), (134, .iadd, 1), (135, .iconst 2, 1), (136, .iadd, 1), (137, .iload 9, 2), (139, .iload 12, 2), (141, .invokestatic 235, 3), (144, .ifCond .eq 7, 3), (147, .iconst 0, 1), (148, .goto 16, 3), (151, .aload_n 0, 1), (152, .getfield 25, 3), (155, .iconst 2, 1), (156, .iconst 4, 1), (157, .iload 12, 2), (159, .imul, 1), (160, .iadd, 1), (161, .iconst 2, 1), (162, .iadd, 1), (163, .iaload, 1), (164, .iastore, 1), (165, .iinc 12 1, 3), (168, .goto (-76), 3), (171, .lload 7, 2), (173, .lload 10, 2), (175, .ladd, 1), (176, .lstore 7, 2), (178, .aload_n 0, 1), (179, .aload_n 0, 1), (180, .getfield 25, 3), (183, .aload_n 0, 1), (184, .getfield 19, 3), (187, .iconst 1, 1), (188, .iaload, 1), (189, .invokevirtual 189, 3), (192, .istore 12, 2), (194, .lload 5, 2), (196, .aload_n 0, 1), (197, .getfield 165, 3), (200, .ifCond .ne 14, 3), (203, .iload 12, 2), (205, .iload_n 1, 1), (206, .if_icmp .ne 8, 3), (209, .lload 10, 2), (211, .goto 4, 3), (214, .lconst 0, 1), (215, .ladd, 1), (216, .lstore 5, 2), (218, .iinc 9 1, 3), (221, .goto (-148), 3), (224, .lload 5, 2), (226, .lstore 9, 2), (228, .lload 7, 2), (230, .lstore 11, 2), (232, .lload 11, 2), (234, .lconst 0, 1), (235, .lcmp, 1), (236, .ifCond .eq 21, 3), (239, .lload 9, 2), (241, .lload 11, 2), (243, .lrem, 1), (244, .lstore 13, 2), (246, .lload 11, 2), (248, .lstore 9, 2), (250, .lload 13, 2), (252, .lstore 11, 2), (254, .goto (-22), 3), (257, .iload_n 3, 1), (258, .ifCond .ne 8, 3), (261, .lload 5, 2), (263, .goto 5, 3), (266, .lload 7, 2), (268, .lload 9, 2), (270, .ldiv, 1), (271, .lreturn, 1)]
theorem jm_d150 : ∀ q ∈ jm_c150, decode cX5_broken q.1 = .ok q.2 := by decide +kernel
def jm_c151 : List (Nat × Instr × Nat) := [(0, .aload_n 0, 1), (1, .iconst 0, 1), (2, .putfield 51, 3), (5, .aload_n 0, 1), (6, .invokevirtual 208, 3), (9, .ifCond .ne 6, 3), (12, .ldc 207, 2), (14, .ireturn, 1), (15, .iload_n 1, 1), (16, .i2l, 1), (17, .lconst 0, 1), (18, .ldc2_w 197, 3), (21, .invokestatic 61, 3), (24, .ifCond .eq 25, 3), (27, .iload_n 2, 1), (28, .i2l, 1), (29, .lconst 1, 1), (30, .ldc2_w 257, 3), (33, .invokestatic 61, 3), (36, .ifCond .eq 13, 3), (39, .iload_n 3, 1), (40, .i2l, 1), (41, .lconst 0, 1), (42, .lconst 1, 1), (43, .invokestatic 61, 3), (46, .ifCond .ne 6, 3), (49, .ldc 71, 2), (51, .ireturn, 1), (52, .aload_n 0, 1), (53, .invokevirtual 230, 3), (56, .iload_n 2, 1), (57, .i2l, 1), (58, .lstore 4, 2), (60, .iconst 0, 1), (61, .istore 6, 2), (63, .iconst 0, 1), (64, .istore 7, 2), (66, .iconst 0, 1), (67, .istore 8, 2), (69, .iload 8, 2), (71, .iload_n 1, 1), (72, .if_icmp .ge 145, 3), (75, .lload 4, 2), (77, .ldc2_w 259, 3), (80, .lmul, 1), (81, .ldc2_w 261, 3), (84, .lrem, 1), (85, .lstore 4, 2), (87, .iconst 2, 1), (88, .iconst 4, 1), (89, .lload 4, 2), (91, .aload_n 0, 1), (92, .getfield 25, 3), (95, .iconst 0, 1), (96, .iaload, 1), (97, .i2l, 1), (98, .lrem, 1), (99, .l2i, 1), (100, .imul, 1), (101, .iadd, 1), (102, .istore 9, 2), (104, .lload 4, 2), (106, .ldc2_w 243, 3), (109, .lrem, 1), (110, .lconst 0, 1), (111, .lcmp, 1), (112, .ifCond .ne 26, 3), (115, .aload_n 0, 1), (116, .getfield 25, 3), (119, .iload 9, 2), (121, .iconst 2, 1), (122, .iadd, 1), (123, .lload 4, 2), (125, .ldc2_w 263, 3), (128, .ldiv, 1), (129, .ldc2_w 265, 3), (132, .lrem, 1), (133, .l2i, 1), (134, .iastore, 1), (135, .goto 25, 3), (138, .aload_n 0, 1), (139, .getfield 25, 3), (142, .iload 9, 2), (144, .iconst 1, 1), (145, .iadd, 1), (146, .iconst 1, 1), (147, .lload 4, 2), (149, .ldc2_w 267, 3), (152, .ldiv, 1), (153, .ldc2_w 195, 3), (156, .lrem, 1), (157, .l2i, 1), (158, .iadd, 1), (159, .iastore, 1), (160, .aload_n 0, 1), (161, .aload_n 0, 1), (162, .getfield 25, 3), (165, .aload_n 0, 1), (166, .getfield 25, 3), (169, .iconst 1, 1), (170, .iaload, 1), (171, .invokevirtual 189, 3), (174, .istore 10, 2), (176, .iload 6, 2), (178, .aload_n 0, 1), (179, .getfield 165, 3), (182, .ifCond .eq 7, 3), (185, .iconst 0, 1), (186, .goto 5, 3), (189, .iload 10, 2), (191, .iadd, 1), (192, .istore 6, 2), (194, .iload 7, 2), (196, .aload_n 0, 1), (197, .getfield 165, 3), (200, .ifCond .eq 7, 3), (203, .iconst 1, 1), (204, .goto 4, 3), (207, .iconst 0, 1), (208, .iadd, 1), (209, .istore 7, 2), (211, .iinc 8 1, 3), (214, .goto (-145), 3), (217, .iload_n 3, 1), (218, .ifCond .ne 8, 3), (221, .iload 6, 2), (223, .goto 5, 3), (226, .iload 7, 2), (228, .ireturn, 1)]
theorem jm_d151 : ∀ q ∈ jm_c151, decode cX5_drawn q.1 = .ok q.2 := by decide +kernel
def jm_c152 : List (Nat × Instr × Nat) := [(0, .aload_n 0, 1), (1, .iconst 0, 1), (2, .putfield 51, 3), (5, .iload_n 1, 1), (6, .i2l, 1), (7, .lconst 0, 1), (8, .lconst 1, 1), (9, .invokestatic 61, 3), (12, .ifCond .ne 6, 3), (15, .ldc 71, 2), (17, .ireturn, 1), (18, .aload_n 0, 1), (19, .invokevirtual 208, 3), (22, .ifCond .ne 6, 3), (25, .ldc 207, 2), (27, .ireturn, 1), (28, .iconst 0, 1), (29, .istore_n 2, 1), (30, .iload_n 2, 1), (31, .bipush 26, 2), (33, .if_icmp .ge 26, 3), (36, .aload_n 0, 1), (37, .getfield 45, 3), (40, .bipush 26, 2), (42, .iload_n 1, 1), (43, .imul, 1), (44, .iload_n 2, 1), (45, .iadd, 1), (46, .aload_n 0, 1), (47, .getfield 19, 3), (50, .iload_n 2, 1), (51, .iaload, 1), (52, .iastore, 1), (53, .iinc 2 1, 3), (56, .goto (-26), 3), (59, .aload_n 0, 1), (60, .getfield 41, 3), (63, .iload_n 1, 1), (64, .iconst 1, 1), (65, .bastore, 1), (66, .iconst 1, 1), (67, .ireturn, 1)]
theorem jm_d152 : ∀ q ∈ jm_c152, decode cX5_image q.1 = .ok q.2 := by decide +kernel
def jm_c153 : List (Nat × Instr × Nat) := [(0, .aload_n 0, 1), (1, .iconst 0, 1), (2, .putfield 51, 3), (5, .iload_n 1, 1), (6, .i2l, 1), (7, .lconst 0, 1), (8, .lconst 1, 1), (9, .invokestatic 61, 3), (12, .ifCond .ne 6, 3), (15, .ldc 71, 2), (17, .ireturn, 1), (18, .aload_n 0, 1), (19, .getfield 41, 3), (22, .iload_n 1, 1), (23, .baload, 1), (24, .ifCond .ne 6, 3), (27, .ldc 207, 2), (29, .ireturn, 1), (30, .iconst 0, 1), (31, .istore_n 2, 1), (32, .iload_n 2, 1), (33, .bipush 26, 2), (35, .if_icmp .ge 26, 3), (38, .aload_n 0, 1), (39, .getfield 19, 3), (42, .iload_n 2, 1), (43, .aload_n 0, 1), (44, .getfield 45, 3), (47, .bipush 26, 2), (49, .iload_n 1, 1), (50, .imul, 1), (51, .iload_n 2, 1), (52, .iadd, 1), (53, .iaload, 1), (54, .iastore, 1), (55, .iinc 2 1, 3), (58, .goto (-26), 3), (61, .aload_n 0, 1), (62, .iconst 0, 1), (63, .putfield 150, 3), (66, .iconst 1, 1), (67, .ireturn, 1)]
theorem jm_d153 : ∀ q ∈ jm_c153, decode cX5_restore q.1 = .ok q.2 := by decide +kernel
def jm_c154 : List (Nat × Instr × Nat) := [(0, .iload_n 1, 1), (1, .ifCond .eq 28, 3), (4, .iload_n 0, 1), (5, .iload_n 1, 1), (6, .if_icmp .eq 23, 3), (9, .iload_n 1, 1), (10, .iconst 1, 1), (11, .if_icmp .ne 8, 3), (14, .iload_n 0, 1), (15, .iconst 4, 1), (16, .if_icmp .lt 13, 3), (19, .iload_n 1, 1), (20, .iconst 4, 1), (21, .if_icmp .ne 12, 3), (24, .iload_n 0, 1), (25, .iconst 5, 1), (26, .if_icmp .ne 7, 3), (29, .iconst 1, 1), (30, .goto 4, 3), (33, .iconst 0, 1), (34, .ireturn, 1)]
theorem jm_d154 : ∀ q ∈ jm_c154, decode cX5_isOf q.1 = .ok q.2 := by decide +kernel
def jm_c155 : List (Nat × Instr × Nat) := [(0, .aload_n 0, 1), (1, .iconst 0, 1), (2, .putfield 51, 3), (5, .aload_n 0, 1), (6, .iload_n 1, 1), (7, .invokevirtual 201, 3), (10, .ifCond .eq 15, 3), (13, .aload_n 0, 1), (14, .getfield 19, 3), (17, .iload_n 1, 1), (18, .iconst 0, 1), (19, .invokestatic 153, 3), (22, .goto 5, 3), (25, .ldc 71, 2), (27, .ireturn, 1)]
theorem jm_d155 : ∀ q ∈ jm_c155, decode cX5_kind q.1 = .ok q.2 := by decide +kernel
def jm_c156 : List (Nat × Instr × Nat) := [(0, .aload_n 0, 1), (1, .iconst 0, 1), (2, .putfield 51, 3), (5, .aload_n 0, 1), (6, .iload_n 1, 1), (7, .invokevirtual 201, 3), (10, .ifCond .eq 15, 3), (13, .iload_n 2, 1), (14, .i2l, 1), (15, .lconst 0, 1), (16, .ldc2_w 195, 3), (19, .invokestatic 61, 3), (22, .ifCond .ne 6, 3), (25, .ldc 71, 2), (27, .ireturn, 1), (28, .aload_n 0, 1), (29, .iconst 0, 1), (30, .putfield 55, 3), (33, .aload_n 0, 1), (34, .getfield 19, 3), (37, .iload_n 1, 1), (38, .iconst 0, 1), (39, .invokestatic 153, 3), (42, .iload_n 2, 1), (43, .invokestatic 269, 3), (46, .ifCond .eq 7, 3), (49, .iload_n 1, 1), (50, .goto 8, 3), (53, .aload_n 0, 1), (54, .iconst 3, 1), (55, .invokevirtual 72, 3), (58, .ireturn, 1)]
theorem jm_d156 : ∀ q ∈ jm_c156, decode cX5_as q.1 = .ok q.2 := by decide +kernel
def jm_c157 : List (Nat × Instr × Nat) := [(0, .aload_n 0, 1), (1, .getfield 272, 3), (4, .bipush 16, 2), (6, .if_icmp .ge 23, 3), (9, .aload_n 0, 1), (10, .getfield 48, 3), (13, .aload_n 0, 1), (14, .getfield 272, 3), (17, .iload_n 1, 1), (18, .iastore, 1), (19, .aload_n 0, 1), (20, .dup, 1), (21, .getfield 272, 3), (24, .iconst 1, 1), (25, .iadd, 1), (26, .putfield 272, 3), (29, .return_, 1)]
theorem jm_d157 : ∀ q ∈ jm_c157, decode cX5_began q.1 = .ok q.2 := by decide +kernel
def jm_c158 : List (Nat × Instr × Nat) := [(0, .aload_n 0, 1), (1, .bipush 10, 2), (3, .invokevirtual 275, 3), (6, .aload_n 0, 1), (7, .getfield 19, 3), (10, .iload_n 1, 1), (11, .iconst 2, 1), (12, .invokestatic 153, 3), (15, .ireturn, 1)]
theorem jm_d158 : ∀ q ∈ jm_c158, decode cX5_plainSize q.1 = .ok q.2 := by decide +kernel
def jm_c159 : List (Nat × Instr × Nat) := [(0, .aload_n 0, 1), (1, .getfield 19, 3), (4, .iload_n 1, 1), (5, .iconst 0, 1), (6, .invokestatic 153, 3), (9, .iconst 5, 1), (10, .if_icmp .ne 7, 3), (13, .iconst 1, 1), (14, .goto 4, 3), (17, .iconst 0, 1), (18, .istore_n 2, 1), (19, .iload_n 2, 1), (20, .ifCond .eq 9, 3), (23, .aload_n 0, 1), (24, .bipush 14, 2), (26, .invokevirtual 275, 3), (29, .aload_n 0, 1), (30, .bipush 13, 2), (32, .invokevirtual 275, 3), (35, .aload_n 0, 1), (36, .iload_n 1, 1), (37, .invokevirtual 278, 3), (40, .bipush 100, 2), (42, .isub, 1), (43, .istore_n 3, 1), (44, .iload_n 2, 1), (45, .ifCond .eq 9, 3), (48, .iconst 2, 1), (49, .iload_n 3, 1), (50, .imul, 1), (51, .goto 4, 3), (54, .iload_n 3, 1), (55, .ireturn, 1)]
theorem jm_d159 : ∀ q ∈ jm_c159, decode cX5_tiedSize q.1 = .ok q.2 := by decide +kernel
def jm_c160 : List (Nat × Instr × Nat) := [(0, .aload_n 0, 1), (1, .getfield 19, 3), (4, .iload_n 1, 1), (5, .iconst 0, 1), (6, .invokestatic 153, 3), (9, .istore_n 2, 1), (10, .iload_n 2, 1), (11, .iconst 4, 1), (12, .if_icmp .lt 23, 3), (15, .aload_n 0, 1), (16, .bipush 23, 2), (18, .invokevirtual 275, 3), (21, .aload_n 0, 1), (22, .bipush 20, 2), (24, .invokevirtual 275, 3), (27, .iload_n 1, 1), (28, .aload_n 0, 1), (29, .iload_n 1, 1), (30, .invokevirtual 281, 3), (33, .isub, 1), (34, .ireturn, 1), (35, .iload_n 2, 1), (36, .iconst 1, 1), (37, .if_icmp .eq 19, 3), (40, .aload_n 0, 1), (41, .iload_n 2, 1), (42, .iconst 3, 1), (43, .if_icmp .ne 8, 3), (46, .bipush 22, 2), (48, .goto 5, 3), (51, .bipush 24, 2), (53, .invokevirtual 275, 3), (56, .aload_n 0, 1), (57, .bipush 21, 2), (59, .invokevirtual 275, 3), (62, .aload_n 0, 1), (63, .bipush 20, 2), (65, .invokevirtual 275, 3), (68, .iload_n 1, 1), (69, .aload_n 0, 1), (70, .getfield 19, 3), (73, .iload_n 1, 1), (74, .iconst 1, 1), (75, .invokestatic 153, 3), (78, .iadd, 1), (79, .istore_n 3, 1), (80, .iload_n 2, 1), (81, .iconst 1, 1), (82, .if_icmp .ne 7, 3), (85, .iload_n 3, 1), (86, .goto 19, 3), (89, .iload_n 2, 1), (90, .iconst 3, 1), (91, .if_icmp .ne 11, 3), (94, .iload_n 3, 1), (95, .sipush 1000, 3), (98, .isub, 1), (99, .goto 6, 3), (102, .iconst 2, 1), (103, .iload_n 3, 1), (104, .imul, 1), (105, .ireturn, 1)]
theorem jm_d160 : ∀ q ∈ jm_c160, decode cX5_markOf q.1 = .ok q.2 := by decide +kernel
def jm_c161 : List (Nat × Instr × Nat) := [(0, .aload_n 0, 1), (1, .getfield 19, 3), (4, .iload_n 1, 1), (5, .iconst 0, 1), (6, .invokestatic 153, 3), (9, .istore_n 2, 1), (10, .iload_n 2, 1), (11, .iconst 4, 1), (12, .if_icmp .lt 9, 3), (15, .aload_n 0, 1), (16, .iload_n 1, 1), (17, .invokevirtual 281, 3), (20, .ireturn, 1), (21, .iload_n 2, 1), (22, .iconst 2, 1), (23, .if_icmp .ne 9, 3), (26, .aload_n 0, 1), (27, .bipush 12, 2), (29, .invokevirtual 275, 3), (32, .aload_n 0, 1), (33, .bipush 11, 2), (35, .invokevirtual 275, 3), (38, .aload_n 0, 1), (39, .iload_n 1, 1), (40, .invokevirtual 278, 3), (43, .istore_n 3, 1), (44, .iload_n 3, 1), (45, .aload_n 0, 1), (46, .iload_n 1, 1), (47, .invokevirtual 284, 3), (50, .iadd, 1), (51, .istore_n 3, 1), (52, .iload_n 2, 1), (53, .iconst 2, 1), (54, .if_icmp .ne 8, 3), (57, .iload_n 3, 1), (58, .ineg, 1), (59, .goto 4, 3), (62, .iload_n 3, 1), (63, .ireturn, 1)]
theorem jm_d161 : ∀ q ∈ jm_c161, decode cX5_sizeOf q.1 = .ok q.2 := by decide +kernel
def jm_c162 : List (Nat × Instr × Nat) := [(0, .aload_n 0, 1), (1, .iconst 0, 1), (2, .putfield 51, 3), (5, .aload_n 0, 1), (6, .iload_n 1, 1), (7, .invokevirtual 201, 3), (10, .ifCond .eq 13, 3), (13, .iload_n 2, 1), (14, .i2l, 1), (15, .lconst 0, 1), (16, .lconst 1, 1), (17, .invokestatic 61, 3), (20, .ifCond .ne 6, 3), (23, .ldc 71, 2), (25, .ireturn, 1), (26, .aload_n 0, 1), (27, .iconst 0, 1), (28, .putfield 272, 3), (31, .iload_n 2, 1), (32, .ifCond .ne 11, 3), (35, .aload_n 0, 1), (36, .iload_n 1, 1), (37, .invokevirtual 287, 3), (40, .goto 8, 3), (43, .aload_n 0, 1), (44, .iload_n 1, 1), (45, .invokevirtual 284, 3), (48, .ireturn, 1)]
theorem jm_d162 : ∀ q ∈ jm_c162, decode cX5_ask q.1 = .ok q.2 := by decide +kernel
def jm_c163 : List (Nat × Instr × Nat) := [(0, .aload_n 0, 1), (1, .iconst 0, 1), (2, .putfield 51, 3), (5, .iload_n 1, 1), (6, .i2l, 1), (7, .lconst 0, 1), (8, .aload_n 0, 1), (9, .getfield 272, 3), (12, .iconst 1, 1), (13, .isub, 1), (14, .i2l, 1), (15, .invokestatic 61, 3), (18, .ifCond .eq 12, 3), (21, .aload_n 0, 1), (22, .getfield 48, 3), (25, .iload_n 1, 1), (26, .iaload, 1), (27, .goto 5, 3), (30, .ldc 94, 2), (32, .ireturn, 1)]
theorem jm_d163 : ∀ q ∈ jm_c163, decode cX5_trace q.1 = .ok q.2 := by decide +kernel
def jm_c164 : List (Nat × Instr × Nat) := [(0, .aload_n 0, 1), (1, .iconst 0, 1), (2, .putfield 51, 3), (5, .iconst 0, 1), (6, .istore_n 2, 1), (7, .iload_n 1, 1), (8, .tableswitch 113 0 6 #[44, 77, 84, 91, 97, 103, 108], 44), (52, .iconst 0, 1), (53, .istore_n 3, 1), (54, .iload_n 3, 1), (55, .bipush 8, 2), (57, .if_icmp .ge 26, 3), (60, .iload_n 2, 1), (61, .aload_n 0, 1), (62, .getfield 7, 3), (65, .iload_n 3, 1), (66, .iaload, 1), (67, .ifCond .lt 7, 3), (70, .iconst 1, 1), (71, .goto 4, 3), (74, .iconst 0, 1), (75, .iadd, 1), (76, .istore_n 2, 1), (77, .iinc 3 1, 3), (80, .goto (-26), 3), (83, .iload_n 2, 1), (84, .ireturn, 1), (85, .aload_n 0, 1), (86, .getfield 19, 3), (89, .iconst 0, 1), (90, .iaload, 1), (91, .ireturn, 1), (92, .aload_n 0, 1), (93, .getfield 19, 3), (96, .iconst 1, 1), (97, .iaload, 1), (98, .ireturn, 1), (99, .aload_n 0, 1), (100, .iconst 1, 1), (101, .invokevirtual 240, 3), (104, .ireturn, 1), (105, .aload_n 0, 1), (106, .iconst 2, 1), (107, .invokevirtual 240, 3), (110, .ireturn, 1), (111, .aload_n 0, 1), (112, .getfield 150, 3), (115, .ireturn, 1), (116, .aload_n 0, 1), (117, .getfield 78, 3), (120, .ireturn, 1), (121, .ldc 71, 2), (123, .ireturn, 1)]
theorem jm_d164 : ∀ q ∈ jm_c164, decode cX5_count q.1 = .ok q.2 := by decide +kernel
def jm_c165 : List (Nat × Instr × Nat) := [(0, .aload_n 0, 1), (1, .iconst 0, 1), (2, .putfield 51, 3), (5, .aload_n 0, 1), (6, .getfield 55, 3), (9, .ireturn, 1)]
theorem jm_d165 : ∀ q ∈ jm_c165, decode cX5_status q.1 = .ok q.2 := by decide +kernel
end
section
-- records of methods: class, code, locals, whether it answers a boolean
abbrev jm_M : Type := Nat × List (Nat × Instr × Nat) × Nat × Bool
def jA_forgetAll : jm_M := (0, jm_c0, 1, false)
def jA_keep : jm_M := (0, jm_c1, 4, false)
def jA_forgetOldest : jm_M := (0, jm_c2, 1, false)
def jA_takeBack : jm_M := (0, jm_c3, 3, true)
def jR_takes : jm_M := (1, jm_c4, 2, true)
def jR_reads : jm_M := (1, jm_c5, 2, true)
def jR_readsLaw : jm_M := (1, jm_c6, 3, true)
def jR_readsDiscs : jm_M := (1, jm_c7, 4, true)
def jR_readsNumbers : jm_M := (1, jm_c8, 4, true)
def jR_readsSign : jm_M := (1, jm_c9, 2, true)
def jR_readsNumber : jm_M := (1, jm_c10, 5, true)
def jR_blames : jm_M := (1, jm_c11, 2, true)
def jR_byteAtHand : jm_M := (1, jm_c12, 1, false)
def jR_isFigure : jm_M := (1, jm_c13, 1, true)
def jR_kindOf : jm_M := (1, jm_c14, 1, false)
def jS_has : jm_M := (2, jm_c15, 2, true)
def jS_takeFrom : jm_M := (2, jm_c16, 3, false)
def jS_exchange : jm_M := (2, jm_c17, 5, false)
def jS_sumOf : jm_M := (2, jm_c18, 5, false)
def jS_ratioOf : jm_M := (2, jm_c19, 4, false)
def jS_weightOf : jm_M := (2, jm_c20, 4, false)
def jS_springOf : jm_M := (2, jm_c21, 4, false)
def jS_tieOf : jm_M := (2, jm_c22, 4, false)
def jP_measure : jm_M := (3, jm_c23, 3, false)
def jP_reaches : jm_M := (3, jm_c24, 10, true)
def jP_diagonal : jm_M := (3, jm_c25, 5, false)
def jP_times : jm_M := (3, jm_c26, 7, false)
def jP_less : jm_M := (3, jm_c27, 7, false)
def jP_belowAt : jm_M := (3, jm_c28, 8, false)
def jP_boxOf : jm_M := (3, jm_c29, 8, false)
def jP_boxesAll : jm_M := (3, jm_c30, 2, true)
def jP_widestGap : jm_M := (3, jm_c31, 4, false)
def jP_gapAt : jm_M := (3, jm_c32, 2, false)
def jP_isClearBy : jm_M := (3, jm_c33, 4, true)
def jD_row : jm_M := (4, jm_c34, 5, false)
def jD_set : jm_M := (4, jm_c35, 4, false)
def jD_copy : jm_M := (4, jm_c36, 6, false)
def jD_drop : jm_M := (4, jm_c37, 3, false)
def jD_isRow : jm_M := (4, jm_c38, 1, true)
def jD_isMissing : jm_M := (4, jm_c39, 2, true)
def jD_isWithin : jm_M := (4, jm_c40, 4, true)
def jD_narrowed : jm_M := (4, jm_c41, 2, false)
def jD_feed : jm_M := (4, jm_c42, 2, false)
def jD_shaft : jm_M := (4, jm_c43, 2, false)
def jD_fault : jm_M := (4, jm_c44, 1, false)
def jD_undo : jm_M := (4, jm_c45, 1, false)
def jD_change : jm_M := (4, jm_c46, 4, false)
def jD_become : jm_M := (4, jm_c47, 3, false)
def jD_mark : jm_M := (4, jm_c48, 3, false)
def jD_swap : jm_M := (4, jm_c49, 3, false)
def jD_disc : jm_M := (4, jm_c50, 3, false)
def jD_put : jm_M := (4, jm_c51, 5, false)
def jD_isMark : jm_M := (4, jm_c52, 1, true)
def jD_determinant : jm_M := (4, jm_c53, 3, false)
def jD_below : jm_M := (4, jm_c54, 2, false)
def jD_box : jm_M := (4, jm_c55, 2, false)
def jD_widest : jm_M := (4, jm_c56, 3, false)
def jD_clear : jm_M := (4, jm_c57, 4, false)
def jD_stiffer : jm_M := (4, jm_c58, 5, false)
def jD_sets : jm_M := (4, jm_c59, 8, false)
def jD_share : jm_M := (4, jm_c60, 7, false)
def jD_byTurns : jm_M := (4, jm_c61, 2, false)
def jD_who : jm_M := (4, jm_c62, 6, false)
def jD_broken : jm_M := (4, jm_c63, 11, false)
def jD_drawn : jm_M := (4, jm_c64, 10, false)
def jD_image : jm_M := (4, jm_c65, 2, false)
def jD_restore : jm_M := (4, jm_c66, 2, false)
def jD_belowMarkTried : jm_M := (4, jm_c67, 1, false)
def jD_turned : jm_M := (4, jm_c68, 8, false)
def jD_bitsThatFit : jm_M := (4, jm_c69, 8, false)
def jD_springsThatFit : jm_M := (4, jm_c70, 8, false)
def jD_triedBoxesAre : jm_M := (4, jm_c71, 7, true)
def jD_casesOf : jm_M := (4, jm_c72, 8, false)
def jD_commonDivisor : jm_M := (4, jm_c73, 11, false)
def jD_drawOne : jm_M := (4, jm_c74, 4, false)
def jD_isImage : jm_M := (4, jm_c75, 1, true)
def jD_imageAt : jm_M := (4, jm_c76, 2, false)
def jD_kind : jm_M := (4, jm_c77, 2, false)
def jD_as : jm_M := (4, jm_c78, 3, false)
def jD_ask : jm_M := (4, jm_c79, 3, false)
def jD_trace : jm_M := (4, jm_c80, 2, false)
def jD_count : jm_M := (4, jm_c81, 2, false)
def jD_status : jm_M := (4, jm_c82, 1, false)
def jD_isOfKind : jm_M := (4, jm_c83, 4, true)
def jD_asked : jm_M := (4, jm_c84, 5, false)
def jD_answerOf : jm_M := (4, jm_c85, 5, false)
def jD_leaveTrace : jm_M := (4, jm_c86, 2, false)
def jD_rowsThatStand : jm_M := (4, jm_c87, 3, false)
def jD_found : jm_M := (4, jm_c88, 2, false)
def jD_clean : jm_M := (4, jm_c89, 2, false)
def jD_answered : jm_M := (4, jm_c90, 2, false)
def jM_in : jm_M := (5, jm_c91, 6, true)
def jM_finding : jm_M := (5, jm_c92, 2, false)
def jM_isRow : jm_M := (5, jm_c93, 1, true)
def jM_row : jm_M := (5, jm_c94, 5, false)
def jM_set : jm_M := (5, jm_c95, 4, false)
def jM_copy : jm_M := (5, jm_c96, 9, false)
def jM_drop : jm_M := (5, jm_c97, 2, false)
def jM_feed : jm_M := (5, jm_c98, 2, false)
def jM_bad : jm_M := (5, jm_c99, 2, false)
def jM_nextToken : jm_M := (5, jm_c100, 1, false)
def jM_must : jm_M := (5, jm_c101, 2, false)
def jM_isLetter : jm_M := (5, jm_c102, 2, true)
def jM_number : jm_M := (5, jm_c103, 4, false)
def jM_mustSign : jm_M := (5, jm_c104, 2, false)
def jM_begin : jm_M := (5, jm_c105, 1, false)
def jM_failed : jm_M := (5, jm_c106, 1, true)
def jM_fault : jm_M := (5, jm_c107, 1, false)
def jM_kindBy : jm_M := (5, jm_c108, 1, false)
def jM_isSort : jm_M := (5, jm_c109, 1, true)
def jM_readDisc : jm_M := (5, jm_c110, 6, false)
def jM_shaft : jm_M := (5, jm_c111, 3, false)
def jM_isThere : jm_M := (5, jm_c112, 1, true)
def jM_isDisc : jm_M := (5, jm_c113, 2, true)
def jM_has : jm_M := (5, jm_c114, 2, true)
def jM_of : jm_M := (5, jm_c115, 3, false)
def jM_ratio : jm_M := (5, jm_c116, 4, false)
def jM_weight : jm_M := (5, jm_c117, 3, false)
def jM_spring : jm_M := (5, jm_c118, 3, false)
def jM_tie : jm_M := (5, jm_c119, 3, false)
def jM_product : jm_M := (5, jm_c120, 7, false)
def jM_difference : jm_M := (5, jm_c121, 7, false)
def jM_reckon : jm_M := (5, jm_c122, 13, false)
def jM_belowOf : jm_M := (5, jm_c123, 7, false)
def jM_boxOf : jm_M := (5, jm_c124, 8, false)
def jM_layBoxes : jm_M := (5, jm_c125, 4, false)
def jM_layThen : jm_M := (5, jm_c126, 2, false)
def jM_keep : jm_M := (5, jm_c127, 2, false)
def jM_change : jm_M := (5, jm_c128, 6, false)
def jM_become : jm_M := (5, jm_c129, 4, false)
def jM_mark : jm_M := (5, jm_c130, 3, false)
def jM_swap : jm_M := (5, jm_c131, 5, false)
def jM_undo : jm_M := (5, jm_c132, 2, false)
def jM_disc : jm_M := (5, jm_c133, 3, false)
def jM_unless : jm_M := (5, jm_c134, 2, false)
def jM_determinant : jm_M := (5, jm_c135, 3, false)
def jM_below : jm_M := (5, jm_c136, 2, false)
def jM_box : jm_M := (5, jm_c137, 2, false)
def jM_widest : jm_M := (5, jm_c138, 5, false)
def jM_isClear : jm_M := (5, jm_c139, 5, true)
def jM_clear : jm_M := (5, jm_c140, 5, false)
def jM_stiffer : jm_M := (5, jm_c141, 5, false)
def jM_sets : jm_M := (5, jm_c142, 9, false)
def jM_together : jm_M := (5, jm_c143, 4, false)
def jM_share : jm_M := (5, jm_c144, 8, false)
def jM_afterTurns : jm_M := (5, jm_c145, 5, false)
def jM_byTurns : jm_M := (5, jm_c146, 10, false)
def jM_rowFound : jm_M := (5, jm_c147, 4, false)
def jM_isBoxedSo : jm_M := (5, jm_c148, 5, true)
def jM_who : jm_M := (5, jm_c149, 11, false)
def jM_broken : jm_M := (5, jm_c150, 15, false)
def jM_drawn : jm_M := (5, jm_c151, 11, false)
def jM_image : jm_M := (5, jm_c152, 3, false)
def jM_restore : jm_M := (5, jm_c153, 3, false)
def jM_isOf : jm_M := (5, jm_c154, 2, true)
def jM_kind : jm_M := (5, jm_c155, 2, false)
def jM_as : jm_M := (5, jm_c156, 3, false)
def jM_began : jm_M := (5, jm_c157, 2, false)
def jM_plainSize : jm_M := (5, jm_c158, 2, false)
def jM_tiedSize : jm_M := (5, jm_c159, 4, false)
def jM_markOf : jm_M := (5, jm_c160, 4, false)
def jM_sizeOf : jm_M := (5, jm_c161, 4, false)
def jM_ask : jm_M := (5, jm_c162, 3, false)
def jM_trace : jm_M := (5, jm_c163, 2, false)
def jM_count : jm_M := (5, jm_c164, 4, false)
def jM_status : jm_M := (5, jm_c165, 1, false)
-- field links: class, entry -> class of the object, slot, whether boolean
def jm_lk2 {α : Type} : List ((Nat × Nat) × α) → Nat → Nat → Option α
  | [], _, _ => none
  | (q, a) :: t, c, i => match Nat.beq q.2 i, Nat.beq q.1 c with
    | true, true => some a
    | _, _ => jm_lk2 t c i
def jm_flL : List ((Nat × Nat) × (Nat × Nat × Nat)) := [((0, 9), (0, 0, 2)), ((0, 15), (0, 1, 2)), ((0, 18), (0, 2, 2)), ((0, 21), (0, 3, 0)), ((0, 47), (2, 0, 2)), ((1, 9), (1, 0, 2)), ((1, 15), (1, 1, 0)), ((1, 19), (1, 2, 0)), ((1, 22), (1, 3, 0)), ((1, 71), (2, 0, 2)), ((2, 11), (2, 0, 2)), ((2, 16), (2, 1, 0)), ((2, 20), (2, 2, 0)), ((3, 9), (3, 0, 2)), ((3, 15), (3, 1, 2)), ((3, 18), (3, 2, 2)), ((3, 21), (3, 3, 2)), ((3, 24), (3, 4, 2)), ((3, 28), (3, 5, 0)), ((3, 32), (3, 6, 1)), ((3, 36), (2, 1, 0)), ((4, 9), (4, 0, 2)), ((4, 13), (4, 1, 2)), ((4, 18), (4, 2, 2)), ((4, 24), (4, 3, 2)), ((4, 31), (4, 4, 2)), ((4, 35), (4, 5, 2)), ((4, 38), (4, 6, 2)), ((4, 41), (4, 7, 2)), ((4, 47), (4, 8, 2)), ((4, 54), (4, 9, 2)), ((4, 58), (4, 10, 2)), ((4, 61), (4, 11, 0)), ((4, 65), (4, 12, 0)), ((4, 68), (4, 13, 0)), ((4, 103), (1, 1, 0)), ((4, 111), (1, 4, 0)), ((4, 115), (1, 5, 0)), ((4, 125), (2, 1, 0)), ((4, 131), (0, 3, 0)), ((4, 146), (2, 0, 2)), ((4, 152), (2, 2, 0)), ((4, 191), (3, 3, 2)), ((5, 7), (5, 2, 2)), ((5, 13), (5, 3, 2)), ((5, 16), (5, 4, 2)), ((5, 19), (5, 5, 2)), ((5, 22), (5, 6, 2)), ((5, 25), (5, 7, 2)), ((5, 28), (5, 8, 2)), ((5, 31), (5, 10, 2)), ((5, 34), (5, 20, 2)), ((5, 38), (5, 21, 2)), ((5, 41), (5, 22, 2)), ((5, 45), (5, 23, 2)), ((5, 48), (5, 24, 2)), ((5, 55), (5, 1, 0)), ((5, 78), (5, 11, 0)), ((5, 82), (5, 16, 0)), ((5, 85), (5, 13, 0)), ((5, 88), (5, 17, 0)), ((5, 91), (5, 12, 0)), ((5, 95), (5, 15, 0)), ((5, 106), (5, 14, 0)), ((5, 120), (5, 18, 0)), ((5, 150), (5, 9, 0)), ((5, 165), (5, 19, 1)), ((5, 272), (5, 25, 0)), ((0, 34), (2, 2, 0)), ((1, 25), (1, 4, 0)), ((1, 28), (1, 5, 0)), ((1, 52), (2, 2, 0)), ((1, 57), (2, 1, 0)), ((5, 51), (5, 0, 0))]
def jm_gsL : List ((Nat × Nat) × Nat) := [((1, 79), 0), ((1, 82), 1), ((4, 136), 0), ((4, 139), 1), ((4, 292), 2), ((4, 295), 3), ((4, 298), 4)]
def jm_kiL : List ((Nat × Nat) × Int32) := [((3, 68), (-1000016)), ((3, 72), (-1000000)), ((4, 75), (-1000001)), ((4, 106), (-1000003)), ((4, 114), (-1000100)), ((4, 132), (-1000002)), ((4, 212), (-1000000)), ((4, 222), (-1000016)), ((4, 248), (999999)), ((5, 58), (-1000010)), ((5, 71), (-1000001)), ((5, 81), (-1000003)), ((5, 94), (-1000000)), ((5, 149), (-1000100)), ((5, 207), (-1000002)), ((4, 308), (-1000010))]
def jm_klL : List ((Nat × Nat) × Int64) := [((3, 60), (-1)), ((3, 62), (-9223372036854775808)), ((4, 180), (-1000002)), ((4, 182), (-1000001)), ((4, 238), (10)), ((4, 249), (16807)), ((4, 251), (2147483647)), ((4, 273), (3)), ((4, 275), (16)), ((4, 277), (41)), ((4, 279), (256)), ((4, 281), (5)), ((5, 59), (7)), ((5, 69), (2)), ((5, 76), (255)), ((5, 98), (97)), ((5, 100), (122)), ((5, 102), (48)), ((5, 104), (57)), ((5, 161), (-1)), ((5, 163), (-9223372036854775808)), ((5, 195), (5)), ((5, 197), (40)), ((5, 199), (9)), ((5, 211), (200)), ((5, 213), (-1000002)), ((5, 215), (-1000001)), ((5, 228), (6)), ((5, 233), (99)), ((5, 238), (999)), ((5, 243), (3)), ((5, 255), (10)), ((5, 257), (999999)), ((5, 259), (16807)), ((5, 261), (2147483647)), ((5, 263), (16)), ((5, 265), (41)), ((5, 267), (256))]
def jm_cvL : List ((Nat × Nat) × (jm_M × Nat)) := [((0, 25), (jA_forgetOldest, 0)), ((0, 39), (jS_has, 1)), ((0, 43), (jS_exchange, 2)), ((1, 31), (jR_readsLaw, 1)), ((1, 35), (jR_readsDiscs, 1)), ((1, 38), (jR_readsSign, 1)), ((1, 42), (jR_readsNumber, 2)), ((1, 60), (jR_byteAtHand, 0)), ((1, 68), (jR_blames, 1)), ((1, 75), (jR_readsNumbers, 2)), ((2, 29), (jS_ratioOf, 1)), ((3, 39), (jS_weightOf, 1)), ((3, 43), (jS_springOf, 1)), ((3, 46), (jS_tieOf, 1)), ((3, 49), (jP_diagonal, 2)), ((3, 53), (jP_times, 2)), ((3, 57), (jP_less, 2)), ((3, 64), (jP_reaches, 2)), ((3, 69), (jP_belowAt, 1)), ((3, 73), (jP_boxOf, 1)), ((3, 76), (jP_gapAt, 1)), ((4, 76), (jD_found, 1)), ((4, 80), (jD_clean, 1)), ((4, 83), (jD_isMissing, 1)), ((4, 86), (jD_isWithin, 3)), ((4, 100), (jR_takes, 1)), ((4, 107), (jR_reads, 1)), ((4, 118), (jS_takeFrom, 1)), ((4, 122), (jA_forgetAll, 0)), ((4, 128), (jA_takeBack, 1)), ((4, 133), (jS_has, 1)), ((4, 142), (jD_put, 3)), ((4, 155), (jA_keep, 3)), ((4, 159), (jS_exchange, 2)), ((4, 168), (jS_ratioOf, 1)), ((4, 171), (jS_weightOf, 1)), ((4, 174), (jS_springOf, 1)), ((4, 177), (jS_tieOf, 1)), ((4, 184), (jP_measure, 1)), ((4, 187), (jP_reaches, 2)), ((4, 195), (jP_belowAt, 1)), ((4, 198), (jD_answered, 1)), ((4, 201), (jP_boxOf, 1)), ((4, 204), (jP_boxesAll, 0)), ((4, 208), (jP_widestGap, 0)), ((4, 213), (jP_gapAt, 1)), ((4, 216), (jP_isClearBy, 2)), ((4, 219), (jD_belowMarkTried, 0)), ((4, 223), (jS_sumOf, 2)), ((4, 226), (jD_turned, 2)), ((4, 230), (jD_bitsThatFit, 5)), ((4, 234), (jD_springsThatFit, 5)), ((4, 240), (jD_casesOf, 3)), ((4, 253), (jD_drawOne, 1)), ((4, 260), (jD_imageAt, 1)), ((4, 270), (jD_triedBoxesAre, 3)), ((4, 286), (jD_asked, 3)), ((4, 289), (jD_rowsThatStand, 0)), ((4, 301), (jD_answerOf, 3)), ((4, 304), (jD_leaveTrace, 1)), ((5, 72), (jM_finding, 1)), ((5, 109), (jM_bad, 1)), ((5, 113), (jM_nextToken, 0)), ((5, 116), (jM_must, 1)), ((5, 126), (jM_number, 2)), ((5, 130), (jM_mustSign, 1)), ((5, 133), (jM_begin, 0)), ((5, 136), (jM_isLetter, 1)), ((5, 139), (jM_isSort, 0)), ((5, 143), (jM_readDisc, 0)), ((5, 146), (jM_failed, 0)), ((5, 178), (jM_product, 2)), ((5, 182), (jM_difference, 2)), ((5, 185), (jM_reckon, 3)), ((5, 189), (jM_belowOf, 2)), ((5, 192), (jM_boxOf, 2)), ((5, 201), (jM_isDisc, 1)), ((5, 204), (jM_keep, 0)), ((5, 208), (jM_isThere, 0)), ((5, 217), (jM_unless, 1)), ((5, 220), (jM_layBoxes, 2)), ((5, 224), (jM_isClear, 2)), ((5, 230), (jM_layThen, 0)), ((5, 240), (jM_together, 1)), ((5, 245), (jM_afterTurns, 3)), ((5, 249), (jM_rowFound, 3)), ((5, 252), (jM_isBoxedSo, 2)), ((5, 275), (jM_began, 1)), ((5, 278), (jM_plainSize, 1)), ((5, 281), (jM_tiedSize, 1)), ((5, 284), (jM_markOf, 1)), ((5, 287), (jM_sizeOf, 1))]
def jm_csL : List ((Nat × Nat) × (jm_M × Nat)) := [((1, 64), (jR_kindOf, 1)), ((1, 85), (jR_isFigure, 1)), ((4, 71), (jD_isRow, 1)), ((4, 90), (jD_narrowed, 2)), ((4, 149), (jD_isMark, 1)), ((4, 244), (jD_commonDivisor, 2)), ((4, 257), (jD_isImage, 1)), ((4, 283), (jD_isOfKind, 2)), ((5, 61), (jM_in, 3)), ((5, 65), (jM_isRow, 1)), ((5, 123), (jM_kindBy, 1)), ((5, 153), (jM_of, 3)), ((5, 157), (jM_ratio, 2)), ((5, 169), (jM_spring, 2)), ((5, 172), (jM_tie, 2)), ((5, 175), (jM_weight, 2)), ((5, 235), (jM_has, 2)), ((5, 269), (jM_isOf, 2))]
def jm_imL : List ((Nat × Nat) × Nat) := [((0, 28), 13), ((1, 46), 11), ((2, 23), 13), ((3, 79), 10), ((4, 94), 13), ((4, 163), 10), ((4, 264), 11), ((4, 267), 12)]
-- shapes: group -> (kind, class or length); rows; where they begin
def jm_sh : Nat → Nat × Nat := fun k => match k with
  | 0 => (0, 4)  -- SD
  | 1 => (1, 8)  -- LANES
  | 2 => (1, 8)  -- SIZES
  | 3 => (4, 8)  -- ITEMS
  | 4 => (1, 40)  -- IROW
  | 5 => (0, 1)  -- READER
  | 6 => (1, 80)  -- TAPE
  | 7 => (0, 2)  -- SH
  | 8 => (4, 4)  -- TOLD
  | 9 => (1, 6)  -- TR
  | 10 => (0, 0)  -- ACTS
  | 11 => (1, 24)  -- WHATS
  | 12 => (1, 24)  -- ONES
  | 13 => (1, 24)  -- BEFORES
  | 14 => (0, 3)  -- SPEEDS
  | 15 => (2, 6)  -- WEIGHTS
  | 16 => (2, 6)  -- SPRINGS
  | 17 => (2, 6)  -- TIES
  | 18 => (2, 7)  -- DETS
  | 19 => (1, 6)  -- BOXES
  | 20 => (1, 16)  -- TRACED
  | 21 => (0, 5)  -- RM
  | 22 => (1, 8)  -- LANE
  | 23 => (1, 8)  -- MANY
  | 24 => (1, 320)  -- ITEM
  | 25 => (1, 26)  -- RW
  | 26 => (1, 624)  -- WAS
  | 27 => (1, 80)  -- RTAPE
  | 28 => (2, 7)  -- RDETS
  | 29 => (1, 6)  -- RBOXES
  | 30 => (3, 2)  -- ISKEPT
  | 31 => (1, 52)  -- KEPT
  | 32 => (1, 16)  -- RTRACE
  | 40 => (5, 4)  -- LEAST_TOLD
  | 41 => (5, 4)  -- MOST_TOLD
  | 42 => (5, 6)  -- KIND_ABOVE
  | 43 => (5, 6)  -- SIZE_BODY
  | 44 => (5, 6)  -- MARK_BODY
  | _ => (9, 0)
def jm_nr : Nat → Nat := fun k => match k with
  | 0 => 1
  | 1 => 1
  | 2 => 1
  | 3 => 1
  | 4 => 8
  | 5 => 1
  | 6 => 1
  | 7 => 4
  | 8 => 4
  | 9 => 16
  | 10 => 1
  | 11 => 1
  | 12 => 1
  | 13 => 1
  | 14 => 1
  | 15 => 1
  | 16 => 1
  | 17 => 1
  | 18 => 1
  | 19 => 1
  | 20 => 1
  | 21 => 1
  | 22 => 1
  | 23 => 1
  | 24 => 1
  | 25 => 3
  | 26 => 1
  | 27 => 1
  | 28 => 1
  | 29 => 1
  | 30 => 1
  | 31 => 1
  | 32 => 1
  | _ => 0
def jm_bs : Nat → Nat := fun k => match k with
  | 0 => 0
  | 1 => 1
  | 2 => 2
  | 3 => 3
  | 4 => 4
  | 5 => 12
  | 6 => 13
  | 7 => 14
  | 8 => 18
  | 9 => 22
  | 10 => 38
  | 11 => 39
  | 12 => 40
  | 13 => 41
  | 14 => 42
  | 15 => 43
  | 16 => 44
  | 17 => 45
  | 18 => 46
  | 19 => 47
  | 20 => 48
  | 21 => 49
  | 22 => 50
  | 23 => 51
  | 24 => 52
  | 25 => 53
  | 26 => 56
  | 27 => 57
  | 28 => 58
  | 29 => 59
  | 30 => 60
  | 31 => 61
  | 32 => 62
  | _ => 63
def jm_pk : Nat → Nat × Nat := fun k => match k with
  | 0 => (0, 0)
  | 1 => (1, 0)
  | 2 => (2, 0)
  | 3 => (3, 0)
  | 4 => (4, 0)
  | 5 => (4, 1)
  | 6 => (4, 2)
  | 7 => (4, 3)
  | 8 => (4, 4)
  | 9 => (4, 5)
  | 10 => (4, 6)
  | 11 => (4, 7)
  | 12 => (5, 0)
  | 13 => (6, 0)
  | 14 => (7, 0)
  | 15 => (7, 1)
  | 16 => (7, 2)
  | 17 => (7, 3)
  | 18 => (8, 0)
  | 19 => (8, 1)
  | 20 => (8, 2)
  | 21 => (8, 3)
  | 22 => (9, 0)
  | 23 => (9, 1)
  | 24 => (9, 2)
  | 25 => (9, 3)
  | 26 => (9, 4)
  | 27 => (9, 5)
  | 28 => (9, 6)
  | 29 => (9, 7)
  | 30 => (9, 8)
  | 31 => (9, 9)
  | 32 => (9, 10)
  | 33 => (9, 11)
  | 34 => (9, 12)
  | 35 => (9, 13)
  | 36 => (9, 14)
  | 37 => (9, 15)
  | 38 => (10, 0)
  | 39 => (11, 0)
  | 40 => (12, 0)
  | 41 => (13, 0)
  | 42 => (14, 0)
  | 43 => (15, 0)
  | 44 => (16, 0)
  | 45 => (17, 0)
  | 46 => (18, 0)
  | 47 => (19, 0)
  | 48 => (20, 0)
  | 49 => (21, 0)
  | 50 => (22, 0)
  | 51 => (23, 0)
  | 52 => (24, 0)
  | 53 => (25, 0)
  | 54 => (25, 1)
  | 55 => (25, 2)
  | 56 => (26, 0)
  | 57 => (27, 0)
  | 58 => (28, 0)
  | 59 => (29, 0)
  | 60 => (30, 0)
  | 61 => (31, 0)
  | 62 => (32, 0)
  | _ => (99, 0)
def jm_nf : Nat → Nat := fun k => match k with
  | 0 => 4
  | 1 => 6
  | 2 => 3
  | 3 => 7
  | 4 => 14
  | 5 => 26
  | _ => 0
-- reference fields: group, row, slot
def jm_rf : Nat → Nat → Nat → Option (Nat × Nat) := fun k r j => match k, j with
  | 0, 0 => some (1, 0)
  | 0, 1 => some (2, 0)
  | 0, 2 => some (3, 0)
  | 0, 3 => some (5, 0)
  | 0, 4 => some (7, 0)
  | 0, 5 => some (7, 1)
  | 0, 6 => some (7, 2)
  | 0, 7 => some (7, 3)
  | 0, 8 => some (10, 0)
  | 0, 9 => some (14, 0)
  | 0, 10 => some (20, 0)
  | 5, 0 => some (6, 0)
  | 7, 0 => some (8, r)
  | 10, 0 => some (11, 0)
  | 10, 1 => some (12, 0)
  | 10, 2 => some (13, 0)
  | 14, 0 => some (15, 0)
  | 14, 1 => some (16, 0)
  | 14, 2 => some (17, 0)
  | 14, 3 => some (18, 0)
  | 14, 4 => some (19, 0)
  | 21, 2 => some (22, 0)
  | 21, 3 => some (23, 0)
  | 21, 4 => some (24, 0)
  | 21, 5 => some (25, 0)
  | 21, 6 => some (25, 1)
  | 21, 7 => some (25, 2)
  | 21, 8 => some (26, 0)
  | 21, 10 => some (27, 0)
  | 21, 20 => some (28, 0)
  | 21, 21 => some (29, 0)
  | 21, 22 => some (30, 0)
  | 21, 23 => some (31, 0)
  | 21, 24 => some (32, 0)
  | _, _ => none
-- elements of arrays of references
def jm_ra : Nat → Nat → Nat → Nat × Nat := fun k r i => match k with
  | 3 => (4, i)
  | 8 => (9, 4 * r + i)
  | _ => (99, 0)
def jm_tb : Nat → List Int32 := fun k => match k with
  | 40 => [1, 0, 0, 1]
  | 41 => [5, 40, 9, 5]
  | 42 => [-1, 0, 1, 1, 0, 4]
  | 43 => [10, 11, 12, 11, 13, 14]
  | 44 => [20, 21, 24, 22, 23, 23]
  | _ => []
end
section
-- THE ABSTRACT MACHINE: a pure picture of the bytecode of both classes over a store of numbers; refs are (group, row)
abbrev jm_V : Type := (Int32 ⊕ Int64) ⊕ (Nat × Nat)
abbrev jm_I (x : Int32) : jm_V := .inl (.inl x)
abbrev jm_L (x : Int64) : jm_V := .inl (.inr x)
abbrev jm_R (k r : Nat) : jm_V := .inr (k, r)
abbrev jm_S : Type := (Nat → Nat → Nat → Int32) × (Nat → Nat → Nat → Int64)
def jm_wr (σ : jm_S) (k r : Nat) (f : Nat → Int32) : jm_S := (fun k' r' => if k' = k ∧ r' = r then f else σ.1 k' r', σ.2)
def jm_wl (σ : jm_S) (k r : Nat) (f : Nat → Int64) : jm_S := (σ.1, fun k' r' => if k' = k ∧ r' = r then f else σ.2 k' r')
def jm_wi (σ : jm_S) (k r j : Nat) (x : Int32) : jm_S := jm_wr σ k r (upd (σ.1 k r) j x)
def jm_wj (σ : jm_S) (k r j : Nat) (x : Int64) : jm_S := jm_wl σ k r (vp_updL (σ.2 k r) j x)
def jm_wc (σ : jm_S) (k1 r1 k0 r0 sp dp n : Nat) : jm_S := jm_wr σ k1 r1 (va_cpy (σ.1 k0 r0) (σ.1 k1 r1) sp dp n)
def jm_lk : List (Nat × Instr × Nat) → Nat → Option (Instr × Nat)
  | [], _ => none
  | (a, i) :: t, pc => match Nat.beq a pc with
    | true => some i
    | false => jm_lk t pc
def jm_gl : List (Option jm_V) → Nat → Option jm_V
  | [], _ => none
  | o :: _, 0 => o
  | _ :: l, n + 1 => jm_gl l n
def jm_kl (o : Option jm_V) : Option jm_V := match o with
  | some (.inl (.inr _)) => none
  | some (.inl (.inl x)) => some (.inl (.inl x))
  | some (.inr q) => some (.inr q)
  | none => none
def jm_t0 : List (Option jm_V) → List (Option jm_V)
  | [] => []
  | _ :: l => none :: l
def jm_s1 : List (Option jm_V) → Nat → jm_V → List (Option jm_V)
  | [], _, _ => []
  | _ :: l, 0, v => some v :: l
  | o :: l, 1, v => jm_kl o :: jm_s1 l 0 v
  | o :: l, n + 2, v => o :: jm_s1 l (n + 1) v
def jm_s2 : List (Option jm_V) → Nat → jm_V → List (Option jm_V)
  | [], _, _ => []
  | _ :: l, 0, v => some v :: jm_t0 l
  | o :: l, 1, v => jm_kl o :: jm_s2 l 0 v
  | o :: l, n + 2, v => o :: jm_s2 l (n + 1) v
abbrev jm_F : Type := jm_M × Nat × List (Option jm_V) × List jm_V × jm_S
abbrev jm_Rs : Type := Option jm_V × jm_S
abbrev jm_A : Type := Option ((List (Bool × jm_F) × Option jm_F) ⊕ ((Bool × jm_Rs) ⊕ (jm_M × List jm_V × jm_F)))
def jm_go (f : jm_F) : jm_A := some (.inl ([], some f))
def jm_if (b : Bool) (f : jm_F) : jm_A := some (.inl ([(b, f)], none))
def jm_br (b : Bool) (f g : jm_F) : jm_A := some (.inl ([(b, f)], some g))
def jm_p1 (st : List jm_V) (k : Int32 → List jm_V → jm_A) : jm_A := match st with
  | .inl (.inl x) :: st => k x st
  | _ => none
def jm_p2 (st : List jm_V) (k : Int32 → Int32 → List jm_V → jm_A) : jm_A := match st with
  | .inl (.inl y) :: .inl (.inl x) :: st => k x y st
  | _ => none
def jm_q1 (st : List jm_V) (k : Int64 → List jm_V → jm_A) : jm_A := match st with
  | .inl (.inr x) :: st => k x st
  | _ => none
def jm_q2 (st : List jm_V) (k : Int64 → Int64 → List jm_V → jm_A) : jm_A := match st with
  | .inl (.inr y) :: .inl (.inr x) :: st => k x y st
  | _ => none
def jm_pr (st : List jm_V) (k : Nat → Nat → List jm_V → jm_A) : jm_A := match st with
  | .inr (g, r) :: st => k g r st
  | _ => none
def jm_ix (st : List jm_V) (k : Int32 → Nat → Nat → List jm_V → jm_A) : jm_A := match st with
  | .inl (.inl i) :: .inr (g, r) :: st => k i g r st
  | _ => none
def jm_in3 (i : Int32) (n : Nat) : Bool := decide (¬ (i < 0 ∨ n ≤ i.toNatClampNeg))
def jm_b01 (x : Int32) : Bool := decide (x = 0 ∨ x = 1)
def jm_cat (v : jm_V) : Nat := match v with
  | .inl (.inr _) => 2
  | .inl (.inl _) => 1
  | .inr _ => 1
def jm_cats : List jm_V → Nat
  | [] => 0
  | v :: l => jm_cat v + jm_cats l
/-- the first n of a stack, in the order of the arguments, and the rest -/
def jm_take : Nat → List jm_V → List jm_V → Option (List jm_V × List jm_V)
  | 0, acc, st => some (acc, st)
  | _ + 1, _, [] => none
  | n + 1, acc, v :: st => jm_take n (v :: acc) st
/-- locals at the entry -/
def jm_lo : List jm_V → Nat → List (Option jm_V)
  | [], n => List.replicate n none
  | .inl (.inr x) :: l, n => some (.inl (.inr x)) :: none :: jm_lo l (n - 2)
  | .inl (.inl x) :: l, n => some (.inl (.inl x)) :: jm_lo l (n - 1)
  | .inr q :: l, n => some (.inr q) :: jm_lo l (n - 1)
def jm_tg (pc : Nat) (off : Int) : Nat := ((pc : Int) + off).toNat
def jm_cmp (c : Jvm.ClassFile.Cond) (x y : Int32) : Bool := match c with
  | .eq => decide (x = y)
  | .ne => decide (¬ x = y)
  | .lt => decide (x < y)
  | .ge => decide (y ≤ x)
  | .gt => decide (y < x)
  | .le => decide (x ≤ y)
def jm_ts (M : jm_M) (pc : Nat) (ls : List (Option jm_V)) (st : List jm_V) (σ : jm_S) (x : Int) : Int → List Int → List (Bool × jm_F)
  | _, [] => []
  | v, off :: l => (decide (x = v), (M, jm_tg pc off, ls, st, σ)) :: jm_ts M pc ls st σ x (v + 1) l
def jm_ls (M : jm_M) (pc : Nat) (ls : List (Option jm_V)) (st : List jm_V) (σ : jm_S) (x : Int) : List (Int × Int) → List (Bool × jm_F)
  | [] => []
  | (v, off) :: l => (decide (x = v), (M, jm_tg pc off, ls, st, σ)) :: jm_ls M pc ls st σ x l
def jm_push (M : jm_M) (pc : Nat) (ls : List (Option jm_V)) (st : List jm_V) (σ : jm_S) (v : jm_V) : jm_A := jm_go (M, pc, ls, v :: st, σ)
def jm_ild (M : jm_M) (pc : Nat) (ls : List (Option jm_V)) (st : List jm_V) (σ : jm_S) (i : Nat) : jm_A := match jm_gl ls i with
  | some (.inl (.inl x)) => jm_go (M, pc, ls, jm_I x :: st, σ)
  | _ => none
def jm_lld (M : jm_M) (pc : Nat) (ls : List (Option jm_V)) (st : List jm_V) (σ : jm_S) (i : Nat) : jm_A := match jm_gl ls i with
  | some (.inl (.inr x)) => jm_go (M, pc, ls, jm_L x :: st, σ)
  | _ => none
def jm_ald (M : jm_M) (pc : Nat) (ls : List (Option jm_V)) (st : List jm_V) (σ : jm_S) (i : Nat) : jm_A := match jm_gl ls i with
  | some (.inr (k, r)) => jm_go (M, pc, ls, jm_R k r :: st, σ)
  | _ => none
def jm_ist (M : jm_M) (pc : Nat) (ls : List (Option jm_V)) (st : List jm_V) (σ : jm_S) (i : Nat) : jm_A := match Nat.blt i M.2.2.1 with
  | true => jm_p1 st fun x st => jm_go (M, pc, jm_s1 ls i (jm_I x), st, σ)
  | false => none
def jm_lst (M : jm_M) (pc : Nat) (ls : List (Option jm_V)) (st : List jm_V) (σ : jm_S) (i : Nat) : jm_A := match Nat.blt (i + 1) M.2.2.1 with
  | true => jm_q1 st fun x st => jm_go (M, pc, jm_s2 ls i (jm_L x), st, σ)
  | false => none
def jm_inc (M : jm_M) (pc : Nat) (ls : List (Option jm_V)) (st : List jm_V) (σ : jm_S) (i : Nat) (n : Int) : jm_A := match Nat.blt i M.2.2.1 with
  | true => match jm_gl ls i with
    | some (.inl (.inl x)) => jm_go (M, pc, jm_s1 ls i (jm_I (x + Int32.ofInt n)), st, σ)
    | _ => none
  | false => none
def jm_getf (M : jm_M) (pc : Nat) (ls : List (Option jm_V)) (st : List jm_V) (σ : jm_S) (ix : Nat) : jm_A := match jm_lk2 jm_flL M.1 ix with
  | some (ci, j, _) => jm_pr st fun k r st => match jm_sh k with
    | (0, cj) => match Nat.beq cj ci with
      | true => match jm_rf k r j with
        | some (k', r') => jm_go (M, pc, ls, jm_R k' r' :: st, σ)
        | none => jm_go (M, pc, ls, jm_I (σ.1 k r j) :: st, σ)
      | false => none
    | _ => none
  | none => none
def jm_putf (M : jm_M) (pc : Nat) (ls : List (Option jm_V)) (st : List jm_V) (σ : jm_S) (ix : Nat) : jm_A := match jm_lk2 jm_flL M.1 ix with
  | some (ci, j, bz) => jm_p1 st fun x st => jm_pr st fun k r st => match jm_sh k with
    | (0, cj) => match Nat.beq cj ci with
      | true => match jm_rf k r j with
        | some _ => none
        | none => match bz with
          | 0 => jm_go (M, pc, ls, st, jm_wi σ k r j x)
          | 1 => jm_if (jm_b01 x) (M, pc, ls, st, jm_wi σ k r j x)
          | _ => none
      | false => none
    | _ => none
  | none => none
def jm_iald (M : jm_M) (pc : Nat) (ls : List (Option jm_V)) (st : List jm_V) (σ : jm_S) : jm_A := jm_ix st fun i k r st => match jm_sh k with
  | (1, n) => jm_if (jm_in3 i n) (M, pc, ls, jm_I (σ.1 k r i.toNatClampNeg) :: st, σ)
  | (5, n) => jm_if (jm_in3 i n) (M, pc, ls, jm_I ((jm_tb k).getD i.toNatClampNeg 0) :: st, σ)
  | _ => none
def jm_lald (M : jm_M) (pc : Nat) (ls : List (Option jm_V)) (st : List jm_V) (σ : jm_S) : jm_A := jm_ix st fun i k r st => match jm_sh k with
  | (2, n) => jm_if (jm_in3 i n) (M, pc, ls, jm_L (σ.2 k r i.toNatClampNeg) :: st, σ)
  | _ => none
def jm_zald (M : jm_M) (pc : Nat) (ls : List (Option jm_V)) (st : List jm_V) (σ : jm_S) : jm_A := jm_ix st fun i k r st => match jm_sh k with
  | (3, n) => jm_if (jm_in3 i n) (M, pc, ls, jm_I (σ.1 k r i.toNatClampNeg) :: st, σ)
  | _ => none
def jm_aald (M : jm_M) (pc : Nat) (ls : List (Option jm_V)) (st : List jm_V) (σ : jm_S) : jm_A := jm_ix st fun i k r st => match jm_sh k with
  | (4, n) => jm_if (jm_in3 i n) (M, pc, ls, .inr (jm_ra k r i.toNatClampNeg) :: st, σ)
  | _ => none
def jm_iast (M : jm_M) (pc : Nat) (ls : List (Option jm_V)) (st : List jm_V) (σ : jm_S) : jm_A := jm_p1 st fun x st => jm_ix st fun i k r st => match jm_sh k with
  | (1, n) => jm_if (jm_in3 i n) (M, pc, ls, st, jm_wi σ k r i.toNatClampNeg x)
  | _ => none
def jm_last (M : jm_M) (pc : Nat) (ls : List (Option jm_V)) (st : List jm_V) (σ : jm_S) : jm_A := jm_q1 st fun x st => jm_ix st fun i k r st => match jm_sh k with
  | (2, n) => jm_if (jm_in3 i n) (M, pc, ls, st, jm_wj σ k r i.toNatClampNeg x)
  | _ => none
def jm_zast (M : jm_M) (pc : Nat) (ls : List (Option jm_V)) (st : List jm_V) (σ : jm_S) : jm_A := jm_p1 st fun x st => jm_ix st fun i k r st => match jm_sh k with
  | (3, n) => jm_if (jm_in3 i n) (M, pc, ls, st, jm_wi σ k r i.toNatClampNeg (vp_nar .boolean x))
  | _ => none
def jm_slots : List jm_V → Nat := jm_cats
def jm_callv (M : jm_M) (pc : Nat) (ls : List (Option jm_V)) (st : List jm_V) (σ : jm_S) (ix : Nat) : jm_A := match jm_lk2 jm_cvL M.1 ix with
  | some (M', n) => match jm_take n [] st with
    | some (as, st) => jm_pr st fun k r st => match jm_sh k with
      | (0, cj) => match Nat.beq cj M'.1, Nat.ble (jm_cats (jm_R k r :: as)) M'.2.2.1, Nat.ble (jm_cats st) 8 with
        | true, true, true => some (.inr (.inr (M', jm_R k r :: as, (M, pc, ls, st, σ))))
        | _, _, _ => none
      | _ => none
    | none => none
  | none => none
def jm_math (M : jm_M) (pc : Nat) (ls : List (Option jm_V)) (st : List jm_V) (σ : jm_S) (w : Nat) : jm_A := match w with
  | 10 => jm_p1 st fun x st => match Nat.ble (jm_cats st) 8 with
    | true => jm_go (M, pc, ls, jm_I (if 0 ≤ x then x else 0 - x) :: st, σ)
    | false => none
  | 11 => jm_p2 st fun x y st => match Nat.ble (jm_cats st) 8 with
    | true => jm_go (M, pc, ls, jm_I (if y < x then y else x) :: st, σ)
    | false => none
  | 12 => jm_p2 st fun x y st => match Nat.ble (jm_cats st) 8 with
    | true => jm_go (M, pc, ls, jm_I (if x < y then y else x) :: st, σ)
    | false => none
  | 13 => match st with
    | .inl (.inl n) :: .inl (.inl dp) :: .inr (k1, r1) :: .inl (.inl sp) :: .inr (k0, r0) :: st => match jm_sh k0, jm_sh k1, Nat.ble (jm_cats st) 8 with
      | (1, n0), (1, n1), true => jm_if (decide (¬ sp < 0 ∧ ¬ dp < 0 ∧ ¬ n < 0 ∧ sp.toNatClampNeg + n.toNatClampNeg ≤ n0 ∧ dp.toNatClampNeg + n.toNatClampNeg ≤ n1)) (M, pc, ls, st, jm_wc σ k1 r1 k0 r0 sp.toNatClampNeg dp.toNatClampNeg n.toNatClampNeg)
      | _, _, _ => none
    | _ => none
  | _ => none
def jm_calls (M : jm_M) (pc : Nat) (ls : List (Option jm_V)) (st : List jm_V) (σ : jm_S) (ix : Nat) : jm_A := match jm_lk2 jm_csL M.1 ix with
  | some (M', n) => match jm_take n [] st with
    | some (as, st) => match Nat.ble (jm_cats as) M'.2.2.1, Nat.ble (jm_cats st) 8 with
      | true, true => some (.inr (.inr (M', as, (M, pc, ls, st, σ))))
      | _, _ => none
    | none => none
  | none => match jm_lk2 jm_imL M.1 ix with
    | some w => jm_math M pc ls st σ w
    | none => none
def jm_dup (M : jm_M) (pc : Nat) (ls : List (Option jm_V)) (st : List jm_V) (σ : jm_S) : jm_A := match st with
  | .inl (.inl x) :: st => jm_go (M, pc, ls, jm_I x :: jm_I x :: st, σ)
  | .inr q :: st => jm_go (M, pc, ls, .inr q :: .inr q :: st, σ)
  | _ => none
def jm_dup2 (M : jm_M) (pc : Nat) (ls : List (Option jm_V)) (st : List jm_V) (σ : jm_S) : jm_A := match st with
  | .inl (.inr x) :: st => jm_go (M, pc, ls, jm_L x :: jm_L x :: st, σ)
  | .inl (.inl x) :: .inr q :: st => jm_go (M, pc, ls, jm_I x :: .inr q :: jm_I x :: .inr q :: st, σ)
  | _ => none
def jm_ret (M : jm_M) (st : List jm_V) (σ : jm_S) : jm_A := match st with
  | [.inl (.inl x)] => some (.inr (.inl (cond M.2.2.2 (jm_b01 x) true, (some (jm_I x), σ))))
  | _ => none
def jm_act (f : jm_F) : jm_A := match f with
  | (M, pc, ls, st, σ) => match jm_lk M.2.1 pc with
    | none => none
    | some (i, n) => match i with
      | .iconst c => jm_go (M, pc + n, ls, jm_I (Int32.ofInt c) :: st, σ)
      | .bipush c => jm_go (M, pc + n, ls, jm_I (Int8.ofInt c).toInt32 :: st, σ)
      | .sipush c => jm_go (M, pc + n, ls, jm_I (Int16.ofInt c).toInt32 :: st, σ)
      | .lconst c => jm_go (M, pc + n, ls, jm_L (Int64.ofNat (c : Nat)) :: st, σ)
      | .ldc ix => match jm_lk2 jm_kiL M.1 ix with
        | some v => jm_go (M, pc + n, ls, jm_I v :: st, σ)
        | none => none
      | .ldc_w ix => match jm_lk2 jm_kiL M.1 ix with
        | some v => jm_go (M, pc + n, ls, jm_I v :: st, σ)
        | none => none
      | .ldc2_w ix => match jm_lk2 jm_klL M.1 ix with
        | some v => jm_go (M, pc + n, ls, jm_L v :: st, σ)
        | none => none
      | .iload_n k => jm_ild M (pc + n) ls st σ k
      | .iload k => jm_ild M (pc + n) ls st σ k
      | .lload_n k => jm_lld M (pc + n) ls st σ k
      | .lload k => jm_lld M (pc + n) ls st σ k
      | .aload_n k => jm_ald M (pc + n) ls st σ k
      | .aload k => jm_ald M (pc + n) ls st σ k
      | .istore_n k => jm_ist M (pc + n) ls st σ k
      | .istore k => jm_ist M (pc + n) ls st σ k
      | .lstore_n k => jm_lst M (pc + n) ls st σ k
      | .lstore k => jm_lst M (pc + n) ls st σ k
      | .iinc k c => jm_inc M (pc + n) ls st σ k c
      | .iadd => jm_p2 st fun x y st => jm_go (M, pc + n, ls, jm_I (x + y) :: st, σ)
      | .isub => jm_p2 st fun x y st => jm_go (M, pc + n, ls, jm_I (x - y) :: st, σ)
      | .imul => jm_p2 st fun x y st => jm_go (M, pc + n, ls, jm_I (x * y) :: st, σ)
      | .iand => jm_p2 st fun x y st => jm_go (M, pc + n, ls, jm_I (x &&& y) :: st, σ)
      | .ior => jm_p2 st fun x y st => jm_go (M, pc + n, ls, jm_I (x ||| y) :: st, σ)
      | .ishl => jm_p2 st fun x y st => jm_go (M, pc + n, ls, jm_I (x <<< (y &&& 31)) :: st, σ)
      | .ishr => jm_p2 st fun x y st => jm_go (M, pc + n, ls, jm_I (x >>> (y &&& 31)) :: st, σ)
      | .idiv => jm_p2 st fun x y st => jm_if (decide (¬ y = 0)) (M, pc + n, ls, jm_I (x / y) :: st, σ)
      | .ineg => jm_p1 st fun x st => jm_go (M, pc + n, ls, jm_I (-x) :: st, σ)
      | .ladd => jm_q2 st fun x y st => jm_go (M, pc + n, ls, jm_L (x + y) :: st, σ)
      | .lsub => jm_q2 st fun x y st => jm_go (M, pc + n, ls, jm_L (x - y) :: st, σ)
      | .lmul => jm_q2 st fun x y st => jm_go (M, pc + n, ls, jm_L (x * y) :: st, σ)
      | .land => jm_q2 st fun x y st => jm_go (M, pc + n, ls, jm_L (x &&& y) :: st, σ)
      | .lxor => jm_q2 st fun x y st => jm_go (M, pc + n, ls, jm_L (x ^^^ y) :: st, σ)
      | .ldiv => jm_q2 st fun x y st => jm_if (decide (¬ y = 0)) (M, pc + n, ls, jm_L (x / y) :: st, σ)
      | .lrem => jm_q2 st fun x y st => jm_if (decide (¬ y = 0)) (M, pc + n, ls, jm_L (x - x / y * y) :: st, σ)
      | .lcmp => jm_q2 st fun x y st => jm_go (M, pc + n, ls, jm_I (lg_cmp x y) :: st, σ)
      | .i2l => jm_p1 st fun x st => jm_go (M, pc + n, ls, jm_L x.toInt64 :: st, σ)
      | .l2i => jm_q1 st fun x st => jm_go (M, pc + n, ls, jm_I x.toInt32 :: st, σ)
      | .i2b => jm_p1 st fun x st => jm_go (M, pc + n, ls, jm_I x.toInt8.toInt32 :: st, σ)
      | .i2s => jm_p1 st fun x st => jm_go (M, pc + n, ls, jm_I x.toInt16.toInt32 :: st, σ)
      | .dup => jm_dup M (pc + n) ls st σ
      | .dup2 => jm_dup2 M (pc + n) ls st σ
      | .goto off => jm_go (M, jm_tg pc off, ls, st, σ)
      | .ifCond c off => jm_p1 st fun x st => jm_br (jm_cmp c x 0) (M, jm_tg pc off, ls, st, σ) (M, pc + n, ls, st, σ)
      | .if_icmp c off => jm_p2 st fun x y st => jm_br (jm_cmp c x y) (M, jm_tg pc off, ls, st, σ) (M, pc + n, ls, st, σ)
      | .tableswitch d lo _ offs => jm_p1 st fun x st => some (.inl (jm_ts M pc ls st σ x.toInt lo offs.toList, some (M, jm_tg pc d, ls, st, σ)))
      | .lookupswitch d ps => jm_p1 st fun x st => some (.inl (jm_ls M pc ls st σ x.toInt ps.toList, some (M, jm_tg pc d, ls, st, σ)))
      | .getfield ix => jm_getf M (pc + n) ls st σ ix
      | .putfield ix => jm_putf M (pc + n) ls st σ ix
      | .getstatic ix => match jm_lk2 jm_gsL M.1 ix with
        | some k => jm_go (M, pc + n, ls, jm_R (40 + k) 0 :: st, σ)
        | none => none
      | .iaload => jm_iald M (pc + n) ls st σ
      | .laload => jm_lald M (pc + n) ls st σ
      | .baload => jm_zald M (pc + n) ls st σ
      | .aaload => jm_aald M (pc + n) ls st σ
      | .iastore => jm_iast M (pc + n) ls st σ
      | .lastore => jm_last M (pc + n) ls st σ
      | .bastore => jm_zast M (pc + n) ls st σ
      | .invokevirtual ix => jm_callv M (pc + n) ls st σ ix
      | .invokestatic ix => jm_calls M (pc + n) ls st σ ix
      | .ireturn => jm_ret M st σ
      | .lreturn => match st with
        | [.inl (.inr x)] => some (.inr (.inl (true, (some (jm_L x), σ))))
        | _ => none
      | .areturn => match st with
        | [.inr q] => some (.inr (.inl (true, (some (.inr q), σ))))
        | _ => none
      | .return_ => match st with
        | [] => some (.inr (.inl (true, (none, σ))))
        | _ => none
      | _ => none
def jm_sel {β : Type} (k : jm_F → Option β) : List (Bool × jm_F) → Option jm_F → Option β
  | [], some f => k f
  | [], none => none
  | (b, f) :: l, o => cond b (k f) (jm_sel k l o)
def jm_en (M : jm_M) (as : List jm_V) (σ : jm_S) : jm_F := (M, 0, jm_lo as M.2.2.1, [], σ)
def jm_psh (g : jm_F) (r : jm_Rs) : jm_F := match r with
  | (some v, σ) => (g.1, g.2.1, g.2.2.1, v :: g.2.2.2.1, σ)
  | (none, σ) => (g.1, g.2.1, g.2.2.1, g.2.2.2.1, σ)
def jm_cal (rec : Nat → jm_F → Option jm_Rs) (d : Nat) (M : jm_M) (as : List jm_V) (σ : jm_S) : Option jm_Rs := match d with
  | 0 => none
  | d + 1 => rec d (jm_en M as σ)
def jm_ex (rec : Nat → jm_F → Option jm_Rs) (d : Nat) (f : jm_F) : Option jm_Rs := match jm_act f with
  | none => none
  | some (.inl (l, o)) => jm_sel (rec d) l o
  | some (.inr (.inl (b, r))) => cond b (some r) none
  | some (.inr (.inr (M, as, g))) => (jm_cal rec d M as g.2.2.2.2).bind fun r => rec d (jm_psh g r)
def jm_run : Nat → Nat → jm_F → Option jm_Rs
  | 0, _, _ => none
  | n + 1, d, f => jm_ex (jm_run n) d f
end
section
-- the meaning without fuel; unrolling
theorem jm_sel_mono {β : Type} {k k' : jm_F → Option β} (h : ∀ f r, k f = some r → k' f = some r) : ∀ (l : List (Bool × jm_F)) (o : Option jm_F) (r : β), jm_sel k l o = some r → jm_sel k' l o = some r
  | [], some f, r, e => h f r e
  | [], none, r, e => by cases e
  | (b, f) :: l, o, r, e => by
    cases b with
    | true => exact h f r e
    | false => exact jm_sel_mono h l o r e
theorem jm_cal_mono {k k' : Nat → jm_F → Option jm_Rs} (h : ∀ d f r, k d f = some r → k' d f = some r) (d : Nat) (M : jm_M) (as : List jm_V) (σ : jm_S) (r : jm_Rs) (e : jm_cal k d M as σ = some r) : jm_cal k' d M as σ = some r := by
  cases d with
  | zero => cases e
  | succ d => exact h _ _ _ e
theorem jm_ex_mono {k k' : Nat → jm_F → Option jm_Rs} (h : ∀ d f r, k d f = some r → k' d f = some r) (d : Nat) (f : jm_F) (r : jm_Rs) (e : jm_ex k d f = some r) : jm_ex k' d f = some r := by
  unfold jm_ex at e ⊢
  generalize jm_act f = a at e ⊢
  match a, e with
  | none, e => cases e
  | some (.inl (l, o)), e => exact jm_sel_mono (h d) l o r e
  | some (.inr (.inl (b, q))), e => exact e
  | some (.inr (.inr (M, as, g))), e =>
    obtain ⟨q, h1, h2⟩ := Option.bind_eq_some_iff.mp e
    show (jm_cal k' d _ _ _).bind _ = some r
    rw [jm_cal_mono h _ _ _ _ _ h1]
    exact h _ _ _ h2
theorem jm_run_succ : ∀ (n d : Nat) (f : jm_F) (r : jm_Rs), jm_run n d f = some r → jm_run (n + 1) d f = some r
  | 0, _, _, _, e => by cases e
  | n + 1, d, f, r, e => jm_ex_mono (fun d f r => jm_run_succ n d f r) d f r e
theorem jm_run_le {n m : Nat} (hm : n ≤ m) {d : Nat} {f : jm_F} {r : jm_Rs} (e : jm_run n d f = some r) : jm_run m d f = some r := by
  induction hm with
  | refl => exact e
  | step _ ih => exact jm_run_succ _ _ _ _ ih
theorem jm_run_det {n m d : Nat} {f : jm_F} {r q : jm_Rs} (e : jm_run n d f = some r) (e' : jm_run m d f = some q) : r = q := by
  have h1 := jm_run_le (Nat.le_max_left n m) e
  have h2 := jm_run_le (Nat.le_max_right n m) e'
  exact Option.some.inj (h1.symm.trans h2)
noncomputable def jm_ev (d : Nat) (f : jm_F) : Option jm_Rs := by
  classical exact if h : ∃ r n, jm_run n d f = some r then some h.choose else none
theorem jm_ev_iff {d : Nat} {f : jm_F} {r : jm_Rs} : jm_ev d f = some r ↔ ∃ n, jm_run n d f = some r := by
  unfold jm_ev
  constructor
  · intro e
    split at e
    · next h =>
      obtain ⟨n, hn⟩ := h.choose_spec
      cases e
      exact ⟨n, hn⟩
    · cases e
  · intro ⟨n, hn⟩
    have h : ∃ r n, jm_run n d f = some r := ⟨r, n, hn⟩
    rw [dif_pos h]
    obtain ⟨m, hm⟩ := h.choose_spec
    rw [jm_run_det hm hn]
theorem jm_opt {α : Type} {a b : Option α} (h : ∀ r, a = some r ↔ b = some r) : a = b := by
  cases a with
  | none => cases b with
    | none => rfl
    | some y => exact (h y).mpr rfl
  | some x => exact ((h x).mp rfl).symm
theorem jm_sel_fin {d : Nat} : ∀ (l : List (Bool × jm_F)) (o : Option jm_F) (r : jm_Rs), jm_sel (jm_ev d) l o = some r → ∃ n, jm_sel (jm_run n d) l o = some r
  | [], some f, r, e => jm_ev_iff.mp e
  | [], none, r, e => by cases e
  | (b, f) :: l, o, r, e => by
    cases b with
    | true => exact jm_ev_iff.mp e
    | false => exact jm_sel_fin l o r e
theorem jm_ev_eq (d : Nat) (f : jm_F) : jm_ev d f = jm_ex jm_ev d f := by
  refine jm_opt fun r => ⟨fun e => ?_, fun e => ?_⟩
  · obtain ⟨n, hn⟩ := jm_ev_iff.mp e
    have h1 := jm_run_succ n d f r hn
    exact jm_ex_mono (fun d f r h => jm_ev_iff.mpr ⟨n, h⟩) d f r h1
  · refine jm_ev_iff.mpr ?_
    unfold jm_ex at e
    split at e
    · cases e
    · next heq =>
      obtain ⟨n, hn⟩ := jm_sel_fin _ _ _ e
      exact ⟨n + 1, by show jm_ex _ _ _ = _; unfold jm_ex; rw [heq]; exact hn⟩
    · next heq => exact ⟨1, by show jm_ex _ _ _ = _; unfold jm_ex; rw [heq]; exact e⟩
    · next M as g heq =>
      obtain ⟨q, h1, h2⟩ := Option.bind_eq_some_iff.mp e
      obtain ⟨n2, h2⟩ := jm_ev_iff.mp h2
      cases d with
      | zero => cases h1
      | succ d =>
        obtain ⟨n1, h1⟩ := jm_ev_iff.mp (h1 : jm_ev d (jm_en M as g.2.2.2.2) = some q)
        refine ⟨max n1 n2 + 1, ?_⟩
        show jm_ex _ _ _ = _
        unfold jm_ex
        rw [heq]
        show (jm_run (max n1 n2) d (jm_en M as g.2.2.2.2)).bind _ = some r
        rw [jm_run_le (Nat.le_max_left n1 n2) h1]
        exact jm_run_le (Nat.le_max_right n1 n2) h2
/-- a call, without fuel -/
noncomputable def jm_call (d : Nat) (M : jm_M) (as : List jm_V) (σ : jm_S) : Option jm_Rs := jm_cal jm_ev d M as σ
theorem jm_call_succ (d : Nat) (M : jm_M) (as : List jm_V) (σ : jm_S) : jm_call (d + 1) M as σ = jm_ev d (jm_en M as σ) := rfl
def jm_elem : List Nat → Nat → Bool
  | [], _ => false
  | a :: l, b => match Nat.beq a b with
    | true => true
    | false => jm_elem l b
/-- unrolled: stops at the places of 'ss' -/
noncomputable def jm_un (ss : List Nat) (d : Nat) : Nat → jm_F → Option jm_Rs
  | 0, f => jm_ev d f
  | n + 1, f => match jm_act f with
    | none => none
    | some (.inl (l, o)) => jm_sel (fun g => match jm_elem ss g.2.1 with
      | true => jm_ev d g
      | false => jm_un ss d n g) l o
    | some (.inr (.inl (b, r))) => cond b (some r) none
    | some (.inr (.inr (M, as, g))) => (jm_call d M as g.2.2.2.2).bind fun r => jm_ev d (jm_psh g r)
theorem jm_sel_congr {β : Type} {k k' : jm_F → Option β} (h : ∀ f, k f = k' f) : ∀ (l : List (Bool × jm_F)) (o : Option jm_F), jm_sel k l o = jm_sel k' l o
  | [], some f => h f
  | [], none => rfl
  | (b, f) :: l, o => by
    show cond b (k f) (jm_sel k l o) = cond b (k' f) (jm_sel k' l o)
    rw [h f, jm_sel_congr h l o]
theorem jm_un_eq (ss : List Nat) (d : Nat) : ∀ (n : Nat) (f : jm_F), jm_ev d f = jm_un ss d n f
  | 0, f => rfl
  | n + 1, f => by
    have ih := jm_un_eq ss d n
    rw [jm_ev_eq]
    unfold jm_ex jm_un
    generalize jm_act f = a
    match a with
    | none => rfl
    | some (.inl (l, o)) =>
      refine jm_sel_congr (fun g => ?_) l o
      split
      · rfl
      · exact ih g
    | some (.inr (.inl (b, r))) => rfl
    | some (.inr (.inr (M, as, g))) => rfl
end
section
-- what each stretch of code does
theorem gA_forgetAll_0 (d : Nat) (σ : jm_S) : jm_call (d + 1) jA_forgetAll [jm_R 10 0] σ = some (none, jm_wi σ 10 0 3 (0 : Int32)) := (jm_un_eq [0] d 5 (jA_forgetAll, 0, [some (jm_R 10 0)], [], σ)).trans rfl
theorem gA_keep_0 (d : Nat) (σ : jm_S) (x1 x2 x3 : Int32) : jm_call (d + 1) jA_keep [jm_R 10 0, jm_I x1, jm_I x2, jm_I x3] σ = cond (decide (¬ σ.1 10 0 3 = (24 : Int32))) (jm_ev d (jA_keep, 13, [some (jm_R 10 0), some (jm_I x1), some (jm_I x2), some (jm_I x3)], [], σ)) ((jm_call d jA_forgetOldest [jm_R 10 0] σ).bind fun q => jm_ev d (jm_psh (jA_keep, 13, [some (jm_R 10 0), some (jm_I x1), some (jm_I x2), some (jm_I x3)], [], σ) q)) := (jm_un_eq [0, 13] d 7 (jA_keep, 0, [some (jm_R 10 0), some (jm_I x1), some (jm_I x2), some (jm_I x3)], [], σ)).trans rfl
theorem gA_keep_13 (d : Nat) (σ : jm_S) (x1 x2 x3 : Int32) : jm_ev d (jA_keep, 13, [some (jm_R 10 0), some (jm_I x1), some (jm_I x2), some (jm_I x3)], [], σ) = cond (jm_in3 (σ.1 10 0 3) 24) (cond (jm_in3 (σ.1 10 0 3) 24) (cond (jm_in3 (σ.1 10 0 3) 24) (some (none, jm_wi (jm_wi (jm_wi (jm_wi σ 11 0 ((σ.1 10 0 3).toNatClampNeg) x1) 12 0 ((σ.1 10 0 3).toNatClampNeg) x2) 13 0 ((σ.1 10 0 3).toNatClampNeg) x3) 10 0 3 ((σ.1 10 0 3) + (1 : Int32)))) (none)) (none)) (none) := (jm_un_eq [0, 13] d 26 _).trans rfl
theorem gA_forgetOldest_0 (d : Nat) (σ : jm_S) : jm_call (d + 1) jA_forgetOldest [jm_R 10 0] σ = some (none, jm_wc (jm_wc (jm_wc (jm_wi σ 10 0 3 (23 : Int32)) 11 0 11 0 1 0 23) 12 0 12 0 1 0 23) 13 0 13 0 1 0 23) := (jm_un_eq [0] d 32 (jA_forgetOldest, 0, [some (jm_R 10 0)], [], σ)).trans rfl
theorem gA_takeBack_0 (d : Nat) (σ : jm_S) (r1 : Nat) : jm_call (d + 1) jA_takeBack [jm_R 10 0, jm_R 7 r1] σ = cond (decide (0 < σ.1 10 0 3)) (cond (jm_in3 ((σ.1 10 0 3) - (1 : Int32)) 24) (cond (decide (¬ σ.1 11 0 (((σ.1 10 0 3) - (1 : Int32)).toNatClampNeg) = (4 : Int32))) (cond (decide (¬ σ.1 11 0 (((σ.1 10 0 3) - (1 : Int32)).toNatClampNeg) = (5 : Int32))) (jm_ev d (jA_takeBack, 96, [some (jm_R 10 0), some (jm_R 7 r1), some (jm_I (σ.1 11 0 (((σ.1 10 0 3) - (1 : Int32)).toNatClampNeg)))], [], jm_wi σ 10 0 3 ((σ.1 10 0 3) - (1 : Int32)))) (cond (jm_in3 ((σ.1 10 0 3) - (1 : Int32)) 24) ((jm_call d jS_has [jm_R 7 r1, jm_I (σ.1 13 0 (((σ.1 10 0 3) - (1 : Int32)).toNatClampNeg))] (jm_wi σ 10 0 3 ((σ.1 10 0 3) - (1 : Int32)))).bind fun q => jm_ev d (jm_psh (jA_takeBack, 68, [some (jm_R 10 0), some (jm_R 7 r1), some (jm_I (σ.1 11 0 (((σ.1 10 0 3) - (1 : Int32)).toNatClampNeg)))], [], jm_wi σ 10 0 3 ((σ.1 10 0 3) - (1 : Int32))) q)) (none))) (cond (jm_in3 ((σ.1 10 0 3) - (1 : Int32)) 24) (jm_ev d (jA_takeBack, 146, [some (jm_R 10 0), some (jm_R 7 r1), some (jm_I (σ.1 11 0 (((σ.1 10 0 3) - (1 : Int32)).toNatClampNeg)))], [], jm_wi (jm_wi σ 10 0 3 ((σ.1 10 0 3) - (1 : Int32))) 7 r1 2 (σ.1 13 0 (((σ.1 10 0 3) - (1 : Int32)).toNatClampNeg)))) (none))) (none)) (some (some (jm_I (0 : Int32)), σ)) := (jm_un_eq [0, 68, 93, 96, 118, 146] d 29 (jA_takeBack, 0, [some (jm_R 10 0), some (jm_R 7 r1), none], [], σ)).trans rfl
theorem gA_takeBack_68 (d : Nat) (σ : jm_S) (r1 : Nat) (x2 xs0 : Int32) : jm_ev d (jA_takeBack, 68, [some (jm_R 10 0), some (jm_R 7 r1), some (jm_I x2)], [jm_I xs0], σ) = cond (decide (xs0 = 0)) (jm_ev d (jA_takeBack, 96, [some (jm_R 10 0), some (jm_R 7 r1), some (jm_I x2)], [], σ)) (cond (jm_in3 (σ.1 10 0 3) 24) (cond (jm_in3 (σ.1 10 0 3) 24) ((jm_call d jS_exchange [jm_R 7 r1, jm_I (σ.1 12 0 ((σ.1 10 0 3).toNatClampNeg)), jm_I (σ.1 13 0 ((σ.1 10 0 3).toNatClampNeg))] σ).bind fun q => jm_ev d (jm_psh (jA_takeBack, 93, [some (jm_R 10 0), some (jm_R 7 r1), some (jm_I x2)], [], σ) q)) (none)) (none)) := (jm_un_eq [0, 68, 93, 96, 118, 146] d 14 _).trans rfl
theorem gA_takeBack_93 (d : Nat) (σ : jm_S) (r1 : Nat) (x2 : Int32) : jm_ev d (jA_takeBack, 93, [some (jm_R 10 0), some (jm_R 7 r1), some (jm_I x2)], [], σ) = jm_ev d (jA_takeBack, 146, [some (jm_R 10 0), some (jm_R 7 r1), some (jm_I x2)], [], σ) := (jm_un_eq [0, 68, 93, 96, 118, 146] d 2 _).trans rfl
theorem gA_takeBack_96 (d : Nat) (σ : jm_S) (r1 : Nat) (x2 : Int32) : jm_ev d (jA_takeBack, 96, [some (jm_R 10 0), some (jm_R 7 r1), some (jm_I x2)], [], σ) = cond (decide (x2 < 0)) (jm_ev d (jA_takeBack, 146, [some (jm_R 10 0), some (jm_R 7 r1), some (jm_I x2)], [], σ)) (cond (decide ((4 : Int32) ≤ x2)) (jm_ev d (jA_takeBack, 146, [some (jm_R 10 0), some (jm_R 7 r1), some (jm_I x2)], [], σ)) (cond (jm_in3 (σ.1 10 0 3) 24) ((jm_call d jS_has [jm_R 7 r1, jm_I (σ.1 12 0 ((σ.1 10 0 3).toNatClampNeg))] σ).bind fun q => jm_ev d (jm_psh (jA_takeBack, 118, [some (jm_R 10 0), some (jm_R 7 r1), some (jm_I x2)], [], σ) q)) (none))) := (jm_un_eq [0, 68, 93, 96, 118, 146] d 13 _).trans rfl
theorem gA_takeBack_118 (d : Nat) (σ : jm_S) (r1 : Nat) (x2 xs0 : Int32) : jm_ev d (jA_takeBack, 118, [some (jm_R 10 0), some (jm_R 7 r1), some (jm_I x2)], [jm_I xs0], σ) = cond (decide (xs0 = 0)) (jm_ev d (jA_takeBack, 146, [some (jm_R 10 0), some (jm_R 7 r1), some (jm_I x2)], [], σ)) (cond (jm_in3 x2 4) (cond (jm_in3 (σ.1 10 0 3) 24) (cond (jm_in3 (σ.1 10 0 3) 24) (cond (jm_in3 (σ.1 12 0 ((σ.1 10 0 3).toNatClampNeg)) 6) (jm_ev d (jA_takeBack, 146, [some (jm_R 10 0), some (jm_R 7 r1), some (jm_I x2)], [], jm_wi σ 9 (4 * r1 + x2.toNatClampNeg) ((σ.1 12 0 ((σ.1 10 0 3).toNatClampNeg)).toNatClampNeg) (σ.1 13 0 ((σ.1 10 0 3).toNatClampNeg)))) (none)) (none)) (none)) (none)) := (jm_un_eq [0, 68, 93, 96, 118, 146] d 17 _).trans rfl
theorem gA_takeBack_146 (d : Nat) (σ : jm_S) (r1 : Nat) (x2 : Int32) : jm_ev d (jA_takeBack, 146, [some (jm_R 10 0), some (jm_R 7 r1), some (jm_I x2)], [], σ) = some (some (jm_I (1 : Int32)), σ) := (jm_un_eq [0, 68, 93, 96, 118, 146] d 3 _).trans rfl
theorem gR_takes_0 (d : Nat) (σ : jm_S) (x1 : Int32) : jm_call (d + 1) jR_takes [jm_R 5 0, jm_I x1] σ = cond (decide (σ.1 5 0 1 < (80 : Int32))) (cond (jm_in3 (σ.1 5 0 1) 80) (some (some (jm_I (1 : Int32)), jm_wi (jm_wi σ 6 0 ((σ.1 5 0 1).toNatClampNeg) x1) 5 0 1 ((σ.1 5 0 1) + (1 : Int32)))) (none)) (some (some (jm_I (0 : Int32)), σ)) := (jm_un_eq [0] d 19 (jR_takes, 0, [some (jm_R 5 0), some (jm_I x1)], [], σ)).trans rfl
theorem gR_reads_0 (d : Nat) (σ : jm_S) (r1 : Nat) : jm_call (d + 1) jR_reads [jm_R 5 0, jm_R 7 r1] σ = (jm_call d jR_readsLaw [jm_R 5 0, jm_R 7 r1] (jm_wi σ 5 0 2 (0 : Int32))).bind fun q => jm_ev d (jm_psh (jR_reads, 10, [some (jm_R 5 0), some (jm_R 7 r1)], [], jm_wi σ 5 0 2 (0 : Int32)) q) := (jm_un_eq [0, 10, 18, 25, 26] d 7 (jR_reads, 0, [some (jm_R 5 0), some (jm_R 7 r1)], [], σ)).trans rfl
theorem gR_reads_10 (d : Nat) (σ : jm_S) (r1 : Nat) (xs0 : Int32) : jm_ev d (jR_reads, 10, [some (jm_R 5 0), some (jm_R 7 r1)], [jm_I xs0], σ) = cond (decide (xs0 = 0)) (jm_ev d (jR_reads, 25, [some (jm_R 5 0), some (jm_R 7 r1)], [], σ)) ((jm_call d jR_readsDiscs [jm_R 5 0, jm_R 7 r1] σ).bind fun q => jm_ev d (jm_psh (jR_reads, 18, [some (jm_R 5 0), some (jm_R 7 r1)], [], σ) q)) := (jm_un_eq [0, 10, 18, 25, 26] d 5 _).trans rfl
theorem gR_reads_18 (d : Nat) (σ : jm_S) (r1 : Nat) (xs0 : Int32) : jm_ev d (jR_reads, 18, [some (jm_R 5 0), some (jm_R 7 r1)], [jm_I xs0], σ) = cond (decide (xs0 = 0)) (jm_ev d (jR_reads, 25, [some (jm_R 5 0), some (jm_R 7 r1)], [], σ)) (jm_ev d (jR_reads, 26, [some (jm_R 5 0), some (jm_R 7 r1)], [jm_I (1 : Int32)], σ)) := (jm_un_eq [0, 10, 18, 25, 26] d 4 _).trans rfl
theorem gR_reads_25 (d : Nat) (σ : jm_S) (r1 : Nat) : jm_ev d (jR_reads, 25, [some (jm_R 5 0), some (jm_R 7 r1)], [], σ) = jm_ev d (jR_reads, 26, [some (jm_R 5 0), some (jm_R 7 r1)], [jm_I (0 : Int32)], σ) := (jm_un_eq [0, 10, 18, 25, 26] d 2 _).trans rfl
theorem gR_reads_26 (d : Nat) (σ : jm_S) (r1 : Nat) (xs0 : Int32) : jm_ev d (jR_reads, 26, [some (jm_R 5 0), some (jm_R 7 r1)], [jm_I xs0], σ) = cond (jm_b01 xs0) (some (some (jm_I xs0), σ)) none := (jm_un_eq [0, 10, 18, 25, 26] d 2 _).trans rfl
theorem gR_readsLaw_0 (d : Nat) (σ : jm_S) (r1 : Nat) : jm_call (d + 1) jR_readsLaw [jm_R 5 0, jm_R 7 r1] σ = (jm_call d jR_readsSign [jm_R 5 0, jm_I (109 : Int32)] σ).bind fun q => jm_ev d (jm_psh (jR_readsLaw, 6, [some (jm_R 5 0), some (jm_R 7 r1), none], [], σ) q) := (jm_un_eq [0, 6, 16, 19, 35, 53, 56, 74] d 4 (jR_readsLaw, 0, [some (jm_R 5 0), some (jm_R 7 r1), none], [], σ)).trans rfl
theorem gR_readsLaw_6 (d : Nat) (σ : jm_S) (r1 : Nat) (xs0 : Int32) : jm_ev d (jR_readsLaw, 6, [some (jm_R 5 0), some (jm_R 7 r1), none], [jm_I xs0], σ) = cond (decide (xs0 = 0)) (jm_ev d (jR_readsLaw, 19, [some (jm_R 5 0), some (jm_R 7 r1), none], [], σ)) ((jm_call d jR_readsNumber [jm_R 5 0, jm_I (0 : Int32), jm_I (20 : Int32)] σ).bind fun q => jm_ev d (jm_psh (jR_readsLaw, 16, [some (jm_R 5 0), some (jm_R 7 r1), none], [], σ) q)) := (jm_un_eq [0, 6, 16, 19, 35, 53, 56, 74] d 6 _).trans rfl
theorem gR_readsLaw_16 (d : Nat) (σ : jm_S) (r1 : Nat) (xs0 : Int32) : jm_ev d (jR_readsLaw, 16, [some (jm_R 5 0), some (jm_R 7 r1), none], [jm_I xs0], σ) = cond (decide (¬ xs0 = 0)) ((jm_call d jR_readsSign [jm_R 5 0, jm_I (44 : Int32)] σ).bind fun q => jm_ev d (jm_psh (jR_readsLaw, 35, [some (jm_R 5 0), some (jm_R 7 r1), some (jm_I ((10 : Int32) * (σ.1 5 0 3)))], [], σ) q)) (jm_ev d (jR_readsLaw, 19, [some (jm_R 5 0), some (jm_R 7 r1), none], [], σ)) := (jm_un_eq [0, 6, 16, 19, 35, 53, 56, 74] d 10 _).trans rfl
theorem gR_readsLaw_19 (d : Nat) (σ : jm_S) (r1 : Nat) : jm_ev d (jR_readsLaw, 19, [some (jm_R 5 0), some (jm_R 7 r1), none], [], σ) = some (some (jm_I (0 : Int32)), σ) := (jm_un_eq [0, 6, 16, 19, 35, 53, 56, 74] d 3 _).trans rfl
theorem gR_readsLaw_35 (d : Nat) (σ : jm_S) (r1 : Nat) (x2 xs0 : Int32) : jm_ev d (jR_readsLaw, 35, [some (jm_R 5 0), some (jm_R 7 r1), some (jm_I x2)], [jm_I xs0], σ) = cond (decide (xs0 = 0)) (jm_ev d (jR_readsLaw, 56, [some (jm_R 5 0), some (jm_R 7 r1), some (jm_I x2)], [], σ)) ((jm_call d jR_readsNumber [jm_R 5 0, jm_I (0 : Int32), jm_I (if (200 : Int32) - x2 < (9 : Int32) then (200 : Int32) - x2 else (9 : Int32))] σ).bind fun q => jm_ev d (jm_psh (jR_readsLaw, 53, [some (jm_R 5 0), some (jm_R 7 r1), some (jm_I x2)], [], σ) q)) := (jm_un_eq [0, 6, 16, 19, 35, 53, 56, 74] d 10 _).trans rfl
theorem gR_readsLaw_53 (d : Nat) (σ : jm_S) (r1 : Nat) (x2 xs0 : Int32) : jm_ev d (jR_readsLaw, 53, [some (jm_R 5 0), some (jm_R 7 r1), some (jm_I x2)], [jm_I xs0], σ) = cond (decide (¬ xs0 = 0)) ((jm_call d jR_readsSign [jm_R 5 0, jm_I (59 : Int32)] (jm_wi σ 7 r1 2 (x2 + (σ.1 5 0 3)))).bind fun q => jm_ev d (jm_psh (jR_readsLaw, 74, [some (jm_R 5 0), some (jm_R 7 r1), some (jm_I x2)], [], jm_wi σ 7 r1 2 (x2 + (σ.1 5 0 3))) q)) (jm_ev d (jR_readsLaw, 56, [some (jm_R 5 0), some (jm_R 7 r1), some (jm_I x2)], [], σ)) := (jm_un_eq [0, 6, 16, 19, 35, 53, 56, 74] d 11 _).trans rfl
theorem gR_readsLaw_56 (d : Nat) (σ : jm_S) (r1 : Nat) (x2 : Int32) : jm_ev d (jR_readsLaw, 56, [some (jm_R 5 0), some (jm_R 7 r1), some (jm_I x2)], [], σ) = some (some (jm_I (0 : Int32)), σ) := (jm_un_eq [0, 6, 16, 19, 35, 53, 56, 74] d 3 _).trans rfl
theorem gR_readsLaw_74 (d : Nat) (σ : jm_S) (r1 : Nat) (x2 xs0 : Int32) : jm_ev d (jR_readsLaw, 74, [some (jm_R 5 0), some (jm_R 7 r1), some (jm_I x2)], [jm_I xs0], σ) = cond (jm_b01 xs0) (some (some (jm_I xs0), σ)) none := (jm_un_eq [0, 6, 16, 19, 35, 53, 56, 74] d 2 _).trans rfl
theorem gR_readsDiscs_0 (d : Nat) (σ : jm_S) (r1 : Nat) : jm_call (d + 1) jR_readsDiscs [jm_R 5 0, jm_R 7 r1] σ = jm_ev d (jR_readsDiscs, 2, [some (jm_R 5 0), some (jm_R 7 r1), some (jm_I (0 : Int32)), none], [], σ) := (jm_un_eq [0, 2, 31, 35, 38, 48, 60, 86] d 3 (jR_readsDiscs, 0, [some (jm_R 5 0), some (jm_R 7 r1), none, none], [], σ)).trans rfl
theorem gR_readsDiscs_2 (d : Nat) (σ : jm_S) (r1 : Nat) (x2 : Int32) (o3 : Option jm_V) : jm_ev d (jR_readsDiscs, 2, [some (jm_R 5 0), some (jm_R 7 r1), some (jm_I x2), o3], [], σ) = cond (decide ((6 : Int32) < x2)) (some (some (jm_I (0 : Int32)), σ)) (cond (decide (¬ σ.1 5 0 2 = σ.1 5 0 1)) (jm_ev d (jR_readsDiscs, 31, [some (jm_R 5 0), some (jm_R 7 r1), some (jm_I x2), o3], [], σ)) (cond (decide (x2 < (2 : Int32))) (jm_ev d (jR_readsDiscs, 31, [some (jm_R 5 0), some (jm_R 7 r1), some (jm_I x2), o3], [], σ)) (some (some (jm_I (1 : Int32)), jm_wi σ 7 r1 1 x2)))) := (jm_un_eq [0, 2, 31, 35, 38, 48, 60, 86] d 17 _).trans rfl
theorem gR_readsDiscs_31 (d : Nat) (σ : jm_S) (r1 : Nat) (x2 : Int32) (o3 : Option jm_V) : jm_ev d (jR_readsDiscs, 31, [some (jm_R 5 0), some (jm_R 7 r1), some (jm_I x2), o3], [], σ) = (jm_call d jR_byteAtHand [jm_R 5 0] σ).bind fun q => jm_ev d (jm_psh (jR_readsDiscs, 35, [some (jm_R 5 0), some (jm_R 7 r1), some (jm_I x2), o3], [], σ) q) := (jm_un_eq [0, 2, 31, 35, 38, 48, 60, 86] d 3 _).trans rfl
theorem gR_readsDiscs_35 (d : Nat) (σ : jm_S) (r1 : Nat) (x2 xs0 : Int32) (o3 : Option jm_V) : jm_ev d (jR_readsDiscs, 35, [some (jm_R 5 0), some (jm_R 7 r1), some (jm_I x2), o3], [jm_I xs0], σ) = (jm_call d jR_kindOf [jm_I xs0] σ).bind fun q => jm_ev d (jm_psh (jR_readsDiscs, 38, [some (jm_R 5 0), some (jm_R 7 r1), some (jm_I x2), o3], [], σ) q) := (jm_un_eq [0, 2, 31, 35, 38, 48, 60, 86] d 2 _).trans rfl
theorem gR_readsDiscs_38 (d : Nat) (σ : jm_S) (r1 : Nat) (x2 xs0 : Int32) (o3 : Option jm_V) : jm_ev d (jR_readsDiscs, 38, [some (jm_R 5 0), some (jm_R 7 r1), some (jm_I x2), o3], [jm_I xs0], σ) = cond (decide (¬ xs0 = 0)) (cond (decide (¬ x2 = (6 : Int32))) (cond (jm_in3 x2 6) ((jm_call d jR_readsNumbers [jm_R 5 0, jm_R 7 r1, jm_I x2] (jm_wi (jm_wi σ 5 0 2 ((σ.1 5 0 2) + (1 : Int32))) 9 (4 * r1 + 3) x2.toNatClampNeg xs0)).bind fun q => jm_ev d (jm_psh (jR_readsDiscs, 86, [some (jm_R 5 0), some (jm_R 7 r1), some (jm_I x2), some (jm_I xs0)], [], jm_wi (jm_wi σ 5 0 2 ((σ.1 5 0 2) + (1 : Int32))) 9 (4 * r1 + 3) x2.toNatClampNeg xs0) q)) (none)) ((jm_call d jR_blames [jm_R 5 0, jm_I (3 : Int32)] σ).bind fun q => jm_ev d (jm_psh (jR_readsDiscs, 60, [some (jm_R 5 0), some (jm_R 7 r1), some (jm_I x2), some (jm_I xs0)], [], σ) q))) ((jm_call d jR_blames [jm_R 5 0, jm_I (1 : Int32)] σ).bind fun q => jm_ev d (jm_psh (jR_readsDiscs, 48, [some (jm_R 5 0), some (jm_R 7 r1), some (jm_I x2), some (jm_I xs0)], [], σ) q)) := (jm_un_eq [0, 2, 31, 35, 38, 48, 60, 86] d 24 _).trans rfl
theorem gR_readsDiscs_48 (d : Nat) (σ : jm_S) (r1 : Nat) (x2 x3 xs0 : Int32) : jm_ev d (jR_readsDiscs, 48, [some (jm_R 5 0), some (jm_R 7 r1), some (jm_I x2), some (jm_I x3)], [jm_I xs0], σ) = cond (jm_b01 xs0) (some (some (jm_I xs0), σ)) none := (jm_un_eq [0, 2, 31, 35, 38, 48, 60, 86] d 2 _).trans rfl
theorem gR_readsDiscs_60 (d : Nat) (σ : jm_S) (r1 : Nat) (x2 x3 xs0 : Int32) : jm_ev d (jR_readsDiscs, 60, [some (jm_R 5 0), some (jm_R 7 r1), some (jm_I x2), some (jm_I x3)], [jm_I xs0], σ) = cond (jm_b01 xs0) (some (some (jm_I xs0), σ)) none := (jm_un_eq [0, 2, 31, 35, 38, 48, 60, 86] d 2 _).trans rfl
theorem gR_readsDiscs_86 (d : Nat) (σ : jm_S) (r1 : Nat) (x2 x3 xs0 : Int32) : jm_ev d (jR_readsDiscs, 86, [some (jm_R 5 0), some (jm_R 7 r1), some (jm_I x2), some (jm_I x3)], [jm_I xs0], σ) = cond (decide (¬ xs0 = 0)) (jm_ev d (jR_readsDiscs, 2, [some (jm_R 5 0), some (jm_R 7 r1), some (jm_I (x2 + (1 : Int32))), some (jm_I x3)], [], σ)) (some (some (jm_I (0 : Int32)), σ)) := (jm_un_eq [0, 2, 31, 35, 38, 48, 60, 86] d 4 _).trans rfl
theorem gR_readsNumbers_0 (d : Nat) (σ : jm_S) (r1 : Nat) (x2 : Int32) : jm_call (d + 1) jR_readsNumbers [jm_R 5 0, jm_R 7 r1, jm_I x2] σ = jm_ev d (jR_readsNumbers, 2, [some (jm_R 5 0), some (jm_R 7 r1), some (jm_I x2), some (jm_I (0 : Int32))], [], σ) := (jm_un_eq [0, 2, 21, 51, 54] d 3 (jR_readsNumbers, 0, [some (jm_R 5 0), some (jm_R 7 r1), some (jm_I x2), none], [], σ)).trans rfl
theorem gR_readsNumbers_2 (d : Nat) (σ : jm_S) (r1 : Nat) (x2 x3 : Int32) : jm_ev d (jR_readsNumbers, 2, [some (jm_R 5 0), some (jm_R 7 r1), some (jm_I x2), some (jm_I x3)], [], σ) = cond (decide ((2 : Int32) < x3)) (some (some (jm_I (1 : Int32)), σ)) (cond (jm_in3 x3 4) (cond (jm_in3 x3 4) ((jm_call d jR_readsNumber [jm_R 5 0, jm_I ((jm_tb 40).getD x3.toNatClampNeg 0), jm_I ((jm_tb 41).getD x3.toNatClampNeg 0)] σ).bind fun q => jm_ev d (jm_psh (jR_readsNumbers, 21, [some (jm_R 5 0), some (jm_R 7 r1), some (jm_I x2), some (jm_I x3)], [], σ) q)) (none)) (none)) := (jm_un_eq [0, 2, 21, 51, 54] d 12 _).trans rfl
theorem gR_readsNumbers_21 (d : Nat) (σ : jm_S) (r1 : Nat) (x2 x3 xs0 : Int32) : jm_ev d (jR_readsNumbers, 21, [some (jm_R 5 0), some (jm_R 7 r1), some (jm_I x2), some (jm_I x3)], [jm_I xs0], σ) = cond (decide (¬ xs0 = 0)) (cond (jm_in3 x3 4) (cond (jm_in3 x2 6) (cond (decide (¬ x3 = (2 : Int32))) (jm_ev d (jR_readsNumbers, 51, [some (jm_R 5 0), some (jm_R 7 r1), some (jm_I x2), some (jm_I x3)], [jm_I (44 : Int32), jm_R 5 0], jm_wi σ 9 (4 * r1 + x3.toNatClampNeg) x2.toNatClampNeg (σ.1 5 0 3))) (jm_ev d (jR_readsNumbers, 51, [some (jm_R 5 0), some (jm_R 7 r1), some (jm_I x2), some (jm_I x3)], [jm_I (59 : Int32), jm_R 5 0], jm_wi σ 9 (4 * r1 + x3.toNatClampNeg) x2.toNatClampNeg (σ.1 5 0 3)))) (none)) (none)) (some (some (jm_I (0 : Int32)), σ)) := (jm_un_eq [0, 2, 21, 51, 54] d 16 _).trans rfl
theorem gR_readsNumbers_51 (d : Nat) (σ : jm_S) (r1 : Nat) (x2 x3 xs0 : Int32) : jm_ev d (jR_readsNumbers, 51, [some (jm_R 5 0), some (jm_R 7 r1), some (jm_I x2), some (jm_I x3)], [jm_I xs0, jm_R 5 0], σ) = (jm_call d jR_readsSign [jm_R 5 0, jm_I xs0] σ).bind fun q => jm_ev d (jm_psh (jR_readsNumbers, 54, [some (jm_R 5 0), some (jm_R 7 r1), some (jm_I x2), some (jm_I x3)], [], σ) q) := (jm_un_eq [0, 2, 21, 51, 54] d 2 _).trans rfl
theorem gR_readsNumbers_54 (d : Nat) (σ : jm_S) (r1 : Nat) (x2 x3 xs0 : Int32) : jm_ev d (jR_readsNumbers, 54, [some (jm_R 5 0), some (jm_R 7 r1), some (jm_I x2), some (jm_I x3)], [jm_I xs0], σ) = cond (decide (¬ xs0 = 0)) (jm_ev d (jR_readsNumbers, 2, [some (jm_R 5 0), some (jm_R 7 r1), some (jm_I x2), some (jm_I (x3 + (1 : Int32)))], [], σ)) (some (some (jm_I (0 : Int32)), σ)) := (jm_un_eq [0, 2, 21, 51, 54] d 4 _).trans rfl
theorem gR_readsSign_0 (d : Nat) (σ : jm_S) (x1 : Int32) : jm_call (d + 1) jR_readsSign [jm_R 5 0, jm_I x1] σ = (jm_call d jR_byteAtHand [jm_R 5 0] σ).bind fun q => jm_ev d (jm_psh (jR_readsSign, 4, [some (jm_R 5 0), some (jm_I x1)], [], σ) q) := (jm_un_eq [0, 4, 13] d 3 (jR_readsSign, 0, [some (jm_R 5 0), some (jm_I x1)], [], σ)).trans rfl
theorem gR_readsSign_4 (d : Nat) (σ : jm_S) (x1 xs0 : Int32) : jm_ev d (jR_readsSign, 4, [some (jm_R 5 0), some (jm_I x1)], [jm_I xs0], σ) = cond (decide (xs0 = x1)) (some (some (jm_I (1 : Int32)), jm_wi σ 5 0 2 ((σ.1 5 0 2) + (1 : Int32)))) ((jm_call d jR_blames [jm_R 5 0, jm_I (1 : Int32)] σ).bind fun q => jm_ev d (jm_psh (jR_readsSign, 13, [some (jm_R 5 0), some (jm_I x1)], [], σ) q)) := (jm_un_eq [0, 4, 13] d 11 _).trans rfl
theorem gR_readsSign_13 (d : Nat) (σ : jm_S) (x1 xs0 : Int32) : jm_ev d (jR_readsSign, 13, [some (jm_R 5 0), some (jm_I x1)], [jm_I xs0], σ) = cond (jm_b01 xs0) (some (some (jm_I xs0), σ)) none := (jm_un_eq [0, 4, 13] d 2 _).trans rfl
theorem gR_readsNumber_0 (d : Nat) (σ : jm_S) (x1 x2 : Int32) : jm_call (d + 1) jR_readsNumber [jm_R 5 0, jm_I x1, jm_I x2] σ = jm_ev d (jR_readsNumber, 8, [some (jm_R 5 0), some (jm_I x1), some (jm_I x2), some (jm_I (σ.1 5 0 2)), some (jm_I (0 : Int32))], [], σ) := (jm_un_eq [0, 8, 35, 61, 79, 84, 97, 102] d 6 (jR_readsNumber, 0, [some (jm_R 5 0), some (jm_I x1), some (jm_I x2), none, none], [], σ)).trans rfl
theorem gR_readsNumber_8 (d : Nat) (σ : jm_S) (x1 x2 x3 x4 : Int32) : jm_ev d (jR_readsNumber, 8, [some (jm_R 5 0), some (jm_I x1), some (jm_I x2), some (jm_I x3), some (jm_I x4)], [], σ) = cond (decide (σ.1 5 0 1 ≤ x3)) (jm_ev d (jR_readsNumber, 61, [some (jm_R 5 0), some (jm_I x1), some (jm_I x2), some (jm_I x3), some (jm_I x4)], [], σ)) (cond (decide ((σ.1 5 0 2) + (3 : Int32) ≤ x3)) (jm_ev d (jR_readsNumber, 61, [some (jm_R 5 0), some (jm_I x1), some (jm_I x2), some (jm_I x3), some (jm_I x4)], [], σ)) (cond (jm_in3 x3 80) ((jm_call d jR_isFigure [jm_I (σ.1 6 0 x3.toNatClampNeg)] σ).bind fun q => jm_ev d (jm_psh (jR_readsNumber, 35, [some (jm_R 5 0), some (jm_I x1), some (jm_I x2), some (jm_I x3), some (jm_I x4)], [], σ) q)) (none))) := (jm_un_eq [0, 8, 35, 61, 79, 84, 97, 102] d 16 _).trans rfl
theorem gR_readsNumber_35 (d : Nat) (σ : jm_S) (x1 x2 x3 x4 xs0 : Int32) : jm_ev d (jR_readsNumber, 35, [some (jm_R 5 0), some (jm_I x1), some (jm_I x2), some (jm_I x3), some (jm_I x4)], [jm_I xs0], σ) = cond (decide (xs0 = 0)) (jm_ev d (jR_readsNumber, 61, [some (jm_R 5 0), some (jm_I x1), some (jm_I x2), some (jm_I x3), some (jm_I x4)], [], σ)) (cond (jm_in3 x3 80) (jm_ev d (jR_readsNumber, 8, [some (jm_R 5 0), some (jm_I x1), some (jm_I x2), some (jm_I (x3 + (1 : Int32))), some (jm_I ((((10 : Int32) * x4) + (σ.1 6 0 x3.toNatClampNeg)) - (48 : Int32)))], [], σ)) (none)) := (jm_un_eq [0, 8, 35, 61, 79, 84, 97, 102] d 15 _).trans rfl
theorem gR_readsNumber_61 (d : Nat) (σ : jm_S) (x1 x2 x3 x4 : Int32) : jm_ev d (jR_readsNumber, 61, [some (jm_R 5 0), some (jm_I x1), some (jm_I x2), some (jm_I x3), some (jm_I x4)], [], σ) = cond (decide (x3 = σ.1 5 0 2)) (jm_ev d (jR_readsNumber, 79, [some (jm_R 5 0), some (jm_I x1), some (jm_I x2), some (jm_I x3), some (jm_I x4)], [], σ)) (cond (decide (¬ x3 = (σ.1 5 0 2) + (3 : Int32))) (cond (decide (x4 < x1)) (jm_ev d (jR_readsNumber, 97, [some (jm_R 5 0), some (jm_I x1), some (jm_I x2), some (jm_I x3), some (jm_I x4)], [], σ)) (cond (decide (x4 ≤ x2)) (some (some (jm_I (1 : Int32)), jm_wi (jm_wi σ 5 0 3 x4) 5 0 2 x3)) (jm_ev d (jR_readsNumber, 97, [some (jm_R 5 0), some (jm_I x1), some (jm_I x2), some (jm_I x3), some (jm_I x4)], [], σ)))) (jm_ev d (jR_readsNumber, 79, [some (jm_R 5 0), some (jm_I x1), some (jm_I x2), some (jm_I x3), some (jm_I x4)], [], σ))) := (jm_un_eq [0, 8, 35, 61, 79, 84, 97, 102] d 25 _).trans rfl
theorem gR_readsNumber_79 (d : Nat) (σ : jm_S) (x1 x2 x3 x4 : Int32) : jm_ev d (jR_readsNumber, 79, [some (jm_R 5 0), some (jm_I x1), some (jm_I x2), some (jm_I x3), some (jm_I x4)], [], σ) = (jm_call d jR_blames [jm_R 5 0, jm_I (1 : Int32)] σ).bind fun q => jm_ev d (jm_psh (jR_readsNumber, 84, [some (jm_R 5 0), some (jm_I x1), some (jm_I x2), some (jm_I x3), some (jm_I x4)], [], σ) q) := (jm_un_eq [0, 8, 35, 61, 79, 84, 97, 102] d 4 _).trans rfl
theorem gR_readsNumber_84 (d : Nat) (σ : jm_S) (x1 x2 x3 x4 xs0 : Int32) : jm_ev d (jR_readsNumber, 84, [some (jm_R 5 0), some (jm_I x1), some (jm_I x2), some (jm_I x3), some (jm_I x4)], [jm_I xs0], σ) = cond (jm_b01 xs0) (some (some (jm_I xs0), σ)) none := (jm_un_eq [0, 8, 35, 61, 79, 84, 97, 102] d 2 _).trans rfl
theorem gR_readsNumber_97 (d : Nat) (σ : jm_S) (x1 x2 x3 x4 : Int32) : jm_ev d (jR_readsNumber, 97, [some (jm_R 5 0), some (jm_I x1), some (jm_I x2), some (jm_I x3), some (jm_I x4)], [], σ) = (jm_call d jR_blames [jm_R 5 0, jm_I (2 : Int32)] σ).bind fun q => jm_ev d (jm_psh (jR_readsNumber, 102, [some (jm_R 5 0), some (jm_I x1), some (jm_I x2), some (jm_I x3), some (jm_I x4)], [], σ) q) := (jm_un_eq [0, 8, 35, 61, 79, 84, 97, 102] d 4 _).trans rfl
theorem gR_readsNumber_102 (d : Nat) (σ : jm_S) (x1 x2 x3 x4 xs0 : Int32) : jm_ev d (jR_readsNumber, 102, [some (jm_R 5 0), some (jm_I x1), some (jm_I x2), some (jm_I x3), some (jm_I x4)], [jm_I xs0], σ) = cond (jm_b01 xs0) (some (some (jm_I xs0), σ)) none := (jm_un_eq [0, 8, 35, 61, 79, 84, 97, 102] d 2 _).trans rfl
theorem gR_blames_0 (d : Nat) (σ : jm_S) (x1 : Int32) : jm_call (d + 1) jR_blames [jm_R 5 0, jm_I x1] σ = some (some (jm_I (0 : Int32)), jm_wi (jm_wi σ 5 0 4 x1) 5 0 5 (σ.1 5 0 2)) := (jm_un_eq [0] d 10 (jR_blames, 0, [some (jm_R 5 0), some (jm_I x1)], [], σ)).trans rfl
theorem gR_byteAtHand_0 (d : Nat) (σ : jm_S) : jm_call (d + 1) jR_byteAtHand [jm_R 5 0] σ = cond (decide (σ.1 5 0 1 ≤ σ.1 5 0 2)) (jm_ev d (jR_byteAtHand, 24, [some (jm_R 5 0)], [jm_I (-1 : Int32)], σ)) (cond (jm_in3 (σ.1 5 0 2) 80) (jm_ev d (jR_byteAtHand, 24, [some (jm_R 5 0)], [jm_I (σ.1 6 0 ((σ.1 5 0 2).toNatClampNeg))], σ)) (none)) := (jm_un_eq [0, 24] d 12 (jR_byteAtHand, 0, [some (jm_R 5 0)], [], σ)).trans rfl
theorem gR_byteAtHand_24 (d : Nat) (σ : jm_S) (xs0 : Int32) : jm_ev d (jR_byteAtHand, 24, [some (jm_R 5 0)], [jm_I xs0], σ) = some (some (jm_I xs0), σ) := (jm_un_eq [0, 24] d 2 _).trans rfl
theorem gR_isFigure_0 (d : Nat) (σ : jm_S) (x0 : Int32) : jm_call (d + 1) jR_isFigure [jm_I x0] σ = cond (decide (x0 < (48 : Int32))) (jm_ev d (jR_isFigure, 16, [some (jm_I x0)], [], σ)) (cond (decide ((57 : Int32) < x0)) (jm_ev d (jR_isFigure, 16, [some (jm_I x0)], [], σ)) (jm_ev d (jR_isFigure, 17, [some (jm_I x0)], [jm_I (1 : Int32)], σ))) := (jm_un_eq [0, 16, 17] d 9 (jR_isFigure, 0, [some (jm_I x0)], [], σ)).trans rfl
theorem gR_isFigure_16 (d : Nat) (σ : jm_S) (x0 : Int32) : jm_ev d (jR_isFigure, 16, [some (jm_I x0)], [], σ) = jm_ev d (jR_isFigure, 17, [some (jm_I x0)], [jm_I (0 : Int32)], σ) := (jm_un_eq [0, 16, 17] d 2 _).trans rfl
theorem gR_isFigure_17 (d : Nat) (σ : jm_S) (x0 xs0 : Int32) : jm_ev d (jR_isFigure, 17, [some (jm_I x0)], [jm_I xs0], σ) = cond (jm_b01 xs0) (some (some (jm_I xs0), σ)) none := (jm_un_eq [0, 16, 17] d 2 _).trans rfl
theorem gR_kindOf_0 (d : Nat) (σ : jm_S) (x0 : Int32) : jm_call (d + 1) jR_kindOf [jm_I x0] σ = cond (decide (x0.toInt = 103)) (some (some (jm_I (2 : Int32)), σ)) (cond (decide (x0.toInt = 112)) (some (some (jm_I (1 : Int32)), σ)) (cond (decide (x0.toInt = 115)) (some (some (jm_I (5 : Int32)), σ)) (cond (decide (x0.toInt = 116)) (some (some (jm_I (4 : Int32)), σ)) (cond (decide (x0.toInt = 119)) (some (some (jm_I (3 : Int32)), σ)) (some (some (jm_I (0 : Int32)), σ)))))) := (jm_un_eq [0] d 5 (jR_kindOf, 0, [some (jm_I x0)], [], σ)).trans rfl
theorem gS_has_0 (d : Nat) (σ : jm_S) (r0 : Nat) (x1 : Int32) : jm_call (d + 1) jS_has [jm_R 7 r0, jm_I x1] σ = cond (decide (x1 < 0)) (jm_ev d (jS_has, 16, [some (jm_R 7 r0), some (jm_I x1)], [], σ)) (cond (decide (σ.1 7 r0 1 ≤ x1)) (jm_ev d (jS_has, 16, [some (jm_R 7 r0), some (jm_I x1)], [], σ)) (jm_ev d (jS_has, 17, [some (jm_R 7 r0), some (jm_I x1)], [jm_I (1 : Int32)], σ))) := (jm_un_eq [0, 16, 17] d 9 (jS_has, 0, [some (jm_R 7 r0), some (jm_I x1)], [], σ)).trans rfl
theorem gS_has_16 (d : Nat) (σ : jm_S) (r0 : Nat) (x1 : Int32) : jm_ev d (jS_has, 16, [some (jm_R 7 r0), some (jm_I x1)], [], σ) = jm_ev d (jS_has, 17, [some (jm_R 7 r0), some (jm_I x1)], [jm_I (0 : Int32)], σ) := (jm_un_eq [0, 16, 17] d 2 _).trans rfl
theorem gS_has_17 (d : Nat) (σ : jm_S) (r0 : Nat) (x1 xs0 : Int32) : jm_ev d (jS_has, 17, [some (jm_R 7 r0), some (jm_I x1)], [jm_I xs0], σ) = cond (jm_b01 xs0) (some (some (jm_I xs0), σ)) none := (jm_un_eq [0, 16, 17] d 2 _).trans rfl
theorem gS_takeFrom_0 (d : Nat) (σ : jm_S) (r0 r1 : Nat) : jm_call (d + 1) jS_takeFrom [jm_R 7 r0, jm_R 7 r1] σ = jm_ev d (jS_takeFrom, 2, [some (jm_R 7 r0), some (jm_R 7 r1), some (jm_I (0 : Int32))], [], σ) := (jm_un_eq [0, 2] d 3 (jS_takeFrom, 0, [some (jm_R 7 r0), some (jm_R 7 r1), none], [], σ)).trans rfl
theorem gS_takeFrom_2 (d : Nat) (σ : jm_S) (r0 r1 : Nat) (x2 : Int32) : jm_ev d (jS_takeFrom, 2, [some (jm_R 7 r0), some (jm_R 7 r1), some (jm_I x2)], [], σ) = cond (decide ((4 : Int32) ≤ x2)) (some (none, jm_wi (jm_wi σ 7 r0 1 (σ.1 7 r1 1)) 7 r0 2 ((jm_wi σ 7 r0 1 (σ.1 7 r1 1)).1 7 r1 2))) (cond (jm_in3 x2 4) (cond (jm_in3 x2 4) (jm_ev d (jS_takeFrom, 2, [some (jm_R 7 r0), some (jm_R 7 r1), some (jm_I (x2 + (1 : Int32)))], [], jm_wc σ 9 (4 * r0 + x2.toNatClampNeg) 9 (4 * r1 + x2.toNatClampNeg) 0 0 6)) (none)) (none)) := (jm_un_eq [0, 2] d 18 _).trans rfl
theorem gS_exchange_0 (d : Nat) (σ : jm_S) (r0 : Nat) (x1 x2 : Int32) : jm_call (d + 1) jS_exchange [jm_R 7 r0, jm_I x1, jm_I x2] σ = jm_ev d (jS_exchange, 2, [some (jm_R 7 r0), some (jm_I x1), some (jm_I x2), some (jm_I (0 : Int32)), none], [], σ) := (jm_un_eq [0, 2] d 3 (jS_exchange, 0, [some (jm_R 7 r0), some (jm_I x1), some (jm_I x2), none, none], [], σ)).trans rfl
theorem gS_exchange_2 (d : Nat) (σ : jm_S) (r0 : Nat) (x1 x2 x3 : Int32) (o4 : Option jm_V) : jm_ev d (jS_exchange, 2, [some (jm_R 7 r0), some (jm_I x1), some (jm_I x2), some (jm_I x3), o4], [], σ) = cond (decide ((4 : Int32) ≤ x3)) (some (none, σ)) (cond (jm_in3 x3 4) (cond (jm_in3 x1 6) (cond (jm_in3 x3 4) (cond (jm_in3 x3 4) (cond (jm_in3 x2 6) (cond (jm_in3 x1 6) (cond (jm_in3 x3 4) (cond (jm_in3 x2 6) (jm_ev d (jS_exchange, 2, [some (jm_R 7 r0), some (jm_I x1), some (jm_I x2), some (jm_I (x3 + (1 : Int32))), some (jm_I (σ.1 9 (4 * r0 + x3.toNatClampNeg) x1.toNatClampNeg))], [], jm_wi (jm_wi σ 9 (4 * r0 + x3.toNatClampNeg) x1.toNatClampNeg (σ.1 9 (4 * r0 + x3.toNatClampNeg) x2.toNatClampNeg)) 9 (4 * r0 + x3.toNatClampNeg) x2.toNatClampNeg (σ.1 9 (4 * r0 + x3.toNatClampNeg) x1.toNatClampNeg))) (none)) (none)) (none)) (none)) (none)) (none)) (none)) (none)) := (jm_un_eq [0, 2] d 32 _).trans rfl
theorem gS_sumOf_0 (d : Nat) (σ : jm_S) (r0 : Nat) (x1 x2 : Int32) : jm_call (d + 1) jS_sumOf [jm_R 7 r0, jm_I x1, jm_I x2] σ = jm_ev d (jS_sumOf, 5, [some (jm_R 7 r0), some (jm_I x1), some (jm_I x2), some (jm_I (0 : Int32)), some (jm_I (0 : Int32))], [], σ) := (jm_un_eq [0, 5, 36] d 5 (jS_sumOf, 0, [some (jm_R 7 r0), some (jm_I x1), some (jm_I x2), none, none], [], σ)).trans rfl
theorem gS_sumOf_5 (d : Nat) (σ : jm_S) (r0 : Nat) (x1 x2 x3 x4 : Int32) : jm_ev d (jS_sumOf, 5, [some (jm_R 7 r0), some (jm_I x1), some (jm_I x2), some (jm_I x3), some (jm_I x4)], [], σ) = cond (decide (σ.1 7 r0 1 ≤ x4)) (some (some (jm_I x3), σ)) (cond (decide (¬ (x2 >>> (x4 &&& 31)) &&& (1 : Int32) = (1 : Int32))) (jm_ev d (jS_sumOf, 36, [some (jm_R 7 r0), some (jm_I x1), some (jm_I x2), some (jm_I x3), some (jm_I x4)], [], σ)) (cond (jm_in3 x1 4) (cond (jm_in3 x4 6) (jm_ev d (jS_sumOf, 36, [some (jm_R 7 r0), some (jm_I x1), some (jm_I x2), some (jm_I (x3 + (σ.1 9 (4 * r0 + x1.toNatClampNeg) x4.toNatClampNeg))), some (jm_I x4)], [], σ)) (none)) (none))) := (jm_un_eq [0, 5, 36] d 21 _).trans rfl
theorem gS_sumOf_36 (d : Nat) (σ : jm_S) (r0 : Nat) (x1 x2 x3 x4 : Int32) : jm_ev d (jS_sumOf, 36, [some (jm_R 7 r0), some (jm_I x1), some (jm_I x2), some (jm_I x3), some (jm_I x4)], [], σ) = jm_ev d (jS_sumOf, 5, [some (jm_R 7 r0), some (jm_I x1), some (jm_I x2), some (jm_I x3), some (jm_I (x4 + (1 : Int32)))], [], σ) := (jm_un_eq [0, 5, 36] d 3 _).trans rfl
theorem gS_ratioOf_0 (d : Nat) (σ : jm_S) (r0 : Nat) (x1 : Int32) : jm_call (d + 1) jS_ratioOf [jm_R 7 r0, jm_I x1] σ = jm_ev d (jS_ratioOf, 4, [some (jm_R 7 r0), some (jm_I x1), some (jm_I (1 : Int32)), some (jm_I (0 : Int32))], [], σ) := (jm_un_eq [0, 4, 33, 39] d 5 (jS_ratioOf, 0, [some (jm_R 7 r0), some (jm_I x1), none, none], [], σ)).trans rfl
theorem gS_ratioOf_4 (d : Nat) (σ : jm_S) (r0 : Nat) (x1 x2 x3 : Int32) : jm_ev d (jS_ratioOf, 4, [some (jm_R 7 r0), some (jm_I x1), some (jm_I x2), some (jm_I x3)], [], σ) = cond (decide (x1 < x3)) (jm_ev d (jS_ratioOf, 39, [some (jm_R 7 r0), some (jm_I x1), some (jm_I x2), some (jm_I x3)], [], σ)) (cond (decide (σ.1 7 r0 1 ≤ x3)) (jm_ev d (jS_ratioOf, 39, [some (jm_R 7 r0), some (jm_I x1), some (jm_I x2), some (jm_I x3)], [], σ)) (cond (jm_in3 x3 6) (cond (decide (¬ σ.1 9 (4 * r0 + 3) x3.toNatClampNeg = (2 : Int32))) (jm_ev d (jS_ratioOf, 33, [some (jm_R 7 r0), some (jm_I x1), some (jm_I x2), some (jm_I x3)], [], σ)) (jm_ev d (jS_ratioOf, 33, [some (jm_R 7 r0), some (jm_I x1), some (jm_I (x2 * (2 : Int32))), some (jm_I x3)], [], σ))) (none))) := (jm_un_eq [0, 4, 33, 39] d 20 _).trans rfl
theorem gS_ratioOf_33 (d : Nat) (σ : jm_S) (r0 : Nat) (x1 x2 x3 : Int32) : jm_ev d (jS_ratioOf, 33, [some (jm_R 7 r0), some (jm_I x1), some (jm_I x2), some (jm_I x3)], [], σ) = jm_ev d (jS_ratioOf, 4, [some (jm_R 7 r0), some (jm_I x1), some (jm_I x2), some (jm_I (x3 + (1 : Int32)))], [], σ) := (jm_un_eq [0, 4, 33, 39] d 3 _).trans rfl
theorem gS_ratioOf_39 (d : Nat) (σ : jm_S) (r0 : Nat) (x1 x2 x3 : Int32) : jm_ev d (jS_ratioOf, 39, [some (jm_R 7 r0), some (jm_I x1), some (jm_I x2), some (jm_I x3)], [], σ) = some (some (jm_I x2), σ) := (jm_un_eq [0, 4, 33, 39] d 3 _).trans rfl
theorem gS_weightOf_0 (d : Nat) (σ : jm_S) (r0 : Nat) (x1 : Int32) : jm_call (d + 1) jS_weightOf [jm_R 7 r0, jm_I x1] σ = (jm_call d jS_ratioOf [jm_R 7 r0, jm_I x1] σ).bind fun q => jm_ev d (jm_psh (jS_weightOf, 5, [some (jm_R 7 r0), some (jm_I x1), none, none], [], σ) q) := (jm_un_eq [0, 5, 30] d 4 (jS_weightOf, 0, [some (jm_R 7 r0), some (jm_I x1), none, none], [], σ)).trans rfl
theorem gS_weightOf_5 (d : Nat) (σ : jm_S) (r0 : Nat) (x1 xs0 : Int32) : jm_ev d (jS_weightOf, 5, [some (jm_R 7 r0), some (jm_I x1), none, none], [jm_I xs0], σ) = cond (jm_in3 x1 6) (cond (decide (¬ σ.1 9 (4 * r0 + 3) x1.toNatClampNeg = (3 : Int32))) (jm_ev d (jS_weightOf, 30, [some (jm_R 7 r0), some (jm_I x1), some (jm_I xs0), none], [jm_I (0 : Int32)], σ)) (cond (jm_in3 x1 6) (jm_ev d (jS_weightOf, 30, [some (jm_R 7 r0), some (jm_I x1), some (jm_I xs0), none], [jm_I (σ.1 9 (4 * r0 + 2) x1.toNatClampNeg)], σ)) (none))) (none) := (jm_un_eq [0, 5, 30] d 17 _).trans rfl
theorem gS_weightOf_30 (d : Nat) (σ : jm_S) (r0 : Nat) (x1 x2 xs0 : Int32) : jm_ev d (jS_weightOf, 30, [some (jm_R 7 r0), some (jm_I x1), some (jm_I x2), none], [jm_I xs0], σ) = cond (jm_in3 x1 6) (some (some (jm_I ((((σ.1 9 (4 * r0 + 0) x1.toNatClampNeg) + xs0) * x2) * x2)), σ)) (none) := (jm_un_eq [0, 5, 30] d 15 _).trans rfl
theorem gS_springOf_0 (d : Nat) (σ : jm_S) (r0 : Nat) (x1 : Int32) : jm_call (d + 1) jS_springOf [jm_R 7 r0, jm_I x1] σ = cond (decide (¬ x1 = (σ.1 7 r0 1) - (1 : Int32))) ((jm_call d jS_ratioOf [jm_R 7 r0, jm_I x1] σ).bind fun q => jm_ev d (jm_psh (jS_springOf, 17, [some (jm_R 7 r0), some (jm_I x1), none, none], [], σ) q)) (some (some (jm_I (0 : Int32)), σ)) := (jm_un_eq [0, 17, 51] d 10 (jS_springOf, 0, [some (jm_R 7 r0), some (jm_I x1), none, none], [], σ)).trans rfl
theorem gS_springOf_17 (d : Nat) (σ : jm_S) (r0 : Nat) (x1 xs0 : Int32) : jm_ev d (jS_springOf, 17, [some (jm_R 7 r0), some (jm_I x1), none, none], [jm_I xs0], σ) = cond (jm_in3 x1 6) (cond (decide (¬ σ.1 9 (4 * r0 + 3) x1.toNatClampNeg = (5 : Int32))) (cond (jm_in3 x1 6) (jm_ev d (jS_springOf, 51, [some (jm_R 7 r0), some (jm_I x1), some (jm_I xs0), none], [jm_I (σ.1 9 (4 * r0 + 1) x1.toNatClampNeg)], σ)) (none)) (cond (jm_in3 x1 6) (jm_ev d (jS_springOf, 51, [some (jm_R 7 r0), some (jm_I x1), some (jm_I xs0), none], [jm_I ((σ.1 9 (4 * r0 + 1) x1.toNatClampNeg) / (2 : Int32))], σ)) (none))) (none) := (jm_un_eq [0, 17, 51] d 19 _).trans rfl
theorem gS_springOf_51 (d : Nat) (σ : jm_S) (r0 : Nat) (x1 x2 xs0 : Int32) : jm_ev d (jS_springOf, 51, [some (jm_R 7 r0), some (jm_I x1), some (jm_I x2), none], [jm_I xs0], σ) = some (some (jm_I ((xs0 * x2) * x2)), σ) := (jm_un_eq [0, 17, 51] d 8 _).trans rfl
theorem gS_tieOf_0 (d : Nat) (σ : jm_S) (r0 : Nat) (x1 : Int32) : jm_call (d + 1) jS_tieOf [jm_R 7 r0, jm_I x1] σ = (jm_call d jS_ratioOf [jm_R 7 r0, jm_I x1] σ).bind fun q => jm_ev d (jm_psh (jS_tieOf, 5, [some (jm_R 7 r0), some (jm_I x1), none, none], [], σ) q) := (jm_un_eq [0, 5, 25, 41] d 4 (jS_tieOf, 0, [some (jm_R 7 r0), some (jm_I x1), none, none], [], σ)).trans rfl
theorem gS_tieOf_5 (d : Nat) (σ : jm_S) (r0 : Nat) (x1 xs0 : Int32) : jm_ev d (jS_tieOf, 5, [some (jm_R 7 r0), some (jm_I x1), none, none], [jm_I xs0], σ) = cond (jm_in3 x1 6) (cond (decide (σ.1 9 (4 * r0 + 3) x1.toNatClampNeg = (4 : Int32))) (jm_ev d (jS_tieOf, 25, [some (jm_R 7 r0), some (jm_I x1), some (jm_I xs0), some (jm_I (σ.1 9 (4 * r0 + 3) x1.toNatClampNeg))], [], σ)) (cond (decide (¬ σ.1 9 (4 * r0 + 3) x1.toNatClampNeg = (5 : Int32))) (jm_ev d (jS_tieOf, 41, [some (jm_R 7 r0), some (jm_I x1), some (jm_I xs0), some (jm_I (σ.1 9 (4 * r0 + 3) x1.toNatClampNeg))], [jm_I (0 : Int32)], σ)) (jm_ev d (jS_tieOf, 25, [some (jm_R 7 r0), some (jm_I x1), some (jm_I xs0), some (jm_I (σ.1 9 (4 * r0 + 3) x1.toNatClampNeg))], [], σ)))) (none) := (jm_un_eq [0, 5, 25, 41] d 16 _).trans rfl
theorem gS_tieOf_25 (d : Nat) (σ : jm_S) (r0 : Nat) (x1 x2 x3 : Int32) : jm_ev d (jS_tieOf, 25, [some (jm_R 7 r0), some (jm_I x1), some (jm_I x2), some (jm_I x3)], [], σ) = cond (jm_in3 x1 6) (jm_ev d (jS_tieOf, 41, [some (jm_R 7 r0), some (jm_I x1), some (jm_I x2), some (jm_I x3)], [jm_I (((σ.1 9 (4 * r0 + 2) x1.toNatClampNeg) * x2) * x2)], σ)) (none) := (jm_un_eq [0, 5, 25, 41] d 12 _).trans rfl
theorem gS_tieOf_41 (d : Nat) (σ : jm_S) (r0 : Nat) (x1 x2 x3 xs0 : Int32) : jm_ev d (jS_tieOf, 41, [some (jm_R 7 r0), some (jm_I x1), some (jm_I x2), some (jm_I x3)], [jm_I xs0], σ) = some (some (jm_I xs0), σ) := (jm_un_eq [0, 5, 25, 41] d 2 _).trans rfl
theorem gP_measure_0 (d : Nat) (σ : jm_S) (r1 : Nat) : jm_call (d + 1) jP_measure [jm_R 14 0, jm_R 7 r1] σ = jm_ev d (jP_measure, 10, [some (jm_R 14 0), some (jm_R 7 r1), some (jm_I (0 : Int32))], [], jm_wi σ 14 0 5 (σ.1 7 r1 1)) := (jm_un_eq [0, 10, 28, 40, 52] d 7 (jP_measure, 0, [some (jm_R 14 0), some (jm_R 7 r1), none], [], σ)).trans rfl
theorem gP_measure_10 (d : Nat) (σ : jm_S) (r1 : Nat) (x2 : Int32) : jm_ev d (jP_measure, 10, [some (jm_R 14 0), some (jm_R 7 r1), some (jm_I x2)], [], σ) = cond (decide (σ.1 14 0 5 ≤ x2)) (some (none, σ)) ((jm_call d jS_weightOf [jm_R 7 r1, jm_I x2] σ).bind fun q => jm_ev d (jm_psh (jP_measure, 28, [some (jm_R 14 0), some (jm_R 7 r1), some (jm_I x2)], [jm_I x2, jm_R 15 0], σ) q)) := (jm_un_eq [0, 10, 28, 40, 52] d 11 _).trans rfl
theorem gP_measure_28 (d : Nat) (σ : jm_S) (r1 : Nat) (x2 xs0 xs1 : Int32) : jm_ev d (jP_measure, 28, [some (jm_R 14 0), some (jm_R 7 r1), some (jm_I x2)], [jm_I xs0, jm_I xs1, jm_R 15 0], σ) = cond (jm_in3 xs1 6) ((jm_call d jS_springOf [jm_R 7 r1, jm_I x2] (jm_wj σ 15 0 xs1.toNatClampNeg xs0.toInt64)).bind fun q => jm_ev d (jm_psh (jP_measure, 40, [some (jm_R 14 0), some (jm_R 7 r1), some (jm_I x2)], [jm_I x2, jm_R 16 0], jm_wj σ 15 0 xs1.toNatClampNeg xs0.toInt64) q)) (none) := (jm_un_eq [0, 10, 28, 40, 52] d 9 _).trans rfl
theorem gP_measure_40 (d : Nat) (σ : jm_S) (r1 : Nat) (x2 xs0 xs1 : Int32) : jm_ev d (jP_measure, 40, [some (jm_R 14 0), some (jm_R 7 r1), some (jm_I x2)], [jm_I xs0, jm_I xs1, jm_R 16 0], σ) = cond (jm_in3 xs1 6) ((jm_call d jS_tieOf [jm_R 7 r1, jm_I x2] (jm_wj σ 16 0 xs1.toNatClampNeg xs0.toInt64)).bind fun q => jm_ev d (jm_psh (jP_measure, 52, [some (jm_R 14 0), some (jm_R 7 r1), some (jm_I x2)], [jm_I x2, jm_R 17 0], jm_wj σ 16 0 xs1.toNatClampNeg xs0.toInt64) q)) (none) := (jm_un_eq [0, 10, 28, 40, 52] d 9 _).trans rfl
theorem gP_measure_52 (d : Nat) (σ : jm_S) (r1 : Nat) (x2 xs0 xs1 : Int32) : jm_ev d (jP_measure, 52, [some (jm_R 14 0), some (jm_R 7 r1), some (jm_I x2)], [jm_I xs0, jm_I xs1, jm_R 17 0], σ) = cond (jm_in3 xs1 6) (jm_ev d (jP_measure, 10, [some (jm_R 14 0), some (jm_R 7 r1), some (jm_I (x2 + (1 : Int32)))], [], jm_wj σ 17 0 xs1.toNatClampNeg xs0.toInt64)) (none) := (jm_un_eq [0, 10, 28, 40, 52] d 5 _).trans rfl
theorem gP_reaches_0 (d : Nat) (σ : jm_S) (x1 x2 : Int32) : jm_call (d + 1) jP_reaches [jm_R 14 0, jm_I x1, jm_I x2] σ = jm_ev d (jP_reaches, 14, [some (jm_R 14 0), some (jm_I x1), some (jm_I x2), some (jm_I (1 : Int32)), none, none, none, none, none, none], [], jm_wj (jm_wi σ 14 0 6 (0 : Int32)) 18 0 0 (1 : Int64)) := (jm_un_eq [0, 14, 36, 47, 77, 93, 95, 108, 124] d 11 (jP_reaches, 0, [some (jm_R 14 0), some (jm_I x1), some (jm_I x2), none, none, none, none, none, none, none], [], σ)).trans rfl
theorem gP_reaches_14 (d : Nat) (σ : jm_S) (x1 x2 x3 : Int32) (o4 o6 o8 : Option jm_V) : jm_ev d (jP_reaches, 14, [some (jm_R 14 0), some (jm_I x1), some (jm_I x2), some (jm_I x3), o4, none, o6, none, o8, none], [], σ) = cond (decide (x1 < x3)) (jm_ev d (jP_reaches, 124, [some (jm_R 14 0), some (jm_I x1), some (jm_I x2), some (jm_I x3), o4, none, o6, none, o8, none], [], σ)) (cond (decide (σ.1 14 0 5 < x3)) (jm_ev d (jP_reaches, 124, [some (jm_R 14 0), some (jm_I x1), some (jm_I x2), some (jm_I x3), o4, none, o6, none, o8, none], [], σ)) ((jm_call d jP_diagonal [jm_R 14 0, jm_I (x3 - (1 : Int32)), jm_I x2] σ).bind fun q => jm_ev d (jm_psh (jP_reaches, 36, [some (jm_R 14 0), some (jm_I x1), some (jm_I x2), some (jm_I x3), o4, none, o6, none, o8, none], [jm_R 14 0], σ) q))) := (jm_un_eq [0, 14, 36, 47, 77, 93, 95, 108, 124] d 15 _).trans rfl
theorem gP_reaches_36 (d : Nat) (σ : jm_S) (x1 x2 x3 : Int32) (ls0 : Int64) (o4 o6 o8 : Option jm_V) : jm_ev d (jP_reaches, 36, [some (jm_R 14 0), some (jm_I x1), some (jm_I x2), some (jm_I x3), o4, none, o6, none, o8, none], [jm_L ls0, jm_R 14 0], σ) = cond (jm_in3 (x3 - (1 : Int32)) 7) ((jm_call d jP_times [jm_R 14 0, jm_L ls0, jm_L (σ.2 18 0 ((x3 - (1 : Int32)).toNatClampNeg))] σ).bind fun q => jm_ev d (jm_psh (jP_reaches, 47, [some (jm_R 14 0), some (jm_I x1), some (jm_I x2), some (jm_I x3), o4, none, o6, none, o8, none], [], σ) q)) (none) := (jm_un_eq [0, 14, 36, 47, 77, 93, 95, 108, 124] d 8 _).trans rfl
theorem gP_reaches_47 (d : Nat) (σ : jm_S) (x1 x2 x3 : Int32) (ls0 : Int64) (o4 o6 o8 : Option jm_V) : jm_ev d (jP_reaches, 47, [some (jm_R 14 0), some (jm_I x1), some (jm_I x2), some (jm_I x3), o4, none, o6, none, o8, none], [jm_L ls0], σ) = cond (decide (x3 ≤ (1 : Int32))) (jm_ev d (jP_reaches, 95, [some (jm_R 14 0), some (jm_I x1), some (jm_I x2), some (jm_I x3), some (jm_L ls0), none, some (jm_L (0 : Int64)), none, o8, none], [], σ)) (cond (jm_in3 (x3 - (2 : Int32)) 6) (cond (jm_in3 (x3 - (2 : Int32)) 6) ((jm_call d jP_times [jm_R 14 0, jm_L (σ.2 16 0 ((x3 - (2 : Int32)).toNatClampNeg)), jm_L (σ.2 16 0 ((x3 - (2 : Int32)).toNatClampNeg))] σ).bind fun q => jm_ev d (jm_psh (jP_reaches, 77, [some (jm_R 14 0), some (jm_I x1), some (jm_I x2), some (jm_I x3), some (jm_L ls0), none, some (jm_L (0 : Int64)), none, o8, none], [], σ) q)) (none)) (none)) := (jm_un_eq [0, 14, 36, 47, 77, 93, 95, 108, 124] d 21 _).trans rfl
theorem gP_reaches_77 (d : Nat) (σ : jm_S) (x1 x2 x3 : Int32) (l4 l6 ls0 : Int64) (o8 : Option jm_V) : jm_ev d (jP_reaches, 77, [some (jm_R 14 0), some (jm_I x1), some (jm_I x2), some (jm_I x3), some (jm_L l4), none, some (jm_L l6), none, o8, none], [jm_L ls0], σ) = cond (jm_in3 (x3 - (2 : Int32)) 7) ((jm_call d jP_times [jm_R 14 0, jm_L ls0, jm_L (σ.2 18 0 ((x3 - (2 : Int32)).toNatClampNeg))] σ).bind fun q => jm_ev d (jm_psh (jP_reaches, 93, [some (jm_R 14 0), some (jm_I x1), some (jm_I x2), some (jm_I x3), some (jm_L l4), none, some (jm_L l6), none, some (jm_L ls0), none], [], σ) q)) (none) := (jm_un_eq [0, 14, 36, 47, 77, 93, 95, 108, 124] d 11 _).trans rfl
theorem gP_reaches_93 (d : Nat) (σ : jm_S) (x1 x2 x3 : Int32) (l4 l6 l8 ls0 : Int64) : jm_ev d (jP_reaches, 93, [some (jm_R 14 0), some (jm_I x1), some (jm_I x2), some (jm_I x3), some (jm_L l4), none, some (jm_L l6), none, some (jm_L l8), none], [jm_L ls0], σ) = jm_ev d (jP_reaches, 95, [some (jm_R 14 0), some (jm_I x1), some (jm_I x2), some (jm_I x3), some (jm_L l4), none, some (jm_L ls0), none, some (jm_L l8), none], [], σ) := (jm_un_eq [0, 14, 36, 47, 77, 93, 95, 108, 124] d 2 _).trans rfl
theorem gP_reaches_95 (d : Nat) (σ : jm_S) (x1 x2 x3 : Int32) (l4 l6 : Int64) (o8 : Option jm_V) : jm_ev d (jP_reaches, 95, [some (jm_R 14 0), some (jm_I x1), some (jm_I x2), some (jm_I x3), some (jm_L l4), none, some (jm_L l6), none, o8, none], [], σ) = (jm_call d jP_less [jm_R 14 0, jm_L l4, jm_L l6] σ).bind fun q => jm_ev d (jm_psh (jP_reaches, 108, [some (jm_R 14 0), some (jm_I x1), some (jm_I x2), some (jm_I x3), some (jm_L l4), none, some (jm_L l6), none, o8, none], [jm_I x3, jm_R 18 0], σ) q) := (jm_un_eq [0, 14, 36, 47, 77, 93, 95, 108, 124] d 8 _).trans rfl
theorem gP_reaches_108 (d : Nat) (σ : jm_S) (x1 x2 x3 xs1 : Int32) (l4 l6 ls0 : Int64) (o8 : Option jm_V) : jm_ev d (jP_reaches, 108, [some (jm_R 14 0), some (jm_I x1), some (jm_I x2), some (jm_I x3), some (jm_L l4), none, some (jm_L l6), none, o8, none], [jm_L ls0, jm_I xs1, jm_R 18 0], σ) = cond (jm_in3 xs1 7) (cond (decide (σ.1 14 0 6 = 0)) (jm_ev d (jP_reaches, 14, [some (jm_R 14 0), some (jm_I x1), some (jm_I x2), some (jm_I (x3 + (1 : Int32))), some (jm_L l4), none, some (jm_L l6), none, o8, none], [], jm_wj σ 18 0 xs1.toNatClampNeg ls0)) (some (some (jm_I (0 : Int32)), jm_wj σ 18 0 xs1.toNatClampNeg ls0))) (none) := (jm_un_eq [0, 14, 36, 47, 77, 93, 95, 108, 124] d 7 _).trans rfl
theorem gP_reaches_124 (d : Nat) (σ : jm_S) (x1 x2 x3 : Int32) (o4 o6 o8 : Option jm_V) : jm_ev d (jP_reaches, 124, [some (jm_R 14 0), some (jm_I x1), some (jm_I x2), some (jm_I x3), o4, none, o6, none, o8, none], [], σ) = some (some (jm_I (1 : Int32)), σ) := (jm_un_eq [0, 14, 36, 47, 77, 93, 95, 108, 124] d 3 _).trans rfl
theorem gP_diagonal_0 (d : Nat) (σ : jm_S) (x1 x2 : Int32) : jm_call (d + 1) jP_diagonal [jm_R 14 0, jm_I x1, jm_I x2] σ = cond (decide (¬ x1 = 0)) (cond (jm_in3 (x1 - (1 : Int32)) 6) (jm_ev d (jP_diagonal, 16, [some (jm_R 14 0), some (jm_I x1), some (jm_I x2), none, none], [jm_L (σ.2 16 0 ((x1 - (1 : Int32)).toNatClampNeg))], σ)) (none)) (jm_ev d (jP_diagonal, 16, [some (jm_R 14 0), some (jm_I x1), some (jm_I x2), none, none], [jm_L (0 : Int64)], σ)) := (jm_un_eq [0, 16] d 9 (jP_diagonal, 0, [some (jm_R 14 0), some (jm_I x1), some (jm_I x2), none, none], [], σ)).trans rfl
theorem gP_diagonal_16 (d : Nat) (σ : jm_S) (x1 x2 : Int32) (ls0 : Int64) : jm_ev d (jP_diagonal, 16, [some (jm_R 14 0), some (jm_I x1), some (jm_I x2), none, none], [jm_L ls0], σ) = cond (jm_in3 x1 6) (cond (jm_in3 x1 6) (cond (jm_in3 x1 6) (some (some (jm_L ((((σ.2 16 0 x1.toNatClampNeg) + ls0) + (σ.2 17 0 x1.toNatClampNeg)) - (x2.toInt64 * (σ.2 15 0 x1.toNatClampNeg)))), σ)) (none)) (none)) (none) := (jm_un_eq [0, 16] d 22 _).trans rfl
theorem gP_times_0 (d : Nat) (σ : jm_S) (l1 l3 : Int64) : jm_call (d + 1) jP_times [jm_R 14 0, jm_L l1, jm_L l3] σ = cond (decide (¬ lg_cmp l1 (-1 : Int64) = 0)) (cond (decide (lg_cmp l1 (0 : Int64) = 0)) (jm_ev d (jP_times, 67, [some (jm_R 14 0), some (jm_L l1), none, some (jm_L l3), none, some (jm_L (l1 * l3)), none], [], σ)) (cond (decide (¬ l1 = 0)) (cond (decide (lg_cmp ((l1 * l3) / l1) l3 = 0)) (jm_ev d (jP_times, 63, [some (jm_R 14 0), some (jm_L l1), none, some (jm_L l3), none, some (jm_L (l1 * l3)), none], [jm_I (0 : Int32), jm_I (σ.1 14 0 6), jm_R 14 0], σ)) (jm_ev d (jP_times, 63, [some (jm_R 14 0), some (jm_L l1), none, some (jm_L l3), none, some (jm_L (l1 * l3)), none], [jm_I (1 : Int32), jm_I (σ.1 14 0 6), jm_R 14 0], σ))) (none))) (cond (decide (¬ lg_cmp l3 (-9223372036854775808 : Int64) = 0)) (jm_ev d (jP_times, 31, [some (jm_R 14 0), some (jm_L l1), none, some (jm_L l3), none, some (jm_L (l1 * l3)), none], [jm_I (0 : Int32), jm_I (σ.1 14 0 6), jm_R 14 0], σ)) (jm_ev d (jP_times, 31, [some (jm_R 14 0), some (jm_L l1), none, some (jm_L l3), none, some (jm_L (l1 * l3)), none], [jm_I (1 : Int32), jm_I (σ.1 14 0 6), jm_R 14 0], σ))) := (jm_un_eq [0, 31, 63, 67] d 24 (jP_times, 0, [some (jm_R 14 0), some (jm_L l1), none, some (jm_L l3), none, none, none], [], σ)).trans rfl
theorem gP_times_31 (d : Nat) (σ : jm_S) (xs0 xs1 : Int32) (l1 l3 l5 : Int64) : jm_ev d (jP_times, 31, [some (jm_R 14 0), some (jm_L l1), none, some (jm_L l3), none, some (jm_L l5), none], [jm_I xs0, jm_I xs1, jm_R 14 0], σ) = cond (jm_b01 (xs1 ||| xs0)) (jm_ev d (jP_times, 67, [some (jm_R 14 0), some (jm_L l1), none, some (jm_L l3), none, some (jm_L l5), none], [], jm_wi σ 14 0 6 (xs1 ||| xs0))) (none) := (jm_un_eq [0, 31, 63, 67] d 4 _).trans rfl
theorem gP_times_63 (d : Nat) (σ : jm_S) (xs0 xs1 : Int32) (l1 l3 l5 : Int64) : jm_ev d (jP_times, 63, [some (jm_R 14 0), some (jm_L l1), none, some (jm_L l3), none, some (jm_L l5), none], [jm_I xs0, jm_I xs1, jm_R 14 0], σ) = cond (jm_b01 (xs1 ||| xs0)) (jm_ev d (jP_times, 67, [some (jm_R 14 0), some (jm_L l1), none, some (jm_L l3), none, some (jm_L l5), none], [], jm_wi σ 14 0 6 (xs1 ||| xs0))) (none) := (jm_un_eq [0, 31, 63, 67] d 3 _).trans rfl
theorem gP_times_67 (d : Nat) (σ : jm_S) (l1 l3 l5 : Int64) : jm_ev d (jP_times, 67, [some (jm_R 14 0), some (jm_L l1), none, some (jm_L l3), none, some (jm_L l5), none], [], σ) = some (some (jm_L l5), σ) := (jm_un_eq [0, 31, 63, 67] d 3 _).trans rfl
theorem gP_less_0 (d : Nat) (σ : jm_S) (l1 l3 : Int64) : jm_call (d + 1) jP_less [jm_R 14 0, jm_L l1, jm_L l3] σ = cond (decide (0 ≤ lg_cmp ((l1 ^^^ l3) &&& (l1 ^^^ (l1 - l3))) (0 : Int64))) (jm_ev d (jP_less, 28, [some (jm_R 14 0), some (jm_L l1), none, some (jm_L l3), none, some (jm_L (l1 - l3)), none], [jm_I (0 : Int32), jm_I (σ.1 14 0 6), jm_R 14 0], σ)) (jm_ev d (jP_less, 28, [some (jm_R 14 0), some (jm_L l1), none, some (jm_L l3), none, some (jm_L (l1 - l3)), none], [jm_I (1 : Int32), jm_I (σ.1 14 0 6), jm_R 14 0], σ)) := (jm_un_eq [0, 28] d 20 (jP_less, 0, [some (jm_R 14 0), some (jm_L l1), none, some (jm_L l3), none, none, none], [], σ)).trans rfl
theorem gP_less_28 (d : Nat) (σ : jm_S) (xs0 xs1 : Int32) (l1 l3 l5 : Int64) : jm_ev d (jP_less, 28, [some (jm_R 14 0), some (jm_L l1), none, some (jm_L l3), none, some (jm_L l5), none], [jm_I xs0, jm_I xs1, jm_R 14 0], σ) = cond (jm_b01 (xs1 ||| xs0)) (some (some (jm_L l5), jm_wi σ 14 0 6 (xs1 ||| xs0))) (none) := (jm_un_eq [0, 28] d 5 _).trans rfl
theorem gP_belowAt_0 (d : Nat) (σ : jm_S) (x1 : Int32) : jm_call (d + 1) jP_belowAt [jm_R 14 0, jm_I x1] σ = (jm_call d jP_reaches [jm_R 14 0, jm_I (σ.1 14 0 5), jm_I x1] σ).bind fun q => jm_ev d (jm_psh (jP_belowAt, 9, [some (jm_R 14 0), some (jm_I x1), none, none, none, none, none, none], [], σ) q) := (jm_un_eq [0, 9, 22, 63, 74] d 6 (jP_belowAt, 0, [some (jm_R 14 0), some (jm_I x1), none, none, none, none, none, none], [], σ)).trans rfl
theorem gP_belowAt_9 (d : Nat) (σ : jm_S) (x1 xs0 : Int32) : jm_ev d (jP_belowAt, 9, [some (jm_R 14 0), some (jm_I x1), none, none, none, none, none, none], [jm_I xs0], σ) = cond (decide (¬ xs0 = 0)) (jm_ev d (jP_belowAt, 22, [some (jm_R 14 0), some (jm_I x1), some (jm_I (0 : Int32)), some (jm_I (0 : Int32)), some (jm_I (1 : Int32)), none, none, none], [], σ)) (some (some (jm_I (-1000016 : Int32)), σ)) := (jm_un_eq [0, 9, 22, 63, 74] d 8 _).trans rfl
theorem gP_belowAt_22 (d : Nat) (σ : jm_S) (x1 x2 x3 x4 : Int32) (o5 o7 : Option jm_V) : jm_ev d (jP_belowAt, 22, [some (jm_R 14 0), some (jm_I x1), some (jm_I x2), some (jm_I x3), some (jm_I x4), o5, none, o7], [], σ) = cond (decide (σ.1 14 0 5 < x4)) (some (some (jm_I x2), σ)) (cond (jm_in3 x4 7) (cond (decide (¬ lg_cmp (σ.2 18 0 x4.toNatClampNeg) (0 : Int64) = 0)) (cond (decide (0 ≤ lg_cmp (σ.2 18 0 x4.toNatClampNeg) (0 : Int64))) (jm_ev d (jP_belowAt, 63, [some (jm_R 14 0), some (jm_I x1), some (jm_I x2), some (jm_I x3), some (jm_I x4), some (jm_L (σ.2 18 0 x4.toNatClampNeg)), none, o7], [jm_I (0 : Int32)], σ)) (jm_ev d (jP_belowAt, 63, [some (jm_R 14 0), some (jm_I x1), some (jm_I x2), some (jm_I x3), some (jm_I x4), some (jm_L (σ.2 18 0 x4.toNatClampNeg)), none, o7], [jm_I (1 : Int32)], σ))) (jm_ev d (jP_belowAt, 63, [some (jm_R 14 0), some (jm_I x1), some (jm_I x2), some (jm_I x3), some (jm_I x4), some (jm_L (σ.2 18 0 x4.toNatClampNeg)), none, o7], [jm_I x3], σ))) (none)) := (jm_un_eq [0, 9, 22, 63, 74] d 20 _).trans rfl
theorem gP_belowAt_63 (d : Nat) (σ : jm_S) (x1 x2 x3 x4 xs0 : Int32) (l5 : Int64) (o7 : Option jm_V) : jm_ev d (jP_belowAt, 63, [some (jm_R 14 0), some (jm_I x1), some (jm_I x2), some (jm_I x3), some (jm_I x4), some (jm_L l5), none, o7], [jm_I xs0], σ) = cond (decide (xs0 = x3)) (jm_ev d (jP_belowAt, 74, [some (jm_R 14 0), some (jm_I x1), some (jm_I x2), some (jm_I x3), some (jm_I x4), some (jm_L l5), none, some (jm_I xs0)], [], σ)) (jm_ev d (jP_belowAt, 74, [some (jm_R 14 0), some (jm_I x1), some (jm_I (x2 + (1 : Int32))), some (jm_I x3), some (jm_I x4), some (jm_L l5), none, some (jm_I xs0)], [], σ)) := (jm_un_eq [0, 9, 22, 63, 74] d 6 _).trans rfl
theorem gP_belowAt_74 (d : Nat) (σ : jm_S) (x1 x2 x3 x4 x7 : Int32) (l5 : Int64) : jm_ev d (jP_belowAt, 74, [some (jm_R 14 0), some (jm_I x1), some (jm_I x2), some (jm_I x3), some (jm_I x4), some (jm_L l5), none, some (jm_I x7)], [], σ) = jm_ev d (jP_belowAt, 22, [some (jm_R 14 0), some (jm_I x1), some (jm_I x2), some (jm_I x7), some (jm_I (x4 + (1 : Int32))), some (jm_L l5), none, some (jm_I x7)], [], σ) := (jm_un_eq [0, 9, 22, 63, 74] d 5 _).trans rfl
theorem gP_boxOf_0 (d : Nat) (σ : jm_S) (x1 : Int32) : jm_call (d + 1) jP_boxOf [jm_R 14 0, jm_I x1] σ = (jm_call d jP_belowAt [jm_R 14 0, jm_I (200 : Int32)] σ).bind fun q => jm_ev d (jm_psh (jP_boxOf, 7, [some (jm_R 14 0), some (jm_I x1), none, none, none, none, none, none], [], σ) q) := (jm_un_eq [0, 7, 35, 65, 93, 99] d 4 (jP_boxOf, 0, [some (jm_R 14 0), some (jm_I x1), none, none, none, none, none, none], [], σ)).trans rfl
theorem gP_boxOf_7 (d : Nat) (σ : jm_S) (x1 xs0 : Int32) : jm_ev d (jP_boxOf, 7, [some (jm_R 14 0), some (jm_I x1), none, none, none, none, none, none], [jm_I xs0], σ) = cond (decide (¬ xs0 = (-1000016 : Int32))) (cond (decide (x1 < xs0)) (jm_ev d (jP_boxOf, 35, [some (jm_R 14 0), some (jm_I x1), some (jm_I xs0), some (jm_I (0 : Int32)), some (jm_I (200 : Int32)), some (jm_I (0 : Int32)), none, none], [], σ)) (some (some (jm_I (-1000000 : Int32)), σ))) (some (some (jm_I (-1000016 : Int32)), σ)) := (jm_un_eq [0, 7, 35, 65, 93, 99] d 14 _).trans rfl
theorem gP_boxOf_35 (d : Nat) (σ : jm_S) (x1 x2 x3 x4 x5 : Int32) (o6 o7 : Option jm_V) : jm_ev d (jP_boxOf, 35, [some (jm_R 14 0), some (jm_I x1), some (jm_I x2), some (jm_I x3), some (jm_I x4), some (jm_I x5), o6, o7], [], σ) = cond (decide ((200 : Int32) ≤ x5)) (jm_ev d (jP_boxOf, 99, [some (jm_R 14 0), some (jm_I x1), some (jm_I x2), some (jm_I x3), some (jm_I x4), some (jm_I x5), o6, o7], [], σ)) (cond (decide (x4 ≤ x3 + (1 : Int32))) (jm_ev d (jP_boxOf, 99, [some (jm_R 14 0), some (jm_I x1), some (jm_I x2), some (jm_I x3), some (jm_I x4), some (jm_I x5), o6, o7], [], σ)) ((jm_call d jP_belowAt [jm_R 14 0, jm_I ((x3 + x4) / (2 : Int32))] σ).bind fun q => jm_ev d (jm_psh (jP_boxOf, 65, [some (jm_R 14 0), some (jm_I x1), some (jm_I x2), some (jm_I x3), some (jm_I x4), some (jm_I x5), some (jm_I ((x3 + x4) / (2 : Int32))), o7], [], σ) q))) := (jm_un_eq [0, 7, 35, 65, 93, 99] d 18 _).trans rfl
theorem gP_boxOf_65 (d : Nat) (σ : jm_S) (x1 x2 x3 x4 x5 x6 xs0 : Int32) (o7 : Option jm_V) : jm_ev d (jP_boxOf, 65, [some (jm_R 14 0), some (jm_I x1), some (jm_I x2), some (jm_I x3), some (jm_I x4), some (jm_I x5), some (jm_I x6), o7], [jm_I xs0], σ) = cond (decide (¬ xs0 = (-1000016 : Int32))) (cond (decide (x1 < xs0)) (jm_ev d (jP_boxOf, 93, [some (jm_R 14 0), some (jm_I x1), some (jm_I x2), some (jm_I x3), some (jm_I x6), some (jm_I x5), some (jm_I x6), some (jm_I xs0)], [], σ)) (jm_ev d (jP_boxOf, 93, [some (jm_R 14 0), some (jm_I x1), some (jm_I x2), some (jm_I x6), some (jm_I x4), some (jm_I x5), some (jm_I x6), some (jm_I xs0)], [], σ))) (some (some (jm_I (-1000016 : Int32)), σ)) := (jm_un_eq [0, 7, 35, 65, 93, 99] d 11 _).trans rfl
theorem gP_boxOf_93 (d : Nat) (σ : jm_S) (x1 x2 x3 x4 x5 x6 x7 : Int32) : jm_ev d (jP_boxOf, 93, [some (jm_R 14 0), some (jm_I x1), some (jm_I x2), some (jm_I x3), some (jm_I x4), some (jm_I x5), some (jm_I x6), some (jm_I x7)], [], σ) = jm_ev d (jP_boxOf, 35, [some (jm_R 14 0), some (jm_I x1), some (jm_I x2), some (jm_I x3), some (jm_I x4), some (jm_I (x5 + (1 : Int32))), some (jm_I x6), some (jm_I x7)], [], σ) := (jm_un_eq [0, 7, 35, 65, 93, 99] d 3 _).trans rfl
theorem gP_boxOf_99 (d : Nat) (σ : jm_S) (x1 x2 x3 x4 x5 : Int32) (o6 o7 : Option jm_V) : jm_ev d (jP_boxOf, 99, [some (jm_R 14 0), some (jm_I x1), some (jm_I x2), some (jm_I x3), some (jm_I x4), some (jm_I x5), o6, o7], [], σ) = some (some (jm_I x3), σ) := (jm_un_eq [0, 7, 35, 65, 93, 99] d 3 _).trans rfl
theorem gP_boxesAll_0 (d : Nat) (σ : jm_S) : jm_call (d + 1) jP_boxesAll [jm_R 14 0] σ = jm_ev d (jP_boxesAll, 2, [some (jm_R 14 0), some (jm_I (0 : Int32))], [], σ) := (jm_un_eq [0, 2, 20] d 3 (jP_boxesAll, 0, [some (jm_R 14 0), none], [], σ)).trans rfl
theorem gP_boxesAll_2 (d : Nat) (σ : jm_S) (x1 : Int32) : jm_ev d (jP_boxesAll, 2, [some (jm_R 14 0), some (jm_I x1)], [], σ) = cond (decide (σ.1 14 0 5 ≤ x1)) (some (some (jm_I (1 : Int32)), σ)) ((jm_call d jP_boxOf [jm_R 14 0, jm_I x1] σ).bind fun q => jm_ev d (jm_psh (jP_boxesAll, 20, [some (jm_R 14 0), some (jm_I x1)], [jm_I x1, jm_R 19 0], σ) q)) := (jm_un_eq [0, 2, 20] d 11 _).trans rfl
theorem gP_boxesAll_20 (d : Nat) (σ : jm_S) (x1 xs0 xs1 : Int32) : jm_ev d (jP_boxesAll, 20, [some (jm_R 14 0), some (jm_I x1)], [jm_I xs0, jm_I xs1, jm_R 19 0], σ) = cond (jm_in3 xs1 6) (cond (jm_in3 x1 6) (cond (decide (¬ (jm_wi σ 19 0 xs1.toNatClampNeg xs0).1 19 0 x1.toNatClampNeg = (-1000016 : Int32))) (jm_ev d (jP_boxesAll, 2, [some (jm_R 14 0), some (jm_I (x1 + (1 : Int32)))], [], jm_wi σ 19 0 xs1.toNatClampNeg xs0)) (some (some (jm_I (0 : Int32)), jm_wi σ 19 0 xs1.toNatClampNeg xs0))) (none)) (none) := (jm_un_eq [0, 2, 20] d 10 _).trans rfl
theorem gP_widestGap_0 (d : Nat) (σ : jm_S) : jm_call (d + 1) jP_widestGap [jm_R 14 0] σ = jm_ev d (jP_widestGap, 7, [some (jm_R 14 0), some (jm_I (-1000000 : Int32)), some (jm_I (-1 : Int32)), some (jm_I (1 : Int32))], [], σ) := (jm_un_eq [0, 7, 47, 56, 59] d 7 (jP_widestGap, 0, [some (jm_R 14 0), none, none, none], [], σ)).trans rfl
theorem gP_widestGap_7 (d : Nat) (σ : jm_S) (x1 x2 x3 : Int32) : jm_ev d (jP_widestGap, 7, [some (jm_R 14 0), some (jm_I x1), some (jm_I x2), some (jm_I x3)], [], σ) = cond (decide (σ.1 14 0 5 ≤ x3)) (some (some (jm_I x1), σ)) (cond (jm_in3 x3 6) (cond (decide (σ.1 19 0 x3.toNatClampNeg = (-1000000 : Int32))) (jm_ev d (jP_widestGap, 59, [some (jm_R 14 0), some (jm_I x1), some (jm_I x2), some (jm_I x3)], [], σ)) (cond (jm_in3 (x3 - (1 : Int32)) 6) (cond (decide (¬ σ.1 19 0 ((x3 - (1 : Int32)).toNatClampNeg) = (-1000000 : Int32))) ((jm_call d jP_gapAt [jm_R 14 0, jm_I x3] σ).bind fun q => jm_ev d (jm_psh (jP_widestGap, 47, [some (jm_R 14 0), some (jm_I x1), some (jm_I x2), some (jm_I x3)], [], σ) q)) (jm_ev d (jP_widestGap, 59, [some (jm_R 14 0), some (jm_I x1), some (jm_I x2), some (jm_I x3)], [], σ))) (none))) (none)) := (jm_un_eq [0, 7, 47, 56, 59] d 22 _).trans rfl
theorem gP_widestGap_47 (d : Nat) (σ : jm_S) (x1 x2 x3 xs0 : Int32) : jm_ev d (jP_widestGap, 47, [some (jm_R 14 0), some (jm_I x1), some (jm_I x2), some (jm_I x3)], [jm_I xs0], σ) = cond (decide (xs0 ≤ x2)) (jm_ev d (jP_widestGap, 59, [some (jm_R 14 0), some (jm_I x1), some (jm_I x2), some (jm_I x3)], [], σ)) ((jm_call d jP_gapAt [jm_R 14 0, jm_I x3] σ).bind fun q => jm_ev d (jm_psh (jP_widestGap, 56, [some (jm_R 14 0), some (jm_I x1), some (jm_I x2), some (jm_I x3)], [], σ) q)) := (jm_un_eq [0, 7, 47, 56, 59] d 6 _).trans rfl
theorem gP_widestGap_56 (d : Nat) (σ : jm_S) (x1 x2 x3 xs0 : Int32) : jm_ev d (jP_widestGap, 56, [some (jm_R 14 0), some (jm_I x1), some (jm_I x2), some (jm_I x3)], [jm_I xs0], σ) = jm_ev d (jP_widestGap, 59, [some (jm_R 14 0), some (jm_I x3), some (jm_I xs0), some (jm_I x3)], [], σ) := (jm_un_eq [0, 7, 47, 56, 59] d 4 _).trans rfl
theorem gP_widestGap_59 (d : Nat) (σ : jm_S) (x1 x2 x3 : Int32) : jm_ev d (jP_widestGap, 59, [some (jm_R 14 0), some (jm_I x1), some (jm_I x2), some (jm_I x3)], [], σ) = jm_ev d (jP_widestGap, 7, [some (jm_R 14 0), some (jm_I x1), some (jm_I x2), some (jm_I (x3 + (1 : Int32)))], [], σ) := (jm_un_eq [0, 7, 47, 56, 59] d 3 _).trans rfl
theorem gP_gapAt_0 (d : Nat) (σ : jm_S) (x1 : Int32) : jm_call (d + 1) jP_gapAt [jm_R 14 0, jm_I x1] σ = cond (decide (x1 ≤ 0)) (jm_ev d (jP_gapAt, 30, [some (jm_R 14 0), some (jm_I x1)], [], σ)) (cond (decide (σ.1 14 0 5 ≤ x1)) (jm_ev d (jP_gapAt, 30, [some (jm_R 14 0), some (jm_I x1)], [], σ)) (cond (jm_in3 x1 6) (cond (jm_in3 (x1 - (1 : Int32)) 6) (jm_ev d (jP_gapAt, 31, [some (jm_R 14 0), some (jm_I x1)], [jm_I ((σ.1 19 0 x1.toNatClampNeg) - (σ.1 19 0 ((x1 - (1 : Int32)).toNatClampNeg)))], σ)) (none)) (none))) := (jm_un_eq [0, 30, 31] d 19 (jP_gapAt, 0, [some (jm_R 14 0), some (jm_I x1)], [], σ)).trans rfl
theorem gP_gapAt_30 (d : Nat) (σ : jm_S) (x1 : Int32) : jm_ev d (jP_gapAt, 30, [some (jm_R 14 0), some (jm_I x1)], [], σ) = jm_ev d (jP_gapAt, 31, [some (jm_R 14 0), some (jm_I x1)], [jm_I (0 : Int32)], σ) := (jm_un_eq [0, 30, 31] d 2 _).trans rfl
theorem gP_gapAt_31 (d : Nat) (σ : jm_S) (x1 xs0 : Int32) : jm_ev d (jP_gapAt, 31, [some (jm_R 14 0), some (jm_I x1)], [jm_I xs0], σ) = some (some (jm_I xs0), σ) := (jm_un_eq [0, 30, 31] d 2 _).trans rfl
theorem gP_isClearBy_0 (d : Nat) (σ : jm_S) (x1 x2 : Int32) : jm_call (d + 1) jP_isClearBy [jm_R 14 0, jm_I x1, jm_I x2] σ = jm_ev d (jP_isClearBy, 2, [some (jm_R 14 0), some (jm_I x1), some (jm_I x2), some (jm_I (0 : Int32))], [], σ) := (jm_un_eq [0, 2, 38] d 3 (jP_isClearBy, 0, [some (jm_R 14 0), some (jm_I x1), some (jm_I x2), none], [], σ)).trans rfl
theorem gP_isClearBy_2 (d : Nat) (σ : jm_S) (x1 x2 x3 : Int32) : jm_ev d (jP_isClearBy, 2, [some (jm_R 14 0), some (jm_I x1), some (jm_I x2), some (jm_I x3)], [], σ) = cond (decide (σ.1 14 0 5 ≤ x3)) (some (some (jm_I (1 : Int32)), σ)) (cond (jm_in3 x3 6) (cond (decide (σ.1 19 0 x3.toNatClampNeg = (-1000000 : Int32))) (jm_ev d (jP_isClearBy, 38, [some (jm_R 14 0), some (jm_I x1), some (jm_I x2), some (jm_I x3)], [], σ)) (cond (jm_in3 x3 6) (cond (decide (x2 < if 0 ≤ x1 - (σ.1 19 0 x3.toNatClampNeg) then x1 - (σ.1 19 0 x3.toNatClampNeg) else 0 - (x1 - (σ.1 19 0 x3.toNatClampNeg)))) (jm_ev d (jP_isClearBy, 38, [some (jm_R 14 0), some (jm_I x1), some (jm_I x2), some (jm_I x3)], [], σ)) (some (some (jm_I (0 : Int32)), σ))) (none))) (none)) := (jm_un_eq [0, 2, 38] d 22 _).trans rfl
theorem gP_isClearBy_38 (d : Nat) (σ : jm_S) (x1 x2 x3 : Int32) : jm_ev d (jP_isClearBy, 38, [some (jm_R 14 0), some (jm_I x1), some (jm_I x2), some (jm_I x3)], [], σ) = jm_ev d (jP_isClearBy, 2, [some (jm_R 14 0), some (jm_I x1), some (jm_I x2), some (jm_I (x3 + (1 : Int32)))], [], σ) := (jm_un_eq [0, 2, 38] d 3 _).trans rfl
theorem gD_row_0 (d : Nat) (σ : jm_S) (x1 x2 x3 : Int32) : jm_call (d + 1) jD_row [jm_R 0 0, jm_I x1, jm_I x2, jm_I x3] σ = (jm_call d jD_isRow [jm_I x1] σ).bind fun q => jm_ev d (jm_psh (jD_row, 4, [some (jm_R 0 0), some (jm_I x1), some (jm_I x2), some (jm_I x3), none], [], σ) q) := (jm_un_eq [0, 4, 22, 34, 52, 80] d 3 (jD_row, 0, [some (jm_R 0 0), some (jm_I x1), some (jm_I x2), some (jm_I x3), none], [], σ)).trans rfl
theorem gD_row_4 (d : Nat) (σ : jm_S) (x1 x2 x3 xs0 : Int32) : jm_ev d (jD_row, 4, [some (jm_R 0 0), some (jm_I x1), some (jm_I x2), some (jm_I x3), none], [jm_I xs0], σ) = cond (decide (xs0 = 0)) (jm_ev d (jD_row, 22, [some (jm_R 0 0), some (jm_I x1), some (jm_I x2), some (jm_I x3), none], [], σ)) (cond (decide (x2 < 0)) (jm_ev d (jD_row, 22, [some (jm_R 0 0), some (jm_I x1), some (jm_I x2), some (jm_I x3), none], [], σ)) (cond (decide ((2 : Int32) < x2)) (jm_ev d (jD_row, 22, [some (jm_R 0 0), some (jm_I x1), some (jm_I x2), some (jm_I x3), none], [], σ)) (cond (decide (x3 ≤ (40 : Int32))) (cond (decide (0 ≤ x3)) (cond (jm_in3 x1 8) (cond (jm_in3 x1 8) (jm_ev d (jD_row, 52, [some (jm_R 0 0), some (jm_I x1), some (jm_I x2), some (jm_I x3), some (jm_I (0 : Int32))], [], jm_wi (jm_wi σ 1 0 x1.toNatClampNeg x2) 2 0 x1.toNatClampNeg x3)) (none)) (none)) ((jm_call d jD_found [jm_R 0 0, jm_I (4 : Int32)] σ).bind fun q => jm_ev d (jm_psh (jD_row, 34, [some (jm_R 0 0), some (jm_I x1), some (jm_I x2), some (jm_I x3), none], [], σ) q))) (jm_ev d (jD_row, 22, [some (jm_R 0 0), some (jm_I x1), some (jm_I x2), some (jm_I x3), none], [], σ))))) := (jm_un_eq [0, 4, 22, 34, 52, 80] d 24 _).trans rfl
theorem gD_row_22 (d : Nat) (σ : jm_S) (x1 x2 x3 : Int32) : jm_ev d (jD_row, 22, [some (jm_R 0 0), some (jm_I x1), some (jm_I x2), some (jm_I x3), none], [], σ) = some (some (jm_I (-1000001 : Int32)), σ) := (jm_un_eq [0, 4, 22, 34, 52, 80] d 3 _).trans rfl
theorem gD_row_34 (d : Nat) (σ : jm_S) (x1 x2 x3 xs0 : Int32) : jm_ev d (jD_row, 34, [some (jm_R 0 0), some (jm_I x1), some (jm_I x2), some (jm_I x3), none], [jm_I xs0], σ) = some (some (jm_I xs0), σ) := (jm_un_eq [0, 4, 22, 34, 52, 80] d 2 _).trans rfl
theorem gD_row_52 (d : Nat) (σ : jm_S) (x1 x2 x3 x4 : Int32) : jm_ev d (jD_row, 52, [some (jm_R 0 0), some (jm_I x1), some (jm_I x2), some (jm_I x3), some (jm_I x4)], [], σ) = cond (decide ((40 : Int32) ≤ x4)) ((jm_call d jD_clean [jm_R 0 0, jm_I x3] σ).bind fun q => jm_ev d (jm_psh (jD_row, 80, [some (jm_R 0 0), some (jm_I x1), some (jm_I x2), some (jm_I x3), some (jm_I x4)], [], σ) q)) (cond (jm_in3 x1 8) (cond (jm_in3 x4 40) (jm_ev d (jD_row, 52, [some (jm_R 0 0), some (jm_I x1), some (jm_I x2), some (jm_I x3), some (jm_I (x4 + (1 : Int32)))], [], jm_wi σ 4 x1.toNatClampNeg x4.toNatClampNeg (0 : Int32))) (none)) (none)) := (jm_un_eq [0, 4, 22, 34, 52, 80] d 13 _).trans rfl
theorem gD_row_80 (d : Nat) (σ : jm_S) (x1 x2 x3 x4 xs0 : Int32) : jm_ev d (jD_row, 80, [some (jm_R 0 0), some (jm_I x1), some (jm_I x2), some (jm_I x3), some (jm_I x4)], [jm_I xs0], σ) = some (some (jm_I xs0), σ) := (jm_un_eq [0, 4, 22, 34, 52, 80] d 2 _).trans rfl
theorem gD_set_0 (d : Nat) (σ : jm_S) (x1 x2 x3 : Int32) : jm_call (d + 1) jD_set [jm_R 0 0, jm_I x1, jm_I x2, jm_I x3] σ = (jm_call d jD_isRow [jm_I x1] σ).bind fun q => jm_ev d (jm_psh (jD_set, 4, [some (jm_R 0 0), some (jm_I x1), some (jm_I x2), some (jm_I x3)], [], σ) q) := (jm_un_eq [0, 4, 15, 23, 31, 39, 57, 70] d 3 (jD_set, 0, [some (jm_R 0 0), some (jm_I x1), some (jm_I x2), some (jm_I x3)], [], σ)).trans rfl
theorem gD_set_4 (d : Nat) (σ : jm_S) (x1 x2 x3 xs0 : Int32) : jm_ev d (jD_set, 4, [some (jm_R 0 0), some (jm_I x1), some (jm_I x2), some (jm_I x3)], [jm_I xs0], σ) = cond (decide (¬ xs0 = 0)) ((jm_call d jD_isMissing [jm_R 0 0, jm_I x1] σ).bind fun q => jm_ev d (jm_psh (jD_set, 15, [some (jm_R 0 0), some (jm_I x1), some (jm_I x2), some (jm_I x3)], [], σ) q)) (some (some (jm_I (-1000001 : Int32)), σ)) := (jm_un_eq [0, 4, 15, 23, 31, 39, 57, 70] d 5 _).trans rfl
theorem gD_set_15 (d : Nat) (σ : jm_S) (x1 x2 x3 xs0 : Int32) : jm_ev d (jD_set, 15, [some (jm_R 0 0), some (jm_I x1), some (jm_I x2), some (jm_I x3)], [jm_I xs0], σ) = cond (decide (xs0 = 0)) ((jm_call d jD_isWithin [jm_R 0 0, jm_I x1, jm_I x2, jm_I (1 : Int32)] σ).bind fun q => jm_ev d (jm_psh (jD_set, 31, [some (jm_R 0 0), some (jm_I x1), some (jm_I x2), some (jm_I x3)], [], σ) q)) ((jm_call d jD_found [jm_R 0 0, jm_I (1 : Int32)] σ).bind fun q => jm_ev d (jm_psh (jD_set, 23, [some (jm_R 0 0), some (jm_I x1), some (jm_I x2), some (jm_I x3)], [], σ) q)) := (jm_un_eq [0, 4, 15, 23, 31, 39, 57, 70] d 7 _).trans rfl
theorem gD_set_23 (d : Nat) (σ : jm_S) (x1 x2 x3 xs0 : Int32) : jm_ev d (jD_set, 23, [some (jm_R 0 0), some (jm_I x1), some (jm_I x2), some (jm_I x3)], [jm_I xs0], σ) = some (some (jm_I xs0), σ) := (jm_un_eq [0, 4, 15, 23, 31, 39, 57, 70] d 2 _).trans rfl
theorem gD_set_31 (d : Nat) (σ : jm_S) (x1 x2 x3 xs0 : Int32) : jm_ev d (jD_set, 31, [some (jm_R 0 0), some (jm_I x1), some (jm_I x2), some (jm_I x3)], [jm_I xs0], σ) = cond (decide (¬ xs0 = 0)) (cond (jm_in3 x1 8) (cond (jm_in3 x1 8) ((jm_call d jD_narrowed [jm_I (σ.1 1 0 x1.toNatClampNeg), jm_I x3] σ).bind fun q => jm_ev d (jm_psh (jD_set, 57, [some (jm_R 0 0), some (jm_I x1), some (jm_I x2), some (jm_I x3)], [jm_I x2, jm_R 4 x1.toNatClampNeg], σ) q)) (none)) (none)) ((jm_call d jD_found [jm_R 0 0, jm_I (2 : Int32)] σ).bind fun q => jm_ev d (jm_psh (jD_set, 39, [some (jm_R 0 0), some (jm_I x1), some (jm_I x2), some (jm_I x3)], [], σ) q)) := (jm_un_eq [0, 4, 15, 23, 31, 39, 57, 70] d 13 _).trans rfl
theorem gD_set_39 (d : Nat) (σ : jm_S) (x1 x2 x3 xs0 : Int32) : jm_ev d (jD_set, 39, [some (jm_R 0 0), some (jm_I x1), some (jm_I x2), some (jm_I x3)], [jm_I xs0], σ) = some (some (jm_I xs0), σ) := (jm_un_eq [0, 4, 15, 23, 31, 39, 57, 70] d 2 _).trans rfl
theorem gD_set_57 (d : Nat) (σ : jm_S) (rs2 : Nat) (x1 x2 x3 xs0 xs1 : Int32) : jm_ev d (jD_set, 57, [some (jm_R 0 0), some (jm_I x1), some (jm_I x2), some (jm_I x3)], [jm_I xs0, jm_I xs1, jm_R 4 rs2], σ) = cond (jm_in3 xs1 40) (cond (jm_in3 x1 8) (cond (jm_in3 x2 40) ((jm_call d jD_clean [jm_R 0 0, jm_I ((jm_wi σ 4 rs2 xs1.toNatClampNeg xs0).1 4 x1.toNatClampNeg x2.toNatClampNeg)] (jm_wi σ 4 rs2 xs1.toNatClampNeg xs0)).bind fun q => jm_ev d (jm_psh (jD_set, 70, [some (jm_R 0 0), some (jm_I x1), some (jm_I x2), some (jm_I x3)], [], jm_wi σ 4 rs2 xs1.toNatClampNeg xs0) q)) (none)) (none)) (none) := (jm_un_eq [0, 4, 15, 23, 31, 39, 57, 70] d 10 _).trans rfl
theorem gD_set_70 (d : Nat) (σ : jm_S) (x1 x2 x3 xs0 : Int32) : jm_ev d (jD_set, 70, [some (jm_R 0 0), some (jm_I x1), some (jm_I x2), some (jm_I x3)], [jm_I xs0], σ) = some (some (jm_I xs0), σ) := (jm_un_eq [0, 4, 15, 23, 31, 39, 57, 70] d 2 _).trans rfl
theorem gD_copy_0 (d : Nat) (σ : jm_S) (x1 x2 x3 x4 x5 : Int32) : jm_call (d + 1) jD_copy [jm_R 0 0, jm_I x1, jm_I x2, jm_I x3, jm_I x4, jm_I x5] σ = (jm_call d jD_isRow [jm_I x1] σ).bind fun q => jm_ev d (jm_psh (jD_copy, 4, [some (jm_R 0 0), some (jm_I x1), some (jm_I x2), some (jm_I x3), some (jm_I x4), some (jm_I x5)], [], σ) q) := (jm_un_eq [0, 4, 11, 14, 22, 30, 33, 38, 59, 68, 80, 83, 88, 115] d 3 (jD_copy, 0, [some (jm_R 0 0), some (jm_I x1), some (jm_I x2), some (jm_I x3), some (jm_I x4), some (jm_I x5)], [], σ)).trans rfl
theorem gD_copy_4 (d : Nat) (σ : jm_S) (x1 x2 x3 x4 x5 xs0 : Int32) : jm_ev d (jD_copy, 4, [some (jm_R 0 0), some (jm_I x1), some (jm_I x2), some (jm_I x3), some (jm_I x4), some (jm_I x5)], [jm_I xs0], σ) = cond (decide (xs0 = 0)) (jm_ev d (jD_copy, 14, [some (jm_R 0 0), some (jm_I x1), some (jm_I x2), some (jm_I x3), some (jm_I x4), some (jm_I x5)], [], σ)) ((jm_call d jD_isRow [jm_I x3] σ).bind fun q => jm_ev d (jm_psh (jD_copy, 11, [some (jm_R 0 0), some (jm_I x1), some (jm_I x2), some (jm_I x3), some (jm_I x4), some (jm_I x5)], [], σ) q)) := (jm_un_eq [0, 4, 11, 14, 22, 30, 33, 38, 59, 68, 80, 83, 88, 115] d 4 _).trans rfl
theorem gD_copy_11 (d : Nat) (σ : jm_S) (x1 x2 x3 x4 x5 xs0 : Int32) : jm_ev d (jD_copy, 11, [some (jm_R 0 0), some (jm_I x1), some (jm_I x2), some (jm_I x3), some (jm_I x4), some (jm_I x5)], [jm_I xs0], σ) = cond (decide (¬ xs0 = 0)) ((jm_call d jD_isMissing [jm_R 0 0, jm_I x1] σ).bind fun q => jm_ev d (jm_psh (jD_copy, 22, [some (jm_R 0 0), some (jm_I x1), some (jm_I x2), some (jm_I x3), some (jm_I x4), some (jm_I x5)], [], σ) q)) (jm_ev d (jD_copy, 14, [some (jm_R 0 0), some (jm_I x1), some (jm_I x2), some (jm_I x3), some (jm_I x4), some (jm_I x5)], [], σ)) := (jm_un_eq [0, 4, 11, 14, 22, 30, 33, 38, 59, 68, 80, 83, 88, 115] d 5 _).trans rfl
theorem gD_copy_14 (d : Nat) (σ : jm_S) (x1 x2 x3 x4 x5 : Int32) : jm_ev d (jD_copy, 14, [some (jm_R 0 0), some (jm_I x1), some (jm_I x2), some (jm_I x3), some (jm_I x4), some (jm_I x5)], [], σ) = some (some (jm_I (-1000001 : Int32)), σ) := (jm_un_eq [0, 4, 11, 14, 22, 30, 33, 38, 59, 68, 80, 83, 88, 115] d 3 _).trans rfl
theorem gD_copy_22 (d : Nat) (σ : jm_S) (x1 x2 x3 x4 x5 xs0 : Int32) : jm_ev d (jD_copy, 22, [some (jm_R 0 0), some (jm_I x1), some (jm_I x2), some (jm_I x3), some (jm_I x4), some (jm_I x5)], [jm_I xs0], σ) = cond (decide (¬ xs0 = 0)) (jm_ev d (jD_copy, 33, [some (jm_R 0 0), some (jm_I x1), some (jm_I x2), some (jm_I x3), some (jm_I x4), some (jm_I x5)], [], σ)) ((jm_call d jD_isMissing [jm_R 0 0, jm_I x3] σ).bind fun q => jm_ev d (jm_psh (jD_copy, 30, [some (jm_R 0 0), some (jm_I x1), some (jm_I x2), some (jm_I x3), some (jm_I x4), some (jm_I x5)], [], σ) q)) := (jm_un_eq [0, 4, 11, 14, 22, 30, 33, 38, 59, 68, 80, 83, 88, 115] d 5 _).trans rfl
theorem gD_copy_30 (d : Nat) (σ : jm_S) (x1 x2 x3 x4 x5 xs0 : Int32) : jm_ev d (jD_copy, 30, [some (jm_R 0 0), some (jm_I x1), some (jm_I x2), some (jm_I x3), some (jm_I x4), some (jm_I x5)], [jm_I xs0], σ) = cond (decide (xs0 = 0)) (cond (jm_in3 x1 8) (cond (jm_in3 x3 8) (cond (decide (σ.1 1 0 x1.toNatClampNeg = σ.1 1 0 x3.toNatClampNeg)) ((jm_call d jD_isWithin [jm_R 0 0, jm_I x1, jm_I x2, jm_I x5] σ).bind fun q => jm_ev d (jm_psh (jD_copy, 68, [some (jm_R 0 0), some (jm_I x1), some (jm_I x2), some (jm_I x3), some (jm_I x4), some (jm_I x5)], [], σ) q)) ((jm_call d jD_found [jm_R 0 0, jm_I (5 : Int32)] σ).bind fun q => jm_ev d (jm_psh (jD_copy, 59, [some (jm_R 0 0), some (jm_I x1), some (jm_I x2), some (jm_I x3), some (jm_I x4), some (jm_I x5)], [], σ) q))) (none)) (none)) (jm_ev d (jD_copy, 33, [some (jm_R 0 0), some (jm_I x1), some (jm_I x2), some (jm_I x3), some (jm_I x4), some (jm_I x5)], [], σ)) := (jm_un_eq [0, 4, 11, 14, 22, 30, 33, 38, 59, 68, 80, 83, 88, 115] d 16 _).trans rfl
theorem gD_copy_33 (d : Nat) (σ : jm_S) (x1 x2 x3 x4 x5 : Int32) : jm_ev d (jD_copy, 33, [some (jm_R 0 0), some (jm_I x1), some (jm_I x2), some (jm_I x3), some (jm_I x4), some (jm_I x5)], [], σ) = (jm_call d jD_found [jm_R 0 0, jm_I (1 : Int32)] σ).bind fun q => jm_ev d (jm_psh (jD_copy, 38, [some (jm_R 0 0), some (jm_I x1), some (jm_I x2), some (jm_I x3), some (jm_I x4), some (jm_I x5)], [], σ) q) := (jm_un_eq [0, 4, 11, 14, 22, 30, 33, 38, 59, 68, 80, 83, 88, 115] d 4 _).trans rfl
theorem gD_copy_38 (d : Nat) (σ : jm_S) (x1 x2 x3 x4 x5 xs0 : Int32) : jm_ev d (jD_copy, 38, [some (jm_R 0 0), some (jm_I x1), some (jm_I x2), some (jm_I x3), some (jm_I x4), some (jm_I x5)], [jm_I xs0], σ) = some (some (jm_I xs0), σ) := (jm_un_eq [0, 4, 11, 14, 22, 30, 33, 38, 59, 68, 80, 83, 88, 115] d 2 _).trans rfl
theorem gD_copy_59 (d : Nat) (σ : jm_S) (x1 x2 x3 x4 x5 xs0 : Int32) : jm_ev d (jD_copy, 59, [some (jm_R 0 0), some (jm_I x1), some (jm_I x2), some (jm_I x3), some (jm_I x4), some (jm_I x5)], [jm_I xs0], σ) = some (some (jm_I xs0), σ) := (jm_un_eq [0, 4, 11, 14, 22, 30, 33, 38, 59, 68, 80, 83, 88, 115] d 2 _).trans rfl
theorem gD_copy_68 (d : Nat) (σ : jm_S) (x1 x2 x3 x4 x5 xs0 : Int32) : jm_ev d (jD_copy, 68, [some (jm_R 0 0), some (jm_I x1), some (jm_I x2), some (jm_I x3), some (jm_I x4), some (jm_I x5)], [jm_I xs0], σ) = cond (decide (xs0 = 0)) (jm_ev d (jD_copy, 83, [some (jm_R 0 0), some (jm_I x1), some (jm_I x2), some (jm_I x3), some (jm_I x4), some (jm_I x5)], [], σ)) ((jm_call d jD_isWithin [jm_R 0 0, jm_I x3, jm_I x4, jm_I x5] σ).bind fun q => jm_ev d (jm_psh (jD_copy, 80, [some (jm_R 0 0), some (jm_I x1), some (jm_I x2), some (jm_I x3), some (jm_I x4), some (jm_I x5)], [], σ) q)) := (jm_un_eq [0, 4, 11, 14, 22, 30, 33, 38, 59, 68, 80, 83, 88, 115] d 7 _).trans rfl
theorem gD_copy_80 (d : Nat) (σ : jm_S) (x1 x2 x3 x4 x5 xs0 : Int32) : jm_ev d (jD_copy, 80, [some (jm_R 0 0), some (jm_I x1), some (jm_I x2), some (jm_I x3), some (jm_I x4), some (jm_I x5)], [jm_I xs0], σ) = cond (decide (¬ xs0 = 0)) (cond (jm_in3 x1 8) (cond (jm_in3 x3 8) (cond (decide (¬ x2 < 0 ∧ ¬ x4 < 0 ∧ ¬ x5 < 0 ∧ x2.toNatClampNeg + x5.toNatClampNeg ≤ 40 ∧ x4.toNatClampNeg + x5.toNatClampNeg ≤ 40)) ((jm_call d jD_clean [jm_R 0 0, jm_I x5] (jm_wc σ 4 x3.toNatClampNeg 4 x1.toNatClampNeg x2.toNatClampNeg x4.toNatClampNeg x5.toNatClampNeg)).bind fun q => jm_ev d (jm_psh (jD_copy, 115, [some (jm_R 0 0), some (jm_I x1), some (jm_I x2), some (jm_I x3), some (jm_I x4), some (jm_I x5)], [], jm_wc σ 4 x3.toNatClampNeg 4 x1.toNatClampNeg x2.toNatClampNeg x4.toNatClampNeg x5.toNatClampNeg) q)) (none)) (none)) (none)) (jm_ev d (jD_copy, 83, [some (jm_R 0 0), some (jm_I x1), some (jm_I x2), some (jm_I x3), some (jm_I x4), some (jm_I x5)], [], σ)) := (jm_un_eq [0, 4, 11, 14, 22, 30, 33, 38, 59, 68, 80, 83, 88, 115] d 17 _).trans rfl
theorem gD_copy_83 (d : Nat) (σ : jm_S) (x1 x2 x3 x4 x5 : Int32) : jm_ev d (jD_copy, 83, [some (jm_R 0 0), some (jm_I x1), some (jm_I x2), some (jm_I x3), some (jm_I x4), some (jm_I x5)], [], σ) = (jm_call d jD_found [jm_R 0 0, jm_I (2 : Int32)] σ).bind fun q => jm_ev d (jm_psh (jD_copy, 88, [some (jm_R 0 0), some (jm_I x1), some (jm_I x2), some (jm_I x3), some (jm_I x4), some (jm_I x5)], [], σ) q) := (jm_un_eq [0, 4, 11, 14, 22, 30, 33, 38, 59, 68, 80, 83, 88, 115] d 4 _).trans rfl
theorem gD_copy_88 (d : Nat) (σ : jm_S) (x1 x2 x3 x4 x5 xs0 : Int32) : jm_ev d (jD_copy, 88, [some (jm_R 0 0), some (jm_I x1), some (jm_I x2), some (jm_I x3), some (jm_I x4), some (jm_I x5)], [jm_I xs0], σ) = some (some (jm_I xs0), σ) := (jm_un_eq [0, 4, 11, 14, 22, 30, 33, 38, 59, 68, 80, 83, 88, 115] d 2 _).trans rfl
theorem gD_copy_115 (d : Nat) (σ : jm_S) (x1 x2 x3 x4 x5 xs0 : Int32) : jm_ev d (jD_copy, 115, [some (jm_R 0 0), some (jm_I x1), some (jm_I x2), some (jm_I x3), some (jm_I x4), some (jm_I x5)], [jm_I xs0], σ) = some (some (jm_I xs0), σ) := (jm_un_eq [0, 4, 11, 14, 22, 30, 33, 38, 59, 68, 80, 83, 88, 115] d 2 _).trans rfl
theorem gD_drop_0 (d : Nat) (σ : jm_S) (x1 : Int32) : jm_call (d + 1) jD_drop [jm_R 0 0, jm_I x1] σ = (jm_call d jD_isRow [jm_I x1] σ).bind fun q => jm_ev d (jm_psh (jD_drop, 4, [some (jm_R 0 0), some (jm_I x1), none], [], σ) q) := (jm_un_eq [0, 4, 15, 23, 43] d 3 (jD_drop, 0, [some (jm_R 0 0), some (jm_I x1), none], [], σ)).trans rfl
theorem gD_drop_4 (d : Nat) (σ : jm_S) (x1 xs0 : Int32) : jm_ev d (jD_drop, 4, [some (jm_R 0 0), some (jm_I x1), none], [jm_I xs0], σ) = cond (decide (¬ xs0 = 0)) ((jm_call d jD_isMissing [jm_R 0 0, jm_I x1] σ).bind fun q => jm_ev d (jm_psh (jD_drop, 15, [some (jm_R 0 0), some (jm_I x1), none], [], σ) q)) (some (some (jm_I (-1000001 : Int32)), σ)) := (jm_un_eq [0, 4, 15, 23, 43] d 5 _).trans rfl
theorem gD_drop_15 (d : Nat) (σ : jm_S) (x1 xs0 : Int32) : jm_ev d (jD_drop, 15, [some (jm_R 0 0), some (jm_I x1), none], [jm_I xs0], σ) = cond (decide (xs0 = 0)) (cond (jm_in3 x1 8) (cond (jm_in3 x1 8) ((jm_call d jD_clean [jm_R 0 0, jm_I (σ.1 2 0 x1.toNatClampNeg)] (jm_wi σ 2 0 x1.toNatClampNeg (-1 : Int32))).bind fun q => jm_ev d (jm_psh (jD_drop, 43, [some (jm_R 0 0), some (jm_I x1), some (jm_I (σ.1 2 0 x1.toNatClampNeg))], [], jm_wi σ 2 0 x1.toNatClampNeg (-1 : Int32)) q)) (none)) (none)) ((jm_call d jD_found [jm_R 0 0, jm_I (1 : Int32)] σ).bind fun q => jm_ev d (jm_psh (jD_drop, 23, [some (jm_R 0 0), some (jm_I x1), none], [], σ) q)) := (jm_un_eq [0, 4, 15, 23, 43] d 15 _).trans rfl
theorem gD_drop_23 (d : Nat) (σ : jm_S) (x1 xs0 : Int32) : jm_ev d (jD_drop, 23, [some (jm_R 0 0), some (jm_I x1), none], [jm_I xs0], σ) = some (some (jm_I xs0), σ) := (jm_un_eq [0, 4, 15, 23, 43] d 2 _).trans rfl
theorem gD_drop_43 (d : Nat) (σ : jm_S) (x1 x2 xs0 : Int32) : jm_ev d (jD_drop, 43, [some (jm_R 0 0), some (jm_I x1), some (jm_I x2)], [jm_I xs0], σ) = some (some (jm_I xs0), σ) := (jm_un_eq [0, 4, 15, 23, 43] d 2 _).trans rfl
theorem gD_isRow_0 (d : Nat) (σ : jm_S) (x0 : Int32) : jm_call (d + 1) jD_isRow [jm_I x0] σ = cond (decide (x0 < 0)) (jm_ev d (jD_isRow, 14, [some (jm_I x0)], [], σ)) (cond (decide ((8 : Int32) ≤ x0)) (jm_ev d (jD_isRow, 14, [some (jm_I x0)], [], σ)) (jm_ev d (jD_isRow, 15, [some (jm_I x0)], [jm_I (1 : Int32)], σ))) := (jm_un_eq [0, 14, 15] d 8 (jD_isRow, 0, [some (jm_I x0)], [], σ)).trans rfl
theorem gD_isRow_14 (d : Nat) (σ : jm_S) (x0 : Int32) : jm_ev d (jD_isRow, 14, [some (jm_I x0)], [], σ) = jm_ev d (jD_isRow, 15, [some (jm_I x0)], [jm_I (0 : Int32)], σ) := (jm_un_eq [0, 14, 15] d 2 _).trans rfl
theorem gD_isRow_15 (d : Nat) (σ : jm_S) (x0 xs0 : Int32) : jm_ev d (jD_isRow, 15, [some (jm_I x0)], [jm_I xs0], σ) = cond (jm_b01 xs0) (some (some (jm_I xs0), σ)) none := (jm_un_eq [0, 14, 15] d 2 _).trans rfl
theorem gD_isMissing_0 (d : Nat) (σ : jm_S) (x1 : Int32) : jm_call (d + 1) jD_isMissing [jm_R 0 0, jm_I x1] σ = cond (jm_in3 x1 8) (cond (decide (¬ σ.1 2 0 x1.toNatClampNeg = (-1 : Int32))) (jm_ev d (jD_isMissing, 15, [some (jm_R 0 0), some (jm_I x1)], [jm_I (0 : Int32)], σ)) (jm_ev d (jD_isMissing, 15, [some (jm_R 0 0), some (jm_I x1)], [jm_I (1 : Int32)], σ))) (none) := (jm_un_eq [0, 15] d 9 (jD_isMissing, 0, [some (jm_R 0 0), some (jm_I x1)], [], σ)).trans rfl
theorem gD_isMissing_15 (d : Nat) (σ : jm_S) (x1 xs0 : Int32) : jm_ev d (jD_isMissing, 15, [some (jm_R 0 0), some (jm_I x1)], [jm_I xs0], σ) = cond (jm_b01 xs0) (some (some (jm_I xs0), σ)) none := (jm_un_eq [0, 15] d 2 _).trans rfl
theorem gD_isWithin_0 (d : Nat) (σ : jm_S) (x1 x2 x3 : Int32) : jm_call (d + 1) jD_isWithin [jm_R 0 0, jm_I x1, jm_I x2, jm_I x3] σ = cond (decide (x2 < 0)) (jm_ev d (jD_isWithin, 34, [some (jm_R 0 0), some (jm_I x1), some (jm_I x2), some (jm_I x3)], [], σ)) (cond (decide (x3 < 0)) (jm_ev d (jD_isWithin, 34, [some (jm_R 0 0), some (jm_I x1), some (jm_I x2), some (jm_I x3)], [], σ)) (cond (jm_in3 x1 8) (cond (decide (σ.1 2 0 x1.toNatClampNeg < x3)) (jm_ev d (jD_isWithin, 34, [some (jm_R 0 0), some (jm_I x1), some (jm_I x2), some (jm_I x3)], [], σ)) (cond (jm_in3 x1 8) (cond (decide ((σ.1 2 0 x1.toNatClampNeg) - x3 < x2)) (jm_ev d (jD_isWithin, 34, [some (jm_R 0 0), some (jm_I x1), some (jm_I x2), some (jm_I x3)], [], σ)) (jm_ev d (jD_isWithin, 35, [some (jm_R 0 0), some (jm_I x1), some (jm_I x2), some (jm_I x3)], [jm_I (1 : Int32)], σ))) (none))) (none))) := (jm_un_eq [0, 34, 35] d 21 (jD_isWithin, 0, [some (jm_R 0 0), some (jm_I x1), some (jm_I x2), some (jm_I x3)], [], σ)).trans rfl
theorem gD_isWithin_34 (d : Nat) (σ : jm_S) (x1 x2 x3 : Int32) : jm_ev d (jD_isWithin, 34, [some (jm_R 0 0), some (jm_I x1), some (jm_I x2), some (jm_I x3)], [], σ) = jm_ev d (jD_isWithin, 35, [some (jm_R 0 0), some (jm_I x1), some (jm_I x2), some (jm_I x3)], [jm_I (0 : Int32)], σ) := (jm_un_eq [0, 34, 35] d 2 _).trans rfl
theorem gD_isWithin_35 (d : Nat) (σ : jm_S) (x1 x2 x3 xs0 : Int32) : jm_ev d (jD_isWithin, 35, [some (jm_R 0 0), some (jm_I x1), some (jm_I x2), some (jm_I x3)], [jm_I xs0], σ) = cond (jm_b01 xs0) (some (some (jm_I xs0), σ)) none := (jm_un_eq [0, 34, 35] d 2 _).trans rfl
theorem gD_narrowed_0 (d : Nat) (σ : jm_S) (x0 x1 : Int32) : jm_call (d + 1) jD_narrowed [jm_I x0, jm_I x1] σ = cond (decide (¬ x0 = 0)) (cond (decide (¬ x0 = (1 : Int32))) (jm_ev d (jD_narrowed, 18, [some (jm_I x0), some (jm_I x1)], [jm_I x1], σ)) (jm_ev d (jD_narrowed, 18, [some (jm_I x0), some (jm_I x1)], [jm_I x1.toInt16.toInt32], σ))) (some (some (jm_I x1.toInt8.toInt32), σ)) := (jm_un_eq [0, 18] d 9 (jD_narrowed, 0, [some (jm_I x0), some (jm_I x1)], [], σ)).trans rfl
theorem gD_narrowed_18 (d : Nat) (σ : jm_S) (x0 x1 xs0 : Int32) : jm_ev d (jD_narrowed, 18, [some (jm_I x0), some (jm_I x1)], [jm_I xs0], σ) = some (some (jm_I xs0), σ) := (jm_un_eq [0, 18] d 2 _).trans rfl
theorem gD_feed_0 (d : Nat) (σ : jm_S) (x1 : Int32) : jm_call (d + 1) jD_feed [jm_R 0 0, jm_I x1] σ = cond (decide (x1 < 0)) (jm_ev d (jD_feed, 11, [some (jm_R 0 0), some (jm_I x1)], [], σ)) (cond (decide (x1 ≤ (255 : Int32))) ((jm_call d jR_takes [jm_R 5 0, jm_I x1] σ).bind fun q => jm_ev d (jm_psh (jD_feed, 22, [some (jm_R 0 0), some (jm_I x1)], [], σ) q)) (jm_ev d (jD_feed, 11, [some (jm_R 0 0), some (jm_I x1)], [], σ))) := (jm_un_eq [0, 11, 22, 37] d 10 (jD_feed, 0, [some (jm_R 0 0), some (jm_I x1)], [], σ)).trans rfl
theorem gD_feed_11 (d : Nat) (σ : jm_S) (x1 : Int32) : jm_ev d (jD_feed, 11, [some (jm_R 0 0), some (jm_I x1)], [], σ) = some (some (jm_I (-1000001 : Int32)), σ) := (jm_un_eq [0, 11, 22, 37] d 3 _).trans rfl
theorem gD_feed_22 (d : Nat) (σ : jm_S) (x1 xs0 : Int32) : jm_ev d (jD_feed, 22, [some (jm_R 0 0), some (jm_I x1)], [jm_I xs0], σ) = cond (decide (xs0 = 0)) (jm_ev d (jD_feed, 37, [some (jm_R 0 0), some (jm_I x1)], [jm_I (-1000003 : Int32)], σ)) (jm_ev d (jD_feed, 37, [some (jm_R 0 0), some (jm_I x1)], [jm_I (σ.1 5 0 1)], σ)) := (jm_un_eq [0, 11, 22, 37] d 6 _).trans rfl
theorem gD_feed_37 (d : Nat) (σ : jm_S) (x1 xs0 : Int32) : jm_ev d (jD_feed, 37, [some (jm_R 0 0), some (jm_I x1)], [jm_I xs0], σ) = some (some (jm_I xs0), σ) := (jm_un_eq [0, 11, 22, 37] d 2 _).trans rfl
theorem gD_shaft_0 (d : Nat) (σ : jm_S) : jm_call (d + 1) jD_shaft [jm_R 0 0] σ = (jm_call d jR_reads [jm_R 5 0, jm_R 7 1] σ).bind fun q => jm_ev d (jm_psh (jD_shaft, 11, [some (jm_R 0 0), none], [], σ) q) := (jm_un_eq [0, 11, 57, 64] d 6 (jD_shaft, 0, [some (jm_R 0 0), none], [], σ)).trans rfl
theorem gD_shaft_11 (d : Nat) (σ : jm_S) (xs0 : Int32) : jm_ev d (jD_shaft, 11, [some (jm_R 0 0), none], [jm_I xs0], σ) = cond (decide (¬ xs0 = 0)) ((jm_call d jS_takeFrom [jm_R 7 0, jm_R 7 1] (jm_wi σ 5 0 1 (0 : Int32))).bind fun q => jm_ev d (jm_psh (jD_shaft, 57, [some (jm_R 0 0), some (jm_I xs0)], [], jm_wi σ 5 0 1 (0 : Int32)) q)) (some (some (jm_I ((-1000100 : Int32) - (σ.1 5 0 5))), jm_wi (jm_wi σ 5 0 1 (0 : Int32)) 0 0 12 (σ.1 5 0 4))) := (jm_un_eq [0, 11, 57, 64] d 19 _).trans rfl
theorem gD_shaft_57 (d : Nat) (σ : jm_S) (x1 : Int32) : jm_ev d (jD_shaft, 57, [some (jm_R 0 0), some (jm_I x1)], [], σ) = (jm_call d jA_forgetAll [jm_R 10 0] σ).bind fun q => jm_ev d (jm_psh (jD_shaft, 64, [some (jm_R 0 0), some (jm_I x1)], [], σ) q) := (jm_un_eq [0, 11, 57, 64] d 4 _).trans rfl
theorem gD_shaft_64 (d : Nat) (σ : jm_S) (x1 : Int32) : jm_ev d (jD_shaft, 64, [some (jm_R 0 0), some (jm_I x1)], [], σ) = some (some (jm_I (σ.1 7 0 1)), σ) := (jm_un_eq [0, 11, 57, 64] d 5 _).trans rfl
theorem gD_fault_0 (d : Nat) (σ : jm_S) : jm_call (d + 1) jD_fault [jm_R 0 0] σ = some (some (jm_I (σ.1 0 0 12)), σ) := (jm_un_eq [0] d 4 (jD_fault, 0, [some (jm_R 0 0)], [], σ)).trans rfl
theorem gD_undo_0 (d : Nat) (σ : jm_S) : jm_call (d + 1) jD_undo [jm_R 0 0] σ = (jm_call d jA_takeBack [jm_R 10 0, jm_R 7 0] σ).bind fun q => jm_ev d (jm_psh (jD_undo, 11, [some (jm_R 0 0)], [], σ) q) := (jm_un_eq [0, 11, 26] d 6 (jD_undo, 0, [some (jm_R 0 0)], [], σ)).trans rfl
theorem gD_undo_11 (d : Nat) (σ : jm_S) (xs0 : Int32) : jm_ev d (jD_undo, 11, [some (jm_R 0 0)], [jm_I xs0], σ) = cond (decide (xs0 = 0)) (jm_ev d (jD_undo, 26, [some (jm_R 0 0)], [jm_I (-1000002 : Int32)], σ)) (jm_ev d (jD_undo, 26, [some (jm_R 0 0)], [jm_I (σ.1 10 0 3)], σ)) := (jm_un_eq [0, 11, 26] d 6 _).trans rfl
theorem gD_undo_26 (d : Nat) (σ : jm_S) (xs0 : Int32) : jm_ev d (jD_undo, 26, [some (jm_R 0 0)], [jm_I xs0], σ) = some (some (jm_I xs0), σ) := (jm_un_eq [0, 11, 26] d 2 _).trans rfl
theorem gD_change_0 (d : Nat) (σ : jm_S) (x1 x2 x3 : Int32) : jm_call (d + 1) jD_change [jm_R 0 0, jm_I x1, jm_I x2, jm_I x3] σ = (jm_call d jS_has [jm_R 7 0, jm_I x1] σ).bind fun q => jm_ev d (jm_psh (jD_change, 8, [some (jm_R 0 0), some (jm_I x1), some (jm_I x2), some (jm_I x3)], [], σ) q) := (jm_un_eq [0, 8, 20, 41, 51] d 5 (jD_change, 0, [some (jm_R 0 0), some (jm_I x1), some (jm_I x2), some (jm_I x3)], [], σ)).trans rfl
theorem gD_change_8 (d : Nat) (σ : jm_S) (x1 x2 x3 xs0 : Int32) : jm_ev d (jD_change, 8, [some (jm_R 0 0), some (jm_I x1), some (jm_I x2), some (jm_I x3)], [jm_I xs0], σ) = cond (decide (xs0 = 0)) (jm_ev d (jD_change, 20, [some (jm_R 0 0), some (jm_I x1), some (jm_I x2), some (jm_I x3)], [], σ)) (cond (decide (x2 < 0)) (jm_ev d (jD_change, 20, [some (jm_R 0 0), some (jm_I x1), some (jm_I x2), some (jm_I x3)], [], σ)) (cond (decide (x2 ≤ (2 : Int32))) (cond (jm_in3 x2 4) (cond (decide (x3 < (jm_tb 40).getD x2.toNatClampNeg 0)) (jm_ev d (jD_change, 41, [some (jm_R 0 0), some (jm_I x1), some (jm_I x2), some (jm_I x3)], [], σ)) (cond (jm_in3 x2 4) (cond (decide (x3 ≤ (jm_tb 41).getD x2.toNatClampNeg 0)) ((jm_call d jD_put [jm_R 0 0, jm_I x1, jm_I x2, jm_I x3] σ).bind fun q => jm_ev d (jm_psh (jD_change, 51, [some (jm_R 0 0), some (jm_I x1), some (jm_I x2), some (jm_I x3)], [], σ) q)) (jm_ev d (jD_change, 41, [some (jm_R 0 0), some (jm_I x1), some (jm_I x2), some (jm_I x3)], [], σ))) (none))) (none)) (jm_ev d (jD_change, 20, [some (jm_R 0 0), some (jm_I x1), some (jm_I x2), some (jm_I x3)], [], σ)))) := (jm_un_eq [0, 8, 20, 41, 51] d 22 _).trans rfl
theorem gD_change_20 (d : Nat) (σ : jm_S) (x1 x2 x3 : Int32) : jm_ev d (jD_change, 20, [some (jm_R 0 0), some (jm_I x1), some (jm_I x2), some (jm_I x3)], [], σ) = some (some (jm_I (-1000001 : Int32)), σ) := (jm_un_eq [0, 8, 20, 41, 51] d 3 _).trans rfl
theorem gD_change_41 (d : Nat) (σ : jm_S) (x1 x2 x3 : Int32) : jm_ev d (jD_change, 41, [some (jm_R 0 0), some (jm_I x1), some (jm_I x2), some (jm_I x3)], [], σ) = some (some (jm_I (-1000001 : Int32)), σ) := (jm_un_eq [0, 8, 20, 41, 51] d 3 _).trans rfl
theorem gD_change_51 (d : Nat) (σ : jm_S) (x1 x2 x3 xs0 : Int32) : jm_ev d (jD_change, 51, [some (jm_R 0 0), some (jm_I x1), some (jm_I x2), some (jm_I x3)], [jm_I xs0], σ) = some (some (jm_I xs0), σ) := (jm_un_eq [0, 8, 20, 41, 51] d 2 _).trans rfl
theorem gD_become_0 (d : Nat) (σ : jm_S) (x1 x2 : Int32) : jm_call (d + 1) jD_become [jm_R 0 0, jm_I x1, jm_I x2] σ = (jm_call d jS_has [jm_R 7 0, jm_I x1] σ).bind fun q => jm_ev d (jm_psh (jD_become, 8, [some (jm_R 0 0), some (jm_I x1), some (jm_I x2)], [], σ) q) := (jm_un_eq [0, 8, 21, 49] d 5 (jD_become, 0, [some (jm_R 0 0), some (jm_I x1), some (jm_I x2)], [], σ)).trans rfl
theorem gD_become_8 (d : Nat) (σ : jm_S) (x1 x2 xs0 : Int32) : jm_ev d (jD_become, 8, [some (jm_R 0 0), some (jm_I x1), some (jm_I x2)], [jm_I xs0], σ) = cond (decide (xs0 = 0)) (jm_ev d (jD_become, 21, [some (jm_R 0 0), some (jm_I x1), some (jm_I x2)], [], σ)) (cond (decide (x2 < (1 : Int32))) (jm_ev d (jD_become, 21, [some (jm_R 0 0), some (jm_I x1), some (jm_I x2)], [], σ)) (cond (decide (x2 ≤ (5 : Int32))) (cond (jm_in3 x1 6) (cond (decide (¬ σ.1 9 3 x1.toNatClampNeg = x2)) ((jm_call d jD_put [jm_R 0 0, jm_I x1, jm_I (3 : Int32), jm_I x2] σ).bind fun q => jm_ev d (jm_psh (jD_become, 49, [some (jm_R 0 0), some (jm_I x1), some (jm_I x2)], [], σ) q)) (some (some (jm_I (-1000002 : Int32)), σ))) (none)) (jm_ev d (jD_become, 21, [some (jm_R 0 0), some (jm_I x1), some (jm_I x2)], [], σ)))) := (jm_un_eq [0, 8, 21, 49] d 22 _).trans rfl
theorem gD_become_21 (d : Nat) (σ : jm_S) (x1 x2 : Int32) : jm_ev d (jD_become, 21, [some (jm_R 0 0), some (jm_I x1), some (jm_I x2)], [], σ) = some (some (jm_I (-1000001 : Int32)), σ) := (jm_un_eq [0, 8, 21, 49] d 3 _).trans rfl
theorem gD_become_49 (d : Nat) (σ : jm_S) (x1 x2 xs0 : Int32) : jm_ev d (jD_become, 49, [some (jm_R 0 0), some (jm_I x1), some (jm_I x2)], [jm_I xs0], σ) = some (some (jm_I xs0), σ) := (jm_un_eq [0, 8, 21, 49] d 2 _).trans rfl
theorem gD_mark_0 (d : Nat) (σ : jm_S) (x1 : Int32) : jm_call (d + 1) jD_mark [jm_R 0 0, jm_I x1] σ = cond (decide (¬ σ.1 7 0 1 = 0)) ((jm_call d jD_isMark [jm_I x1] σ).bind fun q => jm_ev d (jm_psh (jD_mark, 17, [some (jm_R 0 0), some (jm_I x1), none], [], σ) q)) (some (some (jm_I (-1000002 : Int32)), σ)) := (jm_un_eq [0, 17, 41] d 7 (jD_mark, 0, [some (jm_R 0 0), some (jm_I x1), none], [], σ)).trans rfl
theorem gD_mark_17 (d : Nat) (σ : jm_S) (x1 xs0 : Int32) : jm_ev d (jD_mark, 17, [some (jm_R 0 0), some (jm_I x1), none], [jm_I xs0], σ) = cond (decide (¬ xs0 = 0)) ((jm_call d jA_keep [jm_R 10 0, jm_I (4 : Int32), jm_I (0 : Int32), jm_I (σ.1 7 0 2)] σ).bind fun q => jm_ev d (jm_psh (jD_mark, 41, [some (jm_R 0 0), some (jm_I x1), some (jm_I (σ.1 7 0 2))], [], σ) q)) (some (some (jm_I (-1000001 : Int32)), σ)) := (jm_un_eq [0, 17, 41] d 12 _).trans rfl
theorem gD_mark_41 (d : Nat) (σ : jm_S) (x1 x2 : Int32) : jm_ev d (jD_mark, 41, [some (jm_R 0 0), some (jm_I x1), some (jm_I x2)], [], σ) = some (some (jm_I x2), jm_wi σ 7 0 2 x1) := (jm_un_eq [0, 17, 41] d 7 _).trans rfl
theorem gD_swap_0 (d : Nat) (σ : jm_S) (x1 x2 : Int32) : jm_call (d + 1) jD_swap [jm_R 0 0, jm_I x1, jm_I x2] σ = (jm_call d jS_has [jm_R 7 0, jm_I x1] σ).bind fun q => jm_ev d (jm_psh (jD_swap, 8, [some (jm_R 0 0), some (jm_I x1), some (jm_I x2)], [], σ) q) := (jm_un_eq [0, 8, 19, 22, 43, 52] d 5 (jD_swap, 0, [some (jm_R 0 0), some (jm_I x1), some (jm_I x2)], [], σ)).trans rfl
theorem gD_swap_8 (d : Nat) (σ : jm_S) (x1 x2 xs0 : Int32) : jm_ev d (jD_swap, 8, [some (jm_R 0 0), some (jm_I x1), some (jm_I x2)], [jm_I xs0], σ) = cond (decide (xs0 = 0)) (jm_ev d (jD_swap, 22, [some (jm_R 0 0), some (jm_I x1), some (jm_I x2)], [], σ)) ((jm_call d jS_has [jm_R 7 0, jm_I x2] σ).bind fun q => jm_ev d (jm_psh (jD_swap, 19, [some (jm_R 0 0), some (jm_I x1), some (jm_I x2)], [], σ) q)) := (jm_un_eq [0, 8, 19, 22, 43, 52] d 6 _).trans rfl
theorem gD_swap_19 (d : Nat) (σ : jm_S) (x1 x2 xs0 : Int32) : jm_ev d (jD_swap, 19, [some (jm_R 0 0), some (jm_I x1), some (jm_I x2)], [jm_I xs0], σ) = cond (decide (¬ xs0 = 0)) (cond (decide (¬ x1 = x2)) ((jm_call d jA_keep [jm_R 10 0, jm_I (5 : Int32), jm_I x1, jm_I x2] σ).bind fun q => jm_ev d (jm_psh (jD_swap, 43, [some (jm_R 0 0), some (jm_I x1), some (jm_I x2)], [], σ) q)) (some (some (jm_I (-1000002 : Int32)), σ))) (jm_ev d (jD_swap, 22, [some (jm_R 0 0), some (jm_I x1), some (jm_I x2)], [], σ)) := (jm_un_eq [0, 8, 19, 22, 43, 52] d 11 _).trans rfl
theorem gD_swap_22 (d : Nat) (σ : jm_S) (x1 x2 : Int32) : jm_ev d (jD_swap, 22, [some (jm_R 0 0), some (jm_I x1), some (jm_I x2)], [], σ) = some (some (jm_I (-1000001 : Int32)), σ) := (jm_un_eq [0, 8, 19, 22, 43, 52] d 3 _).trans rfl
theorem gD_swap_43 (d : Nat) (σ : jm_S) (x1 x2 : Int32) : jm_ev d (jD_swap, 43, [some (jm_R 0 0), some (jm_I x1), some (jm_I x2)], [], σ) = (jm_call d jS_exchange [jm_R 7 0, jm_I x1, jm_I x2] σ).bind fun q => jm_ev d (jm_psh (jD_swap, 52, [some (jm_R 0 0), some (jm_I x1), some (jm_I x2)], [], σ) q) := (jm_un_eq [0, 8, 19, 22, 43, 52] d 6 _).trans rfl
theorem gD_swap_52 (d : Nat) (σ : jm_S) (x1 x2 : Int32) : jm_ev d (jD_swap, 52, [some (jm_R 0 0), some (jm_I x1), some (jm_I x2)], [], σ) = some (some (jm_I ((if 0 ≤ x1 - x2 then x1 - x2 else 0 - (x1 - x2)) + (1 : Int32))), σ) := (jm_un_eq [0, 8, 19, 22, 43, 52] d 8 _).trans rfl
theorem gD_disc_0 (d : Nat) (σ : jm_S) (x1 x2 : Int32) : jm_call (d + 1) jD_disc [jm_R 0 0, jm_I x1, jm_I x2] σ = (jm_call d jS_has [jm_R 7 0, jm_I x1] σ).bind fun q => jm_ev d (jm_psh (jD_disc, 8, [some (jm_R 0 0), some (jm_I x1), some (jm_I x2)], [], σ) q) := (jm_un_eq [0, 8, 100, 109, 118, 127] d 5 (jD_disc, 0, [some (jm_R 0 0), some (jm_I x1), some (jm_I x2)], [], σ)).trans rfl
theorem gD_disc_8 (d : Nat) (σ : jm_S) (x1 x2 xs0 : Int32) : jm_ev d (jD_disc, 8, [some (jm_R 0 0), some (jm_I x1), some (jm_I x2)], [jm_I xs0], σ) = cond (decide (¬ xs0 = 0)) (cond (decide (x2.toInt = 0)) (cond (jm_in3 x1 6) (some (some (jm_I (σ.1 9 0 x1.toNatClampNeg)), σ)) (none)) (cond (decide (x2.toInt = 1)) (cond (jm_in3 x1 6) (some (some (jm_I (σ.1 9 1 x1.toNatClampNeg)), σ)) (none)) (cond (decide (x2.toInt = 2)) (cond (jm_in3 x1 6) (some (some (jm_I (σ.1 9 2 x1.toNatClampNeg)), σ)) (none)) (cond (decide (x2.toInt = 3)) ((jm_call d jS_ratioOf [jm_R 7 0, jm_I x1] σ).bind fun q => jm_ev d (jm_psh (jD_disc, 100, [some (jm_R 0 0), some (jm_I x1), some (jm_I x2)], [], σ) q)) (cond (decide (x2.toInt = 4)) ((jm_call d jS_weightOf [jm_R 7 0, jm_I x1] σ).bind fun q => jm_ev d (jm_psh (jD_disc, 109, [some (jm_R 0 0), some (jm_I x1), some (jm_I x2)], [], σ) q)) (cond (decide (x2.toInt = 5)) ((jm_call d jS_springOf [jm_R 7 0, jm_I x1] σ).bind fun q => jm_ev d (jm_psh (jD_disc, 118, [some (jm_R 0 0), some (jm_I x1), some (jm_I x2)], [], σ) q)) (cond (decide (x2.toInt = 6)) ((jm_call d jS_tieOf [jm_R 7 0, jm_I x1] σ).bind fun q => jm_ev d (jm_psh (jD_disc, 127, [some (jm_R 0 0), some (jm_I x1), some (jm_I x2)], [], σ) q)) (some (some (jm_I (-1000001 : Int32)), σ))))))))) (some (some (jm_I (-1000001 : Int32)), σ)) := (jm_un_eq [0, 8, 100, 109, 118, 127] d 12 _).trans rfl
theorem gD_disc_100 (d : Nat) (σ : jm_S) (x1 x2 xs0 : Int32) : jm_ev d (jD_disc, 100, [some (jm_R 0 0), some (jm_I x1), some (jm_I x2)], [jm_I xs0], σ) = some (some (jm_I xs0), σ) := (jm_un_eq [0, 8, 100, 109, 118, 127] d 2 _).trans rfl
theorem gD_disc_109 (d : Nat) (σ : jm_S) (x1 x2 xs0 : Int32) : jm_ev d (jD_disc, 109, [some (jm_R 0 0), some (jm_I x1), some (jm_I x2)], [jm_I xs0], σ) = some (some (jm_I xs0), σ) := (jm_un_eq [0, 8, 100, 109, 118, 127] d 2 _).trans rfl
theorem gD_disc_118 (d : Nat) (σ : jm_S) (x1 x2 xs0 : Int32) : jm_ev d (jD_disc, 118, [some (jm_R 0 0), some (jm_I x1), some (jm_I x2)], [jm_I xs0], σ) = some (some (jm_I xs0), σ) := (jm_un_eq [0, 8, 100, 109, 118, 127] d 2 _).trans rfl
theorem gD_disc_127 (d : Nat) (σ : jm_S) (x1 x2 xs0 : Int32) : jm_ev d (jD_disc, 127, [some (jm_R 0 0), some (jm_I x1), some (jm_I x2)], [jm_I xs0], σ) = some (some (jm_I xs0), σ) := (jm_un_eq [0, 8, 100, 109, 118, 127] d 2 _).trans rfl
theorem gD_put_0 (d : Nat) (σ : jm_S) (x1 x2 x3 : Int32) : jm_call (d + 1) jD_put [jm_R 0 0, jm_I x1, jm_I x2, jm_I x3] σ = cond (jm_in3 x2 4) (cond (jm_in3 x1 6) ((jm_call d jA_keep [jm_R 10 0, jm_I x2, jm_I x1, jm_I (σ.1 9 (0 + x2.toNatClampNeg) x1.toNatClampNeg)] σ).bind fun q => jm_ev d (jm_psh (jD_put, 24, [some (jm_R 0 0), some (jm_I x1), some (jm_I x2), some (jm_I x3), some (jm_I (σ.1 9 (0 + x2.toNatClampNeg) x1.toNatClampNeg))], [], σ) q)) (none)) (none) := (jm_un_eq [0, 24] d 15 (jD_put, 0, [some (jm_R 0 0), some (jm_I x1), some (jm_I x2), some (jm_I x3), none], [], σ)).trans rfl
theorem gD_put_24 (d : Nat) (σ : jm_S) (x1 x2 x3 x4 : Int32) : jm_ev d (jD_put, 24, [some (jm_R 0 0), some (jm_I x1), some (jm_I x2), some (jm_I x3), some (jm_I x4)], [], σ) = cond (jm_in3 x2 4) (cond (jm_in3 x1 6) (some (some (jm_I x4), jm_wi σ 9 (0 + x2.toNatClampNeg) x1.toNatClampNeg x3)) (none)) (none) := (jm_un_eq [0, 24] d 11 _).trans rfl
theorem gD_isMark_0 (d : Nat) (σ : jm_S) (x0 : Int32) : jm_call (d + 1) jD_isMark [jm_I x0] σ = cond (decide (x0 < 0)) (jm_ev d (jD_isMark, 15, [some (jm_I x0)], [], σ)) (cond (decide ((200 : Int32) < x0)) (jm_ev d (jD_isMark, 15, [some (jm_I x0)], [], σ)) (jm_ev d (jD_isMark, 16, [some (jm_I x0)], [jm_I (1 : Int32)], σ))) := (jm_un_eq [0, 15, 16] d 8 (jD_isMark, 0, [some (jm_I x0)], [], σ)).trans rfl
theorem gD_isMark_15 (d : Nat) (σ : jm_S) (x0 : Int32) : jm_ev d (jD_isMark, 15, [some (jm_I x0)], [], σ) = jm_ev d (jD_isMark, 16, [some (jm_I x0)], [jm_I (0 : Int32)], σ) := (jm_un_eq [0, 15, 16] d 2 _).trans rfl
theorem gD_isMark_16 (d : Nat) (σ : jm_S) (x0 xs0 : Int32) : jm_ev d (jD_isMark, 16, [some (jm_I x0)], [jm_I xs0], σ) = cond (jm_b01 xs0) (some (some (jm_I xs0), σ)) none := (jm_un_eq [0, 15, 16] d 2 _).trans rfl
theorem gD_determinant_0 (d : Nat) (σ : jm_S) (x1 x2 : Int32) : jm_call (d + 1) jD_determinant [jm_R 0 0, jm_I x1, jm_I x2] σ = cond (decide (¬ σ.1 7 0 1 = 0)) (cond (decide (x1 < 0)) (jm_ev d (jD_determinant, 36, [some (jm_R 0 0), some (jm_I x1), some (jm_I x2)], [], σ)) (cond (decide (σ.1 7 0 1 < x1)) (jm_ev d (jD_determinant, 36, [some (jm_R 0 0), some (jm_I x1), some (jm_I x2)], [], σ)) ((jm_call d jD_isMark [jm_I x2] σ).bind fun q => jm_ev d (jm_psh (jD_determinant, 33, [some (jm_R 0 0), some (jm_I x1), some (jm_I x2)], [], σ) q)))) (some (some (jm_L (-1000002 : Int64)), σ)) := (jm_un_eq [0, 33, 36, 51, 60, 69] d 14 (jD_determinant, 0, [some (jm_R 0 0), some (jm_I x1), some (jm_I x2)], [], σ)).trans rfl
theorem gD_determinant_33 (d : Nat) (σ : jm_S) (x1 x2 xs0 : Int32) : jm_ev d (jD_determinant, 33, [some (jm_R 0 0), some (jm_I x1), some (jm_I x2)], [jm_I xs0], σ) = cond (decide (¬ xs0 = 0)) ((jm_call d jP_measure [jm_R 14 0, jm_R 7 0] σ).bind fun q => jm_ev d (jm_psh (jD_determinant, 51, [some (jm_R 0 0), some (jm_I x1), some (jm_I x2)], [], σ) q)) (jm_ev d (jD_determinant, 36, [some (jm_R 0 0), some (jm_I x1), some (jm_I x2)], [], σ)) := (jm_un_eq [0, 33, 36, 51, 60, 69] d 7 _).trans rfl
theorem gD_determinant_36 (d : Nat) (σ : jm_S) (x1 x2 : Int32) : jm_ev d (jD_determinant, 36, [some (jm_R 0 0), some (jm_I x1), some (jm_I x2)], [], σ) = some (some (jm_L (-1000001 : Int64)), σ) := (jm_un_eq [0, 33, 36, 51, 60, 69] d 3 _).trans rfl
theorem gD_determinant_51 (d : Nat) (σ : jm_S) (x1 x2 : Int32) : jm_ev d (jD_determinant, 51, [some (jm_R 0 0), some (jm_I x1), some (jm_I x2)], [], σ) = (jm_call d jP_reaches [jm_R 14 0, jm_I x1, jm_I x2] σ).bind fun q => jm_ev d (jm_psh (jD_determinant, 60, [some (jm_R 0 0), some (jm_I x1), some (jm_I x2)], [], σ) q) := (jm_un_eq [0, 33, 36, 51, 60, 69] d 6 _).trans rfl
theorem gD_determinant_60 (d : Nat) (σ : jm_S) (x1 x2 xs0 : Int32) : jm_ev d (jD_determinant, 60, [some (jm_R 0 0), some (jm_I x1), some (jm_I x2)], [jm_I xs0], σ) = cond (decide (¬ xs0 = 0)) (cond (jm_in3 x1 7) (some (some (jm_L (σ.2 18 0 x1.toNatClampNeg)), jm_wi σ 0 0 13 (0 : Int32))) (none)) ((jm_call d jD_found [jm_R 0 0, jm_I (6 : Int32)] σ).bind fun q => jm_ev d (jm_psh (jD_determinant, 69, [some (jm_R 0 0), some (jm_I x1), some (jm_I x2)], [], σ) q)) := (jm_un_eq [0, 33, 36, 51, 60, 69] d 11 _).trans rfl
theorem gD_determinant_69 (d : Nat) (σ : jm_S) (x1 x2 xs0 : Int32) : jm_ev d (jD_determinant, 69, [some (jm_R 0 0), some (jm_I x1), some (jm_I x2)], [jm_I xs0], σ) = some (some (jm_L xs0.toInt64), σ) := (jm_un_eq [0, 33, 36, 51, 60, 69] d 3 _).trans rfl
theorem gD_below_0 (d : Nat) (σ : jm_S) (x1 : Int32) : jm_call (d + 1) jD_below [jm_R 0 0, jm_I x1] σ = cond (decide (¬ σ.1 7 0 1 = 0)) ((jm_call d jD_isMark [jm_I x1] σ).bind fun q => jm_ev d (jm_psh (jD_below, 17, [some (jm_R 0 0), some (jm_I x1)], [], σ) q)) (some (some (jm_I (-1000002 : Int32)), σ)) := (jm_un_eq [0, 17, 34, 43, 46] d 7 (jD_below, 0, [some (jm_R 0 0), some (jm_I x1)], [], σ)).trans rfl
theorem gD_below_17 (d : Nat) (σ : jm_S) (x1 xs0 : Int32) : jm_ev d (jD_below, 17, [some (jm_R 0 0), some (jm_I x1)], [jm_I xs0], σ) = cond (decide (¬ xs0 = 0)) ((jm_call d jP_measure [jm_R 14 0, jm_R 7 0] σ).bind fun q => jm_ev d (jm_psh (jD_below, 34, [some (jm_R 0 0), some (jm_I x1)], [], σ) q)) (some (some (jm_I (-1000001 : Int32)), σ)) := (jm_un_eq [0, 17, 34, 43, 46] d 7 _).trans rfl
theorem gD_below_34 (d : Nat) (σ : jm_S) (x1 : Int32) : jm_ev d (jD_below, 34, [some (jm_R 0 0), some (jm_I x1)], [], σ) = (jm_call d jP_belowAt [jm_R 14 0, jm_I x1] σ).bind fun q => jm_ev d (jm_psh (jD_below, 43, [some (jm_R 0 0), some (jm_I x1)], [jm_R 0 0], σ) q) := (jm_un_eq [0, 17, 34, 43, 46] d 6 _).trans rfl
theorem gD_below_43 (d : Nat) (σ : jm_S) (x1 xs0 : Int32) : jm_ev d (jD_below, 43, [some (jm_R 0 0), some (jm_I x1)], [jm_I xs0, jm_R 0 0], σ) = (jm_call d jD_answered [jm_R 0 0, jm_I xs0] σ).bind fun q => jm_ev d (jm_psh (jD_below, 46, [some (jm_R 0 0), some (jm_I x1)], [], σ) q) := (jm_un_eq [0, 17, 34, 43, 46] d 2 _).trans rfl
theorem gD_below_46 (d : Nat) (σ : jm_S) (x1 xs0 : Int32) : jm_ev d (jD_below, 46, [some (jm_R 0 0), some (jm_I x1)], [jm_I xs0], σ) = some (some (jm_I xs0), σ) := (jm_un_eq [0, 17, 34, 43, 46] d 2 _).trans rfl
theorem gD_box_0 (d : Nat) (σ : jm_S) (x1 : Int32) : jm_call (d + 1) jD_box [jm_R 0 0, jm_I x1] σ = (jm_call d jS_has [jm_R 7 0, jm_I x1] σ).bind fun q => jm_ev d (jm_psh (jD_box, 8, [some (jm_R 0 0), some (jm_I x1)], [], σ) q) := (jm_un_eq [0, 8, 25, 34, 37] d 5 (jD_box, 0, [some (jm_R 0 0), some (jm_I x1)], [], σ)).trans rfl
theorem gD_box_8 (d : Nat) (σ : jm_S) (x1 xs0 : Int32) : jm_ev d (jD_box, 8, [some (jm_R 0 0), some (jm_I x1)], [jm_I xs0], σ) = cond (decide (¬ xs0 = 0)) ((jm_call d jP_measure [jm_R 14 0, jm_R 7 0] σ).bind fun q => jm_ev d (jm_psh (jD_box, 25, [some (jm_R 0 0), some (jm_I x1)], [], σ) q)) (some (some (jm_I (-1000001 : Int32)), σ)) := (jm_un_eq [0, 8, 25, 34, 37] d 7 _).trans rfl
theorem gD_box_25 (d : Nat) (σ : jm_S) (x1 : Int32) : jm_ev d (jD_box, 25, [some (jm_R 0 0), some (jm_I x1)], [], σ) = (jm_call d jP_boxOf [jm_R 14 0, jm_I x1] σ).bind fun q => jm_ev d (jm_psh (jD_box, 34, [some (jm_R 0 0), some (jm_I x1)], [jm_R 0 0], σ) q) := (jm_un_eq [0, 8, 25, 34, 37] d 6 _).trans rfl
theorem gD_box_34 (d : Nat) (σ : jm_S) (x1 xs0 : Int32) : jm_ev d (jD_box, 34, [some (jm_R 0 0), some (jm_I x1)], [jm_I xs0, jm_R 0 0], σ) = (jm_call d jD_answered [jm_R 0 0, jm_I xs0] σ).bind fun q => jm_ev d (jm_psh (jD_box, 37, [some (jm_R 0 0), some (jm_I x1)], [], σ) q) := (jm_un_eq [0, 8, 25, 34, 37] d 2 _).trans rfl
theorem gD_box_37 (d : Nat) (σ : jm_S) (x1 xs0 : Int32) : jm_ev d (jD_box, 37, [some (jm_R 0 0), some (jm_I x1)], [jm_I xs0], σ) = some (some (jm_I xs0), σ) := (jm_un_eq [0, 8, 25, 34, 37] d 2 _).trans rfl
theorem gD_widest_0 (d : Nat) (σ : jm_S) (x1 : Int32) : jm_call (d + 1) jD_widest [jm_R 0 0, jm_I x1] σ = cond (decide (¬ σ.1 7 0 1 = 0)) (cond (decide (x1 < 0)) (jm_ev d (jD_widest, 22, [some (jm_R 0 0), some (jm_I x1), none], [], σ)) (cond (decide (x1 ≤ (1 : Int32))) ((jm_call d jP_measure [jm_R 14 0, jm_R 7 0] σ).bind fun q => jm_ev d (jm_psh (jD_widest, 36, [some (jm_R 0 0), some (jm_I x1), none], [], σ) q)) (jm_ev d (jD_widest, 22, [some (jm_R 0 0), some (jm_I x1), none], [], σ)))) (some (some (jm_I (-1000002 : Int32)), σ)) := (jm_un_eq [0, 22, 36, 43, 52, 60, 71, 76, 86, 89] d 15 (jD_widest, 0, [some (jm_R 0 0), some (jm_I x1), none], [], σ)).trans rfl
theorem gD_widest_22 (d : Nat) (σ : jm_S) (x1 : Int32) : jm_ev d (jD_widest, 22, [some (jm_R 0 0), some (jm_I x1), none], [], σ) = some (some (jm_I (-1000001 : Int32)), σ) := (jm_un_eq [0, 22, 36, 43, 52, 60, 71, 76, 86, 89] d 3 _).trans rfl
theorem gD_widest_36 (d : Nat) (σ : jm_S) (x1 : Int32) : jm_ev d (jD_widest, 36, [some (jm_R 0 0), some (jm_I x1), none], [], σ) = (jm_call d jP_boxesAll [jm_R 14 0] σ).bind fun q => jm_ev d (jm_psh (jD_widest, 43, [some (jm_R 0 0), some (jm_I x1), none], [], σ) q) := (jm_un_eq [0, 22, 36, 43, 52, 60, 71, 76, 86, 89] d 4 _).trans rfl
theorem gD_widest_43 (d : Nat) (σ : jm_S) (x1 xs0 : Int32) : jm_ev d (jD_widest, 43, [some (jm_R 0 0), some (jm_I x1), none], [jm_I xs0], σ) = cond (decide (¬ xs0 = 0)) ((jm_call d jP_widestGap [jm_R 14 0] σ).bind fun q => jm_ev d (jm_psh (jD_widest, 60, [some (jm_R 0 0), some (jm_I x1), none], [], σ) q)) ((jm_call d jD_found [jm_R 0 0, jm_I (6 : Int32)] σ).bind fun q => jm_ev d (jm_psh (jD_widest, 52, [some (jm_R 0 0), some (jm_I x1), none], [], σ) q)) := (jm_un_eq [0, 22, 36, 43, 52, 60, 71, 76, 86, 89] d 5 _).trans rfl
theorem gD_widest_52 (d : Nat) (σ : jm_S) (x1 xs0 : Int32) : jm_ev d (jD_widest, 52, [some (jm_R 0 0), some (jm_I x1), none], [jm_I xs0], σ) = some (some (jm_I xs0), σ) := (jm_un_eq [0, 22, 36, 43, 52, 60, 71, 76, 86, 89] d 2 _).trans rfl
theorem gD_widest_60 (d : Nat) (σ : jm_S) (x1 xs0 : Int32) : jm_ev d (jD_widest, 60, [some (jm_R 0 0), some (jm_I x1), none], [jm_I xs0], σ) = cond (decide (xs0 = (-1000000 : Int32))) (jm_ev d (jD_widest, 71, [some (jm_R 0 0), some (jm_I x1), some (jm_I xs0)], [], σ)) (cond (decide (¬ x1 = 0)) ((jm_call d jP_gapAt [jm_R 14 0, jm_I xs0] σ).bind fun q => jm_ev d (jm_psh (jD_widest, 86, [some (jm_R 0 0), some (jm_I x1), some (jm_I xs0)], [jm_R 0 0], σ) q)) (jm_ev d (jD_widest, 71, [some (jm_R 0 0), some (jm_I x1), some (jm_I xs0)], [], σ))) := (jm_un_eq [0, 22, 36, 43, 52, 60, 71, 76, 86, 89] d 12 _).trans rfl
theorem gD_widest_71 (d : Nat) (σ : jm_S) (x1 x2 : Int32) : jm_ev d (jD_widest, 71, [some (jm_R 0 0), some (jm_I x1), some (jm_I x2)], [], σ) = (jm_call d jD_clean [jm_R 0 0, jm_I x2] σ).bind fun q => jm_ev d (jm_psh (jD_widest, 76, [some (jm_R 0 0), some (jm_I x1), some (jm_I x2)], [], σ) q) := (jm_un_eq [0, 22, 36, 43, 52, 60, 71, 76, 86, 89] d 4 _).trans rfl
theorem gD_widest_76 (d : Nat) (σ : jm_S) (x1 x2 xs0 : Int32) : jm_ev d (jD_widest, 76, [some (jm_R 0 0), some (jm_I x1), some (jm_I x2)], [jm_I xs0], σ) = some (some (jm_I xs0), σ) := (jm_un_eq [0, 22, 36, 43, 52, 60, 71, 76, 86, 89] d 2 _).trans rfl
theorem gD_widest_86 (d : Nat) (σ : jm_S) (x1 x2 xs0 : Int32) : jm_ev d (jD_widest, 86, [some (jm_R 0 0), some (jm_I x1), some (jm_I x2)], [jm_I xs0, jm_R 0 0], σ) = (jm_call d jD_clean [jm_R 0 0, jm_I xs0] σ).bind fun q => jm_ev d (jm_psh (jD_widest, 89, [some (jm_R 0 0), some (jm_I x1), some (jm_I x2)], [], σ) q) := (jm_un_eq [0, 22, 36, 43, 52, 60, 71, 76, 86, 89] d 2 _).trans rfl
theorem gD_widest_89 (d : Nat) (σ : jm_S) (x1 x2 xs0 : Int32) : jm_ev d (jD_widest, 89, [some (jm_R 0 0), some (jm_I x1), some (jm_I x2)], [jm_I xs0], σ) = some (some (jm_I xs0), σ) := (jm_un_eq [0, 22, 36, 43, 52, 60, 71, 76, 86, 89] d 2 _).trans rfl
theorem gD_clear_0 (d : Nat) (σ : jm_S) (x1 x2 : Int32) : jm_call (d + 1) jD_clear [jm_R 0 0, jm_I x1, jm_I x2] σ = cond (decide (¬ σ.1 7 0 1 = 0)) ((jm_call d jD_isMark [jm_I x1] σ).bind fun q => jm_ev d (jm_psh (jD_clear, 17, [some (jm_R 0 0), some (jm_I x1), some (jm_I x2), none], [], σ) q)) (some (some (jm_I (-1000002 : Int32)), σ)) := (jm_un_eq [0, 17, 30, 44, 51, 60, 63, 79, 87, 100] d 7 (jD_clear, 0, [some (jm_R 0 0), some (jm_I x1), some (jm_I x2), none], [], σ)).trans rfl
theorem gD_clear_17 (d : Nat) (σ : jm_S) (x1 x2 xs0 : Int32) : jm_ev d (jD_clear, 17, [some (jm_R 0 0), some (jm_I x1), some (jm_I x2), none], [jm_I xs0], σ) = cond (decide (xs0 = 0)) (jm_ev d (jD_clear, 30, [some (jm_R 0 0), some (jm_I x1), some (jm_I x2), none], [], σ)) (cond (decide (x2 < 0)) (jm_ev d (jD_clear, 30, [some (jm_R 0 0), some (jm_I x1), some (jm_I x2), none], [], σ)) (cond (decide (x2 ≤ (9 : Int32))) ((jm_call d jP_measure [jm_R 14 0, jm_R 7 0] σ).bind fun q => jm_ev d (jm_psh (jD_clear, 44, [some (jm_R 0 0), some (jm_I x1), some (jm_I x2), none], [], σ) q)) (jm_ev d (jD_clear, 30, [some (jm_R 0 0), some (jm_I x1), some (jm_I x2), none], [], σ)))) := (jm_un_eq [0, 17, 30, 44, 51, 60, 63, 79, 87, 100] d 12 _).trans rfl
theorem gD_clear_30 (d : Nat) (σ : jm_S) (x1 x2 : Int32) : jm_ev d (jD_clear, 30, [some (jm_R 0 0), some (jm_I x1), some (jm_I x2), none], [], σ) = some (some (jm_I (-1000001 : Int32)), σ) := (jm_un_eq [0, 17, 30, 44, 51, 60, 63, 79, 87, 100] d 3 _).trans rfl
theorem gD_clear_44 (d : Nat) (σ : jm_S) (x1 x2 : Int32) : jm_ev d (jD_clear, 44, [some (jm_R 0 0), some (jm_I x1), some (jm_I x2), none], [], σ) = (jm_call d jP_boxesAll [jm_R 14 0] σ).bind fun q => jm_ev d (jm_psh (jD_clear, 51, [some (jm_R 0 0), some (jm_I x1), some (jm_I x2), none], [], σ) q) := (jm_un_eq [0, 17, 30, 44, 51, 60, 63, 79, 87, 100] d 4 _).trans rfl
theorem gD_clear_51 (d : Nat) (σ : jm_S) (x1 x2 xs0 : Int32) : jm_ev d (jD_clear, 51, [some (jm_R 0 0), some (jm_I x1), some (jm_I x2), none], [jm_I xs0], σ) = cond (decide (¬ xs0 = 0)) (jm_ev d (jD_clear, 63, [some (jm_R 0 0), some (jm_I x1), some (jm_I x2), some (jm_I x1)], [], σ)) ((jm_call d jD_found [jm_R 0 0, jm_I (6 : Int32)] σ).bind fun q => jm_ev d (jm_psh (jD_clear, 60, [some (jm_R 0 0), some (jm_I x1), some (jm_I x2), none], [], σ) q)) := (jm_un_eq [0, 17, 30, 44, 51, 60, 63, 79, 87, 100] d 5 _).trans rfl
theorem gD_clear_60 (d : Nat) (σ : jm_S) (x1 x2 xs0 : Int32) : jm_ev d (jD_clear, 60, [some (jm_R 0 0), some (jm_I x1), some (jm_I x2), none], [jm_I xs0], σ) = some (some (jm_I xs0), σ) := (jm_un_eq [0, 17, 30, 44, 51, 60, 63, 79, 87, 100] d 2 _).trans rfl
theorem gD_clear_63 (d : Nat) (σ : jm_S) (x1 x2 x3 : Int32) : jm_ev d (jD_clear, 63, [some (jm_R 0 0), some (jm_I x1), some (jm_I x2), some (jm_I x3)], [], σ) = cond (decide ((200 : Int32) < x3)) ((jm_call d jD_clean [jm_R 0 0, jm_I (-1000000 : Int32)] σ).bind fun q => jm_ev d (jm_psh (jD_clear, 100, [some (jm_R 0 0), some (jm_I x1), some (jm_I x2), some (jm_I x3)], [], σ) q)) ((jm_call d jP_isClearBy [jm_R 14 0, jm_I x3, jm_I x2] σ).bind fun q => jm_ev d (jm_psh (jD_clear, 79, [some (jm_R 0 0), some (jm_I x1), some (jm_I x2), some (jm_I x3)], [], σ) q)) := (jm_un_eq [0, 17, 30, 44, 51, 60, 63, 79, 87, 100] d 9 _).trans rfl
theorem gD_clear_79 (d : Nat) (σ : jm_S) (x1 x2 x3 xs0 : Int32) : jm_ev d (jD_clear, 79, [some (jm_R 0 0), some (jm_I x1), some (jm_I x2), some (jm_I x3)], [jm_I xs0], σ) = cond (decide (xs0 = 0)) (jm_ev d (jD_clear, 63, [some (jm_R 0 0), some (jm_I x1), some (jm_I x2), some (jm_I (x3 + (1 : Int32)))], [], σ)) ((jm_call d jD_clean [jm_R 0 0, jm_I x3] σ).bind fun q => jm_ev d (jm_psh (jD_clear, 87, [some (jm_R 0 0), some (jm_I x1), some (jm_I x2), some (jm_I x3)], [], σ) q)) := (jm_un_eq [0, 17, 30, 44, 51, 60, 63, 79, 87, 100] d 5 _).trans rfl
theorem gD_clear_87 (d : Nat) (σ : jm_S) (x1 x2 x3 xs0 : Int32) : jm_ev d (jD_clear, 87, [some (jm_R 0 0), some (jm_I x1), some (jm_I x2), some (jm_I x3)], [jm_I xs0], σ) = some (some (jm_I xs0), σ) := (jm_un_eq [0, 17, 30, 44, 51, 60, 63, 79, 87, 100] d 2 _).trans rfl
theorem gD_clear_100 (d : Nat) (σ : jm_S) (x1 x2 x3 xs0 : Int32) : jm_ev d (jD_clear, 100, [some (jm_R 0 0), some (jm_I x1), some (jm_I x2), some (jm_I x3)], [jm_I xs0], σ) = some (some (jm_I xs0), σ) := (jm_un_eq [0, 17, 30, 44, 51, 60, 63, 79, 87, 100] d 2 _).trans rfl
theorem gD_stiffer_0 (d : Nat) (σ : jm_S) (x1 x2 : Int32) : jm_call (d + 1) jD_stiffer [jm_R 0 0, jm_I x1, jm_I x2] σ = (jm_call d jS_has [jm_R 7 0, jm_I x1] σ).bind fun q => jm_ev d (jm_psh (jD_stiffer, 8, [some (jm_R 0 0), some (jm_I x1), some (jm_I x2), none, none], [], σ) q) := (jm_un_eq [0, 8, 34, 48, 50, 84, 99, 111, 124] d 5 (jD_stiffer, 0, [some (jm_R 0 0), some (jm_I x1), some (jm_I x2), none, none], [], σ)).trans rfl
theorem gD_stiffer_8 (d : Nat) (σ : jm_S) (x1 x2 xs0 : Int32) : jm_ev d (jD_stiffer, 8, [some (jm_R 0 0), some (jm_I x1), some (jm_I x2), none, none], [jm_I xs0], σ) = cond (decide (xs0 = 0)) (jm_ev d (jD_stiffer, 34, [some (jm_R 0 0), some (jm_I x1), some (jm_I x2), none, none], [], σ)) (cond (decide (x1 = (σ.1 7 0 1) - (1 : Int32))) (jm_ev d (jD_stiffer, 34, [some (jm_R 0 0), some (jm_I x1), some (jm_I x2), none, none], [], σ)) (cond (decide (x2 < 0)) (jm_ev d (jD_stiffer, 34, [some (jm_R 0 0), some (jm_I x1), some (jm_I x2), none, none], [], σ)) (cond (decide (x2 ≤ (6 : Int32))) ((jm_call d jS_takeFrom [jm_R 7 1, jm_R 7 0] σ).bind fun q => jm_ev d (jm_psh (jD_stiffer, 48, [some (jm_R 0 0), some (jm_I x1), some (jm_I x2), none, none], [], σ) q)) (jm_ev d (jD_stiffer, 34, [some (jm_R 0 0), some (jm_I x1), some (jm_I x2), none, none], [], σ))))) := (jm_un_eq [0, 8, 34, 48, 50, 84, 99, 111, 124] d 19 _).trans rfl
theorem gD_stiffer_34 (d : Nat) (σ : jm_S) (x1 x2 : Int32) : jm_ev d (jD_stiffer, 34, [some (jm_R 0 0), some (jm_I x1), some (jm_I x2), none, none], [], σ) = some (some (jm_I (-1000001 : Int32)), σ) := (jm_un_eq [0, 8, 34, 48, 50, 84, 99, 111, 124] d 3 _).trans rfl
theorem gD_stiffer_48 (d : Nat) (σ : jm_S) (x1 x2 : Int32) : jm_ev d (jD_stiffer, 48, [some (jm_R 0 0), some (jm_I x1), some (jm_I x2), none, none], [], σ) = jm_ev d (jD_stiffer, 50, [some (jm_R 0 0), some (jm_I x1), some (jm_I x2), some (jm_I (0 : Int32)), none], [], σ) := (jm_un_eq [0, 8, 34, 48, 50, 84, 99, 111, 124] d 3 _).trans rfl
theorem gD_stiffer_50 (d : Nat) (σ : jm_S) (x1 x2 x3 : Int32) (o4 : Option jm_V) : jm_ev d (jD_stiffer, 50, [some (jm_R 0 0), some (jm_I x1), some (jm_I x2), some (jm_I x3), o4], [], σ) = cond (decide ((60 : Int32) < x3)) ((jm_call d jD_clean [jm_R 0 0, jm_I (-1000000 : Int32)] σ).bind fun q => jm_ev d (jm_psh (jD_stiffer, 124, [some (jm_R 0 0), some (jm_I x1), some (jm_I x2), some (jm_I x3), o4], [], σ) q)) (cond (jm_in3 x1 6) (cond (jm_in3 x1 6) ((jm_call d jD_belowMarkTried [jm_R 0 0] (jm_wi σ 9 5 x1.toNatClampNeg ((σ.1 9 1 x1.toNatClampNeg) + x3))).bind fun q => jm_ev d (jm_psh (jD_stiffer, 84, [some (jm_R 0 0), some (jm_I x1), some (jm_I x2), some (jm_I x3), o4], [], jm_wi σ 9 5 x1.toNatClampNeg ((σ.1 9 1 x1.toNatClampNeg) + x3)) q)) (none)) (none)) := (jm_un_eq [0, 8, 34, 48, 50, 84, 99, 111, 124] d 22 _).trans rfl
theorem gD_stiffer_84 (d : Nat) (σ : jm_S) (x1 x2 x3 xs0 : Int32) (o4 : Option jm_V) : jm_ev d (jD_stiffer, 84, [some (jm_R 0 0), some (jm_I x1), some (jm_I x2), some (jm_I x3), o4], [jm_I xs0], σ) = cond (decide (¬ xs0 = (-1000016 : Int32))) (cond (decide (x2 < xs0)) (jm_ev d (jD_stiffer, 50, [some (jm_R 0 0), some (jm_I x1), some (jm_I x2), some (jm_I (x3 + (1 : Int32))), some (jm_I xs0)], [], σ)) ((jm_call d jD_clean [jm_R 0 0, jm_I x3] σ).bind fun q => jm_ev d (jm_psh (jD_stiffer, 111, [some (jm_R 0 0), some (jm_I x1), some (jm_I x2), some (jm_I x3), some (jm_I xs0)], [], σ) q))) ((jm_call d jD_found [jm_R 0 0, jm_I (6 : Int32)] σ).bind fun q => jm_ev d (jm_psh (jD_stiffer, 99, [some (jm_R 0 0), some (jm_I x1), some (jm_I x2), some (jm_I x3), some (jm_I xs0)], [], σ) q)) := (jm_un_eq [0, 8, 34, 48, 50, 84, 99, 111, 124] d 11 _).trans rfl
theorem gD_stiffer_99 (d : Nat) (σ : jm_S) (x1 x2 x3 x4 xs0 : Int32) : jm_ev d (jD_stiffer, 99, [some (jm_R 0 0), some (jm_I x1), some (jm_I x2), some (jm_I x3), some (jm_I x4)], [jm_I xs0], σ) = some (some (jm_I xs0), σ) := (jm_un_eq [0, 8, 34, 48, 50, 84, 99, 111, 124] d 2 _).trans rfl
theorem gD_stiffer_111 (d : Nat) (σ : jm_S) (x1 x2 x3 x4 xs0 : Int32) : jm_ev d (jD_stiffer, 111, [some (jm_R 0 0), some (jm_I x1), some (jm_I x2), some (jm_I x3), some (jm_I x4)], [jm_I xs0], σ) = some (some (jm_I xs0), σ) := (jm_un_eq [0, 8, 34, 48, 50, 84, 99, 111, 124] d 2 _).trans rfl
theorem gD_stiffer_124 (d : Nat) (σ : jm_S) (x1 x2 x3 xs0 : Int32) (o4 : Option jm_V) : jm_ev d (jD_stiffer, 124, [some (jm_R 0 0), some (jm_I x1), some (jm_I x2), some (jm_I x3), o4], [jm_I xs0], σ) = some (some (jm_I xs0), σ) := (jm_un_eq [0, 8, 34, 48, 50, 84, 99, 111, 124] d 2 _).trans rfl
theorem gD_sets_0 (d : Nat) (σ : jm_S) (x1 x2 : Int32) : jm_call (d + 1) jD_sets [jm_R 0 0, jm_I x1, jm_I x2] σ = cond (decide (¬ σ.1 7 0 1 = 0)) (cond (decide (x1 < 0)) (jm_ev d (jD_sets, 32, [some (jm_R 0 0), some (jm_I x1), some (jm_I x2), none, none, none, none, none], [], σ)) (cond (decide ((99 : Int32) < x1)) (jm_ev d (jD_sets, 32, [some (jm_R 0 0), some (jm_I x1), some (jm_I x2), none, none, none, none, none], [], σ)) (cond (decide (x2 < 0)) (jm_ev d (jD_sets, 32, [some (jm_R 0 0), some (jm_I x1), some (jm_I x2), none, none, none, none, none], [], σ)) (cond (decide (x2 ≤ (2 : Int32))) (jm_ev d (jD_sets, 60, [some (jm_R 0 0), some (jm_I x1), some (jm_I x2), some (jm_I (0 : Int32)), some (jm_I (((1 : Int32) <<< ((σ.1 7 0 1) &&& 31)) - (1 : Int32))), some (jm_I (((1 : Int32) <<< ((σ.1 7 0 1) &&& 31)) - (1 : Int32))), some (jm_I (0 : Int32)), some (jm_I (0 : Int32))], [], σ)) (jm_ev d (jD_sets, 32, [some (jm_R 0 0), some (jm_I x1), some (jm_I x2), none, none, none, none, none], [], σ)))))) (some (some (jm_I (-1000002 : Int32)), σ)) := (jm_un_eq [0, 32, 60, 77, 98, 128] d 31 (jD_sets, 0, [some (jm_R 0 0), some (jm_I x1), some (jm_I x2), none, none, none, none, none], [], σ)).trans rfl
theorem gD_sets_32 (d : Nat) (σ : jm_S) (x1 x2 : Int32) : jm_ev d (jD_sets, 32, [some (jm_R 0 0), some (jm_I x1), some (jm_I x2), none, none, none, none, none], [], σ) = some (some (jm_I (-1000001 : Int32)), σ) := (jm_un_eq [0, 32, 60, 77, 98, 128] d 3 _).trans rfl
theorem gD_sets_60 (d : Nat) (σ : jm_S) (x1 x2 x3 x4 x5 x6 x7 : Int32) : jm_ev d (jD_sets, 60, [some (jm_R 0 0), some (jm_I x1), some (jm_I x2), some (jm_I x3), some (jm_I x4), some (jm_I x5), some (jm_I x6), some (jm_I x7)], [], σ) = cond (decide (x4 < x7)) (cond (decide (¬ x2 = 0)) (cond (decide (¬ x2 = (2 : Int32))) (cond (decide (¬ x3 = 0)) (jm_ev d (jD_sets, 128, [some (jm_R 0 0), some (jm_I x1), some (jm_I x2), some (jm_I x3), some (jm_I x4), some (jm_I x5), some (jm_I x6), some (jm_I x7)], [jm_I x5], σ)) (jm_ev d (jD_sets, 128, [some (jm_R 0 0), some (jm_I x1), some (jm_I x2), some (jm_I x3), some (jm_I x4), some (jm_I x5), some (jm_I x6), some (jm_I x7)], [jm_I (0 : Int32)], σ))) (some (some (jm_I x6), σ))) (some (some (jm_I x3), σ))) ((jm_call d jS_sumOf [jm_R 7 0, jm_I (0 : Int32), jm_I x7] σ).bind fun q => jm_ev d (jm_psh (jD_sets, 77, [some (jm_R 0 0), some (jm_I x1), some (jm_I x2), some (jm_I x3), some (jm_I x4), some (jm_I x5), some (jm_I x6), some (jm_I x7)], [], σ) q)) := (jm_un_eq [0, 32, 60, 77, 98, 128] d 13 _).trans rfl
theorem gD_sets_77 (d : Nat) (σ : jm_S) (x1 x2 x3 x4 x5 x6 x7 xs0 : Int32) : jm_ev d (jD_sets, 77, [some (jm_R 0 0), some (jm_I x1), some (jm_I x2), some (jm_I x3), some (jm_I x4), some (jm_I x5), some (jm_I x6), some (jm_I x7)], [jm_I xs0], σ) = cond (decide (¬ xs0 = x1)) (jm_ev d (jD_sets, 98, [some (jm_R 0 0), some (jm_I x1), some (jm_I x2), some (jm_I x3), some (jm_I x4), some (jm_I x5), some (jm_I x6), some (jm_I x7)], [], σ)) (jm_ev d (jD_sets, 98, [some (jm_R 0 0), some (jm_I x1), some (jm_I x2), some (jm_I (x3 + (1 : Int32))), some (jm_I x4), some (jm_I (x5 &&& x7)), some (jm_I (x6 ||| x7)), some (jm_I x7)], [], σ)) := (jm_un_eq [0, 32, 60, 77, 98, 128] d 12 _).trans rfl
theorem gD_sets_98 (d : Nat) (σ : jm_S) (x1 x2 x3 x4 x5 x6 x7 : Int32) : jm_ev d (jD_sets, 98, [some (jm_R 0 0), some (jm_I x1), some (jm_I x2), some (jm_I x3), some (jm_I x4), some (jm_I x5), some (jm_I x6), some (jm_I x7)], [], σ) = jm_ev d (jD_sets, 60, [some (jm_R 0 0), some (jm_I x1), some (jm_I x2), some (jm_I x3), some (jm_I x4), some (jm_I x5), some (jm_I x6), some (jm_I (x7 + (1 : Int32)))], [], σ) := (jm_un_eq [0, 32, 60, 77, 98, 128] d 3 _).trans rfl
theorem gD_sets_128 (d : Nat) (σ : jm_S) (x1 x2 x3 x4 x5 x6 x7 xs0 : Int32) : jm_ev d (jD_sets, 128, [some (jm_R 0 0), some (jm_I x1), some (jm_I x2), some (jm_I x3), some (jm_I x4), some (jm_I x5), some (jm_I x6), some (jm_I x7)], [jm_I xs0], σ) = some (some (jm_I xs0), σ) := (jm_un_eq [0, 32, 60, 77, 98, 128] d 2 _).trans rfl
theorem gD_share_0 (d : Nat) (σ : jm_S) (x1 x2 : Int32) : jm_call (d + 1) jD_share [jm_R 0 0, jm_I x1, jm_I x2] σ = (jm_call d jS_has [jm_R 7 0, jm_I x1] σ).bind fun q => jm_ev d (jm_psh (jD_share, 8, [some (jm_R 0 0), some (jm_I x1), some (jm_I x2), none, none, none, none], [], σ) q) := (jm_un_eq [0, 8, 22, 34, 53, 64, 121, 139] d 5 (jD_share, 0, [some (jm_R 0 0), some (jm_I x1), some (jm_I x2), none, none, none, none], [], σ)).trans rfl
theorem gD_share_8 (d : Nat) (σ : jm_S) (x1 x2 xs0 : Int32) : jm_ev d (jD_share, 8, [some (jm_R 0 0), some (jm_I x1), some (jm_I x2), none, none, none, none], [jm_I xs0], σ) = cond (decide (xs0 = 0)) (jm_ev d (jD_share, 22, [some (jm_R 0 0), some (jm_I x1), some (jm_I x2), none, none, none, none], [], σ)) (cond (decide (x2 < 0)) (jm_ev d (jD_share, 22, [some (jm_R 0 0), some (jm_I x1), some (jm_I x2), none, none, none, none], [], σ)) (cond (decide (x2 ≤ (999 : Int32))) ((jm_call d jS_sumOf [jm_R 7 0, jm_I (1 : Int32), jm_I (-1 : Int32)] σ).bind fun q => jm_ev d (jm_psh (jD_share, 34, [some (jm_R 0 0), some (jm_I x1), some (jm_I x2), none, none, none, none], [], σ) q)) (jm_ev d (jD_share, 22, [some (jm_R 0 0), some (jm_I x1), some (jm_I x2), none, none, none, none], [], σ)))) := (jm_un_eq [0, 8, 22, 34, 53, 64, 121, 139] d 12 _).trans rfl
theorem gD_share_22 (d : Nat) (σ : jm_S) (x1 x2 : Int32) : jm_ev d (jD_share, 22, [some (jm_R 0 0), some (jm_I x1), some (jm_I x2), none, none, none, none], [], σ) = some (some (jm_I (-1000001 : Int32)), σ) := (jm_un_eq [0, 8, 22, 34, 53, 64, 121, 139] d 3 _).trans rfl
theorem gD_share_34 (d : Nat) (σ : jm_S) (x1 x2 xs0 : Int32) : jm_ev d (jD_share, 34, [some (jm_R 0 0), some (jm_I x1), some (jm_I x2), none, none, none, none], [jm_I xs0], σ) = cond (decide (xs0 = 0)) (jm_ev d (jD_share, 53, [some (jm_R 0 0), some (jm_I x1), some (jm_I x2), some (jm_I xs0), none, none, none], [], σ)) (cond (jm_in3 x1 6) (cond (decide (¬ σ.1 9 1 x1.toNatClampNeg = 0)) (jm_ev d (jD_share, 64, [some (jm_R 0 0), some (jm_I x1), some (jm_I x2), some (jm_I xs0), some (jm_I x2), some (jm_I (0 : Int32)), some (jm_I (0 : Int32))], [], σ)) (jm_ev d (jD_share, 53, [some (jm_R 0 0), some (jm_I x1), some (jm_I x2), some (jm_I xs0), none, none, none], [], σ))) (none)) := (jm_un_eq [0, 8, 22, 34, 53, 64, 121, 139] d 18 _).trans rfl
theorem gD_share_53 (d : Nat) (σ : jm_S) (x1 x2 x3 : Int32) : jm_ev d (jD_share, 53, [some (jm_R 0 0), some (jm_I x1), some (jm_I x2), some (jm_I x3), none, none, none], [], σ) = some (some (jm_I (0 : Int32)), σ) := (jm_un_eq [0, 8, 22, 34, 53, 64, 121, 139] d 3 _).trans rfl
theorem gD_share_64 (d : Nat) (σ : jm_S) (x1 x2 x3 x4 x5 x6 : Int32) : jm_ev d (jD_share, 64, [some (jm_R 0 0), some (jm_I x1), some (jm_I x2), some (jm_I x3), some (jm_I x4), some (jm_I x5), some (jm_I x6)], [], σ) = cond (decide (σ.1 7 0 1 ≤ x6)) (cond (decide (x4 ≤ x5)) (jm_ev d (jD_share, 139, [some (jm_R 0 0), some (jm_I x1), some (jm_I x2), some (jm_I x3), some (jm_I x4), some (jm_I x5), some (jm_I x6)], [jm_I (0 : Int32)], σ)) (jm_ev d (jD_share, 139, [some (jm_R 0 0), some (jm_I x1), some (jm_I x2), some (jm_I x3), some (jm_I x4), some (jm_I x5), some (jm_I x6)], [jm_I (1 : Int32)], σ))) (cond (jm_in3 x6 6) (cond (decide (¬ x3 = 0)) (cond (decide (x1 ≤ x6)) (jm_ev d (jD_share, 121, [some (jm_R 0 0), some (jm_I x1), some (jm_I x2), some (jm_I x3), some (jm_I (x4 - ((x2 * (σ.1 9 1 x6.toNatClampNeg)) / x3))), some (jm_I x5), some (jm_I x6)], [], σ)) (cond (jm_in3 x6 6) (cond (decide (σ.1 9 1 x6.toNatClampNeg = 0)) (jm_ev d (jD_share, 121, [some (jm_R 0 0), some (jm_I x1), some (jm_I x2), some (jm_I x3), some (jm_I (x4 - ((x2 * (σ.1 9 1 x6.toNatClampNeg)) / x3))), some (jm_I x5), some (jm_I x6)], [], σ)) (jm_ev d (jD_share, 121, [some (jm_R 0 0), some (jm_I x1), some (jm_I x2), some (jm_I x3), some (jm_I (x4 - ((x2 * (σ.1 9 1 x6.toNatClampNeg)) / x3))), some (jm_I (x5 + (1 : Int32))), some (jm_I x6)], [], σ))) (none))) (none)) (none)) := (jm_un_eq [0, 8, 22, 34, 53, 64, 121, 139] d 32 _).trans rfl
theorem gD_share_121 (d : Nat) (σ : jm_S) (x1 x2 x3 x4 x5 x6 : Int32) : jm_ev d (jD_share, 121, [some (jm_R 0 0), some (jm_I x1), some (jm_I x2), some (jm_I x3), some (jm_I x4), some (jm_I x5), some (jm_I x6)], [], σ) = jm_ev d (jD_share, 64, [some (jm_R 0 0), some (jm_I x1), some (jm_I x2), some (jm_I x3), some (jm_I x4), some (jm_I x5), some (jm_I (x6 + (1 : Int32)))], [], σ) := (jm_un_eq [0, 8, 22, 34, 53, 64, 121, 139] d 3 _).trans rfl
theorem gD_share_139 (d : Nat) (σ : jm_S) (x1 x2 x3 x4 x5 x6 xs0 : Int32) : jm_ev d (jD_share, 139, [some (jm_R 0 0), some (jm_I x1), some (jm_I x2), some (jm_I x3), some (jm_I x4), some (jm_I x5), some (jm_I x6)], [jm_I xs0], σ) = cond (jm_in3 x1 6) (cond (decide (¬ x3 = 0)) (some (some (jm_I (((x2 * (σ.1 9 1 x1.toNatClampNeg)) / x3) + xs0)), σ)) (none)) (none) := (jm_un_eq [0, 8, 22, 34, 53, 64, 121, 139] d 16 _).trans rfl
end
section
-- what each stretch of code does
theorem gD_byTurns_0 (d : Nat) (σ : jm_S) (x1 : Int32) : jm_call (d + 1) jD_byTurns [jm_R 0 0, jm_I x1] σ = cond (decide (¬ σ.1 7 0 1 = 0)) (cond (decide (x1 < 0)) (jm_ev d (jD_byTurns, 22, [some (jm_R 0 0), some (jm_I x1)], [], σ)) (cond (decide (x1 ≤ (3 : Int32))) ((jm_call d jS_takeFrom [jm_R 7 1, jm_R 7 0] σ).bind fun q => jm_ev d (jm_psh (jD_byTurns, 36, [some (jm_R 0 0), some (jm_I x1)], [], σ) q)) (jm_ev d (jD_byTurns, 22, [some (jm_R 0 0), some (jm_I x1)], [], σ)))) (some (some (jm_I (-1000002 : Int32)), σ)) := (jm_un_eq [0, 22, 36, 42] d 15 (jD_byTurns, 0, [some (jm_R 0 0), some (jm_I x1)], [], σ)).trans rfl
theorem gD_byTurns_22 (d : Nat) (σ : jm_S) (x1 : Int32) : jm_ev d (jD_byTurns, 22, [some (jm_R 0 0), some (jm_I x1)], [], σ) = some (some (jm_I (-1000001 : Int32)), σ) := (jm_un_eq [0, 22, 36, 42] d 3 _).trans rfl
theorem gD_byTurns_36 (d : Nat) (σ : jm_S) (x1 : Int32) : jm_ev d (jD_byTurns, 36, [some (jm_R 0 0), some (jm_I x1)], [], σ) = (jm_call d jD_turned [jm_R 0 0, jm_I x1, jm_I (1 : Int32)] σ).bind fun q => jm_ev d (jm_psh (jD_byTurns, 42, [some (jm_R 0 0), some (jm_I x1)], [], σ) q) := (jm_un_eq [0, 22, 36, 42] d 5 _).trans rfl
theorem gD_byTurns_42 (d : Nat) (σ : jm_S) (x1 xs0 : Int32) : jm_ev d (jD_byTurns, 42, [some (jm_R 0 0), some (jm_I x1)], [jm_I xs0], σ) = some (some (jm_I xs0), σ) := (jm_un_eq [0, 22, 36, 42] d 2 _).trans rfl
theorem gD_who_0 (d : Nat) (σ : jm_S) (x1 x2 x3 x4 x5 : Int32) : jm_call (d + 1) jD_who [jm_R 0 0, jm_I x1, jm_I x2, jm_I x3, jm_I x4, jm_I x5] σ = (jm_call d jS_has [jm_R 7 0, jm_I x1] σ).bind fun q => jm_ev d (jm_psh (jD_who, 8, [some (jm_R 0 0), some (jm_I x1), some (jm_I x2), some (jm_I x3), some (jm_I x4), some (jm_I x5)], [], σ) q) := (jm_un_eq [0, 8, 20, 27, 48, 56, 64, 74, 82, 99, 102, 120, 123, 137, 145, 148] d 5 (jD_who, 0, [some (jm_R 0 0), some (jm_I x1), some (jm_I x2), some (jm_I x3), some (jm_I x4), some (jm_I x5)], [], σ)).trans rfl
theorem gD_who_8 (d : Nat) (σ : jm_S) (x1 x2 x3 x4 x5 xs0 : Int32) : jm_ev d (jD_who, 8, [some (jm_R 0 0), some (jm_I x1), some (jm_I x2), some (jm_I x3), some (jm_I x4), some (jm_I x5)], [jm_I xs0], σ) = cond (decide (xs0 = 0)) (jm_ev d (jD_who, 20, [some (jm_R 0 0), some (jm_I x1), some (jm_I x2), some (jm_I x3), some (jm_I x4), some (jm_I x5)], [], σ)) (cond (decide (x2 < 0)) (jm_ev d (jD_who, 20, [some (jm_R 0 0), some (jm_I x1), some (jm_I x2), some (jm_I x3), some (jm_I x4), some (jm_I x5)], [], σ)) (cond (decide (x2 ≤ (3 : Int32))) ((jm_call d jD_isRow [jm_I x3] σ).bind fun q => jm_ev d (jm_psh (jD_who, 27, [some (jm_R 0 0), some (jm_I x1), some (jm_I x2), some (jm_I x3), some (jm_I x4), some (jm_I x5)], [], σ) q)) (jm_ev d (jD_who, 20, [some (jm_R 0 0), some (jm_I x1), some (jm_I x2), some (jm_I x3), some (jm_I x4), some (jm_I x5)], [], σ)))) := (jm_un_eq [0, 8, 20, 27, 48, 56, 64, 74, 82, 99, 102, 120, 123, 137, 145, 148] d 9 _).trans rfl
theorem gD_who_20 (d : Nat) (σ : jm_S) (x1 x2 x3 x4 x5 : Int32) : jm_ev d (jD_who, 20, [some (jm_R 0 0), some (jm_I x1), some (jm_I x2), some (jm_I x3), some (jm_I x4), some (jm_I x5)], [], σ) = some (some (jm_I (-1000001 : Int32)), σ) := (jm_un_eq [0, 8, 20, 27, 48, 56, 64, 74, 82, 99, 102, 120, 123, 137, 145, 148] d 3 _).trans rfl
theorem gD_who_27 (d : Nat) (σ : jm_S) (x1 x2 x3 x4 x5 xs0 : Int32) : jm_ev d (jD_who, 27, [some (jm_R 0 0), some (jm_I x1), some (jm_I x2), some (jm_I x3), some (jm_I x4), some (jm_I x5)], [jm_I xs0], σ) = cond (decide (xs0 = 0)) (jm_ev d (jD_who, 48, [some (jm_R 0 0), some (jm_I x1), some (jm_I x2), some (jm_I x3), some (jm_I x4), some (jm_I x5)], [], σ)) (cond (decide (x5 < (1 : Int32))) (jm_ev d (jD_who, 48, [some (jm_R 0 0), some (jm_I x1), some (jm_I x2), some (jm_I x3), some (jm_I x4), some (jm_I x5)], [], σ)) (cond (decide (x5 ≤ σ.1 7 0 1)) ((jm_call d jD_isMissing [jm_R 0 0, jm_I x3] σ).bind fun q => jm_ev d (jm_psh (jD_who, 56, [some (jm_R 0 0), some (jm_I x1), some (jm_I x2), some (jm_I x3), some (jm_I x4), some (jm_I x5)], [], σ) q)) (jm_ev d (jD_who, 48, [some (jm_R 0 0), some (jm_I x1), some (jm_I x2), some (jm_I x3), some (jm_I x4), some (jm_I x5)], [], σ)))) := (jm_un_eq [0, 8, 20, 27, 48, 56, 64, 74, 82, 99, 102, 120, 123, 137, 145, 148] d 13 _).trans rfl
theorem gD_who_48 (d : Nat) (σ : jm_S) (x1 x2 x3 x4 x5 : Int32) : jm_ev d (jD_who, 48, [some (jm_R 0 0), some (jm_I x1), some (jm_I x2), some (jm_I x3), some (jm_I x4), some (jm_I x5)], [], σ) = some (some (jm_I (-1000001 : Int32)), σ) := (jm_un_eq [0, 8, 20, 27, 48, 56, 64, 74, 82, 99, 102, 120, 123, 137, 145, 148] d 3 _).trans rfl
theorem gD_who_56 (d : Nat) (σ : jm_S) (x1 x2 x3 x4 x5 xs0 : Int32) : jm_ev d (jD_who, 56, [some (jm_R 0 0), some (jm_I x1), some (jm_I x2), some (jm_I x3), some (jm_I x4), some (jm_I x5)], [jm_I xs0], σ) = cond (decide (xs0 = 0)) ((jm_call d jD_isWithin [jm_R 0 0, jm_I x3, jm_I x4, jm_I x5] σ).bind fun q => jm_ev d (jm_psh (jD_who, 74, [some (jm_R 0 0), some (jm_I x1), some (jm_I x2), some (jm_I x3), some (jm_I x4), some (jm_I x5)], [], σ) q)) ((jm_call d jD_found [jm_R 0 0, jm_I (1 : Int32)] σ).bind fun q => jm_ev d (jm_psh (jD_who, 64, [some (jm_R 0 0), some (jm_I x1), some (jm_I x2), some (jm_I x3), some (jm_I x4), some (jm_I x5)], [], σ) q)) := (jm_un_eq [0, 8, 20, 27, 48, 56, 64, 74, 82, 99, 102, 120, 123, 137, 145, 148] d 7 _).trans rfl
theorem gD_who_64 (d : Nat) (σ : jm_S) (x1 x2 x3 x4 x5 xs0 : Int32) : jm_ev d (jD_who, 64, [some (jm_R 0 0), some (jm_I x1), some (jm_I x2), some (jm_I x3), some (jm_I x4), some (jm_I x5)], [jm_I xs0], σ) = some (some (jm_I xs0), σ) := (jm_un_eq [0, 8, 20, 27, 48, 56, 64, 74, 82, 99, 102, 120, 123, 137, 145, 148] d 2 _).trans rfl
theorem gD_who_74 (d : Nat) (σ : jm_S) (x1 x2 x3 x4 x5 xs0 : Int32) : jm_ev d (jD_who, 74, [some (jm_R 0 0), some (jm_I x1), some (jm_I x2), some (jm_I x3), some (jm_I x4), some (jm_I x5)], [jm_I xs0], σ) = cond (decide (¬ xs0 = 0)) (cond (decide (¬ x2 = 0)) (cond (decide (¬ x2 = (1 : Int32))) (cond (decide (¬ x2 = (3 : Int32))) (jm_ev d (jD_who, 137, [some (jm_R 0 0), some (jm_I x1), some (jm_I x2), some (jm_I x3), some (jm_I x4), some (jm_I x5)], [jm_I (0 : Int32), jm_I x1, jm_R 0 0, jm_R 0 0], σ)) (jm_ev d (jD_who, 137, [some (jm_R 0 0), some (jm_I x1), some (jm_I x2), some (jm_I x3), some (jm_I x4), some (jm_I x5)], [jm_I (1 : Int32), jm_I x1, jm_R 0 0, jm_R 0 0], σ))) ((jm_call d jD_bitsThatFit [jm_R 0 0, jm_I x1, jm_I (0 : Int32), jm_I x3, jm_I x4, jm_I x5] σ).bind fun q => jm_ev d (jm_psh (jD_who, 120, [some (jm_R 0 0), some (jm_I x1), some (jm_I x2), some (jm_I x3), some (jm_I x4), some (jm_I x5)], [jm_R 0 0], σ) q))) ((jm_call d jD_bitsThatFit [jm_R 0 0, jm_I x1, jm_I (3 : Int32), jm_I x3, jm_I x4, jm_I x5] σ).bind fun q => jm_ev d (jm_psh (jD_who, 99, [some (jm_R 0 0), some (jm_I x1), some (jm_I x2), some (jm_I x3), some (jm_I x4), some (jm_I x5)], [jm_R 0 0], σ) q))) ((jm_call d jD_found [jm_R 0 0, jm_I (2 : Int32)] σ).bind fun q => jm_ev d (jm_psh (jD_who, 82, [some (jm_R 0 0), some (jm_I x1), some (jm_I x2), some (jm_I x3), some (jm_I x4), some (jm_I x5)], [], σ) q)) := (jm_un_eq [0, 8, 20, 27, 48, 56, 64, 74, 82, 99, 102, 120, 123, 137, 145, 148] d 15 _).trans rfl
theorem gD_who_82 (d : Nat) (σ : jm_S) (x1 x2 x3 x4 x5 xs0 : Int32) : jm_ev d (jD_who, 82, [some (jm_R 0 0), some (jm_I x1), some (jm_I x2), some (jm_I x3), some (jm_I x4), some (jm_I x5)], [jm_I xs0], σ) = some (some (jm_I xs0), σ) := (jm_un_eq [0, 8, 20, 27, 48, 56, 64, 74, 82, 99, 102, 120, 123, 137, 145, 148] d 2 _).trans rfl
theorem gD_who_99 (d : Nat) (σ : jm_S) (x1 x2 x3 x4 x5 xs0 : Int32) : jm_ev d (jD_who, 99, [some (jm_R 0 0), some (jm_I x1), some (jm_I x2), some (jm_I x3), some (jm_I x4), some (jm_I x5)], [jm_I xs0, jm_R 0 0], σ) = (jm_call d jD_clean [jm_R 0 0, jm_I xs0] σ).bind fun q => jm_ev d (jm_psh (jD_who, 102, [some (jm_R 0 0), some (jm_I x1), some (jm_I x2), some (jm_I x3), some (jm_I x4), some (jm_I x5)], [], σ) q) := (jm_un_eq [0, 8, 20, 27, 48, 56, 64, 74, 82, 99, 102, 120, 123, 137, 145, 148] d 2 _).trans rfl
theorem gD_who_102 (d : Nat) (σ : jm_S) (x1 x2 x3 x4 x5 xs0 : Int32) : jm_ev d (jD_who, 102, [some (jm_R 0 0), some (jm_I x1), some (jm_I x2), some (jm_I x3), some (jm_I x4), some (jm_I x5)], [jm_I xs0], σ) = some (some (jm_I xs0), σ) := (jm_un_eq [0, 8, 20, 27, 48, 56, 64, 74, 82, 99, 102, 120, 123, 137, 145, 148] d 2 _).trans rfl
theorem gD_who_120 (d : Nat) (σ : jm_S) (x1 x2 x3 x4 x5 xs0 : Int32) : jm_ev d (jD_who, 120, [some (jm_R 0 0), some (jm_I x1), some (jm_I x2), some (jm_I x3), some (jm_I x4), some (jm_I x5)], [jm_I xs0, jm_R 0 0], σ) = (jm_call d jD_clean [jm_R 0 0, jm_I xs0] σ).bind fun q => jm_ev d (jm_psh (jD_who, 123, [some (jm_R 0 0), some (jm_I x1), some (jm_I x2), some (jm_I x3), some (jm_I x4), some (jm_I x5)], [], σ) q) := (jm_un_eq [0, 8, 20, 27, 48, 56, 64, 74, 82, 99, 102, 120, 123, 137, 145, 148] d 2 _).trans rfl
theorem gD_who_123 (d : Nat) (σ : jm_S) (x1 x2 x3 x4 x5 xs0 : Int32) : jm_ev d (jD_who, 123, [some (jm_R 0 0), some (jm_I x1), some (jm_I x2), some (jm_I x3), some (jm_I x4), some (jm_I x5)], [jm_I xs0], σ) = some (some (jm_I xs0), σ) := (jm_un_eq [0, 8, 20, 27, 48, 56, 64, 74, 82, 99, 102, 120, 123, 137, 145, 148] d 2 _).trans rfl
theorem gD_who_137 (d : Nat) (σ : jm_S) (x1 x2 x3 x4 x5 xs0 xs1 : Int32) : jm_ev d (jD_who, 137, [some (jm_R 0 0), some (jm_I x1), some (jm_I x2), some (jm_I x3), some (jm_I x4), some (jm_I x5)], [jm_I xs0, jm_I xs1, jm_R 0 0, jm_R 0 0], σ) = (jm_call d jD_springsThatFit [jm_R 0 0, jm_I xs1, jm_I xs0, jm_I x3, jm_I x4, jm_I x5] σ).bind fun q => jm_ev d (jm_psh (jD_who, 145, [some (jm_R 0 0), some (jm_I x1), some (jm_I x2), some (jm_I x3), some (jm_I x4), some (jm_I x5)], [jm_R 0 0], σ) q) := (jm_un_eq [0, 8, 20, 27, 48, 56, 64, 74, 82, 99, 102, 120, 123, 137, 145, 148] d 5 _).trans rfl
theorem gD_who_145 (d : Nat) (σ : jm_S) (x1 x2 x3 x4 x5 xs0 : Int32) : jm_ev d (jD_who, 145, [some (jm_R 0 0), some (jm_I x1), some (jm_I x2), some (jm_I x3), some (jm_I x4), some (jm_I x5)], [jm_I xs0, jm_R 0 0], σ) = (jm_call d jD_clean [jm_R 0 0, jm_I xs0] σ).bind fun q => jm_ev d (jm_psh (jD_who, 148, [some (jm_R 0 0), some (jm_I x1), some (jm_I x2), some (jm_I x3), some (jm_I x4), some (jm_I x5)], [], σ) q) := (jm_un_eq [0, 8, 20, 27, 48, 56, 64, 74, 82, 99, 102, 120, 123, 137, 145, 148] d 2 _).trans rfl
theorem gD_who_148 (d : Nat) (σ : jm_S) (x1 x2 x3 x4 x5 xs0 : Int32) : jm_ev d (jD_who, 148, [some (jm_R 0 0), some (jm_I x1), some (jm_I x2), some (jm_I x3), some (jm_I x4), some (jm_I x5)], [jm_I xs0], σ) = some (some (jm_I xs0), σ) := (jm_un_eq [0, 8, 20, 27, 48, 56, 64, 74, 82, 99, 102, 120, 123, 137, 145, 148] d 2 _).trans rfl
theorem gD_broken_0 (d : Nat) (σ : jm_S) (x1 x2 x3 : Int32) : jm_call (d + 1) jD_broken [jm_R 0 0, jm_I x1, jm_I x2, jm_I x3] σ = cond (decide (¬ σ.1 7 0 1 = 0)) (cond (decide (x1 < 0)) (jm_ev d (jD_broken, 43, [some (jm_R 0 0), some (jm_I x1), some (jm_I x2), some (jm_I x3), none, none, none, none, none, none, none], [], σ)) (cond (decide ((6 : Int32) < x1)) (jm_ev d (jD_broken, 43, [some (jm_R 0 0), some (jm_I x1), some (jm_I x2), some (jm_I x3), none, none, none, none, none, none, none], [], σ)) (cond (decide (x2 < 0)) (jm_ev d (jD_broken, 43, [some (jm_R 0 0), some (jm_I x1), some (jm_I x2), some (jm_I x3), none, none, none, none, none, none, none], [], σ)) (cond (decide ((10 : Int32) < x2)) (jm_ev d (jD_broken, 43, [some (jm_R 0 0), some (jm_I x1), some (jm_I x2), some (jm_I x3), none, none, none, none, none, none, none], [], σ)) (cond (decide (x3 < 0)) (jm_ev d (jD_broken, 43, [some (jm_R 0 0), some (jm_I x1), some (jm_I x2), some (jm_I x3), none, none, none, none, none, none, none], [], σ)) (cond (decide (x3 ≤ (1 : Int32))) (jm_ev d (jD_broken, 67, [some (jm_R 0 0), some (jm_I x1), some (jm_I x2), some (jm_I x3), some (jm_L (0 : Int64)), none, some (jm_L (1 : Int64)), none, some (jm_I ((σ.1 7 0 1) - (1 : Int32))), some (jm_I (0 : Int32)), none], [], σ)) (jm_ev d (jD_broken, 43, [some (jm_R 0 0), some (jm_I x1), some (jm_I x2), some (jm_I x3), none, none, none, none, none, none, none], [], σ)))))))) (some (some (jm_L (-1000002 : Int64)), σ)) := (jm_un_eq [0, 43, 67, 99, 102, 121, 137, 156] d 32 (jD_broken, 0, [some (jm_R 0 0), some (jm_I x1), some (jm_I x2), some (jm_I x3), none, none, none, none, none, none, none], [], σ)).trans rfl
theorem gD_broken_43 (d : Nat) (σ : jm_S) (x1 x2 x3 : Int32) : jm_ev d (jD_broken, 43, [some (jm_R 0 0), some (jm_I x1), some (jm_I x2), some (jm_I x3), none, none, none, none, none, none, none], [], σ) = some (some (jm_L (-1000001 : Int64)), σ) := (jm_un_eq [0, 43, 67, 99, 102, 121, 137, 156] d 3 _).trans rfl
theorem gD_broken_67 (d : Nat) (σ : jm_S) (x1 x2 x3 x8 x9 : Int32) (l4 l6 : Int64) : jm_ev d (jD_broken, 67, [some (jm_R 0 0), some (jm_I x1), some (jm_I x2), some (jm_I x3), some (jm_L l4), none, some (jm_L l6), none, some (jm_I x8), some (jm_I x9), none], [], σ) = cond (decide (x8 ≤ x9)) ((jm_call d jS_takeFrom [jm_R 7 1, jm_R 7 0] σ).bind fun q => jm_ev d (jm_psh (jD_broken, 99, [some (jm_R 0 0), some (jm_I x1), some (jm_I x2), some (jm_I x3), some (jm_L l4), none, some (jm_L l6), none, some (jm_I x8), some (jm_I x9), none], [], σ) q)) (jm_ev d (jD_broken, 67, [some (jm_R 0 0), some (jm_I x1), some (jm_I x2), some (jm_I x3), some (jm_L l4), none, some (jm_L (l6 * (10 : Int64))), none, some (jm_I x8), some (jm_I (x9 + (1 : Int32))), none], [], σ)) := (jm_un_eq [0, 43, 67, 99, 102, 121, 137, 156] d 10 _).trans rfl
theorem gD_broken_99 (d : Nat) (σ : jm_S) (x1 x2 x3 x8 x9 : Int32) (l4 l6 : Int64) : jm_ev d (jD_broken, 99, [some (jm_R 0 0), some (jm_I x1), some (jm_I x2), some (jm_I x3), some (jm_L l4), none, some (jm_L l6), none, some (jm_I x8), some (jm_I x9), none], [], σ) = jm_ev d (jD_broken, 102, [some (jm_R 0 0), some (jm_I x1), some (jm_I x2), some (jm_I x3), some (jm_L l4), none, some (jm_L l6), none, some (jm_I x8), some (jm_I (0 : Int32)), none], [], σ) := (jm_un_eq [0, 43, 67, 99, 102, 121, 137, 156] d 3 _).trans rfl
theorem gD_broken_102 (d : Nat) (σ : jm_S) (x1 x2 x3 x8 x9 : Int32) (l4 l6 : Int64) : jm_ev d (jD_broken, 102, [some (jm_R 0 0), some (jm_I x1), some (jm_I x2), some (jm_I x3), some (jm_L l4), none, some (jm_L l6), none, some (jm_I x8), some (jm_I x9), none], [], σ) = cond (decide ((1 : Int32) <<< (x8 &&& 31) ≤ x9)) ((jm_call d jD_commonDivisor [jm_L l6, jm_L l4] σ).bind fun q => jm_ev d (jm_psh (jD_broken, 137, [some (jm_R 0 0), some (jm_I x1), some (jm_I x2), some (jm_I x3), some (jm_L l4), none, some (jm_L l6), none, some (jm_I x8), some (jm_I x9), none], [], σ) q)) ((jm_call d jD_casesOf [jm_R 0 0, jm_I x9, jm_I x1, jm_I x2] σ).bind fun q => jm_ev d (jm_psh (jD_broken, 121, [some (jm_R 0 0), some (jm_I x1), some (jm_I x2), some (jm_I x3), some (jm_L l4), none, some (jm_L l6), none, some (jm_I x8), some (jm_I x9), none], [jm_L l4], σ) q)) := (jm_un_eq [0, 43, 67, 99, 102, 121, 137, 156] d 12 _).trans rfl
theorem gD_broken_121 (d : Nat) (σ : jm_S) (x1 x2 x3 x8 x9 : Int32) (l4 l6 ls0 ls1 : Int64) : jm_ev d (jD_broken, 121, [some (jm_R 0 0), some (jm_I x1), some (jm_I x2), some (jm_I x3), some (jm_L l4), none, some (jm_L l6), none, some (jm_I x8), some (jm_I x9), none], [jm_L ls0, jm_L ls1], σ) = jm_ev d (jD_broken, 102, [some (jm_R 0 0), some (jm_I x1), some (jm_I x2), some (jm_I x3), some (jm_L (ls1 + ls0)), none, some (jm_L l6), none, some (jm_I x8), some (jm_I (x9 + (1 : Int32))), none], [], σ) := (jm_un_eq [0, 43, 67, 99, 102, 121, 137, 156] d 5 _).trans rfl
theorem gD_broken_137 (d : Nat) (σ : jm_S) (x1 x2 x3 x8 x9 : Int32) (l4 l6 ls0 : Int64) : jm_ev d (jD_broken, 137, [some (jm_R 0 0), some (jm_I x1), some (jm_I x2), some (jm_I x3), some (jm_L l4), none, some (jm_L l6), none, some (jm_I x8), some (jm_I x9), none], [jm_L ls0], σ) = cond (decide (¬ x3 = 0)) (cond (decide (¬ ls0 = 0)) (jm_ev d (jD_broken, 156, [some (jm_R 0 0), some (jm_I x1), some (jm_I x2), some (jm_I x3), some (jm_L l4), none, some (jm_L l6), none, some (jm_I x8), some (jm_L ls0), none], [jm_L (l6 / ls0)], σ)) (none)) (cond (decide (¬ ls0 = 0)) (jm_ev d (jD_broken, 156, [some (jm_R 0 0), some (jm_I x1), some (jm_I x2), some (jm_I x3), some (jm_L l4), none, some (jm_L l6), none, some (jm_I x8), some (jm_L ls0), none], [jm_L (l4 / ls0)], σ)) (none)) := (jm_un_eq [0, 43, 67, 99, 102, 121, 137, 156] d 8 _).trans rfl
theorem gD_broken_156 (d : Nat) (σ : jm_S) (x1 x2 x3 x8 : Int32) (l4 l6 l9 ls0 : Int64) : jm_ev d (jD_broken, 156, [some (jm_R 0 0), some (jm_I x1), some (jm_I x2), some (jm_I x3), some (jm_L l4), none, some (jm_L l6), none, some (jm_I x8), some (jm_L l9), none], [jm_L ls0], σ) = some (some (jm_L ls0), σ) := (jm_un_eq [0, 43, 67, 99, 102, 121, 137, 156] d 2 _).trans rfl
theorem gD_drawn_0 (d : Nat) (σ : jm_S) (x1 x2 x3 : Int32) : jm_call (d + 1) jD_drawn [jm_R 0 0, jm_I x1, jm_I x2, jm_I x3] σ = cond (decide (¬ σ.1 7 0 1 = 0)) (cond (decide (x1 < 0)) (jm_ev d (jD_drawn, 43, [some (jm_R 0 0), some (jm_I x1), some (jm_I x2), some (jm_I x3), none, none, none, none, none, none], [], σ)) (cond (decide ((40 : Int32) < x1)) (jm_ev d (jD_drawn, 43, [some (jm_R 0 0), some (jm_I x1), some (jm_I x2), some (jm_I x3), none, none, none, none, none, none], [], σ)) (cond (decide (x2 < (1 : Int32))) (jm_ev d (jD_drawn, 43, [some (jm_R 0 0), some (jm_I x1), some (jm_I x2), some (jm_I x3), none, none, none, none, none, none], [], σ)) (cond (decide ((999999 : Int32) < x2)) (jm_ev d (jD_drawn, 43, [some (jm_R 0 0), some (jm_I x1), some (jm_I x2), some (jm_I x3), none, none, none, none, none, none], [], σ)) (cond (decide (x3 < 0)) (jm_ev d (jD_drawn, 43, [some (jm_R 0 0), some (jm_I x1), some (jm_I x2), some (jm_I x3), none, none, none, none, none, none], [], σ)) (cond (decide (x3 ≤ (1 : Int32))) ((jm_call d jS_takeFrom [jm_R 7 1, jm_R 7 0] σ).bind fun q => jm_ev d (jm_psh (jD_drawn, 57, [some (jm_R 0 0), some (jm_I x1), some (jm_I x2), some (jm_I x3), none, none, none, none, none, none], [], σ) q)) (jm_ev d (jD_drawn, 43, [some (jm_R 0 0), some (jm_I x1), some (jm_I x2), some (jm_I x3), none, none, none, none, none, none], [], σ)))))))) (some (some (jm_I (-1000002 : Int32)), σ)) := (jm_un_eq [0, 43, 57, 70, 94, 98, 120, 137] d 26 (jD_drawn, 0, [some (jm_R 0 0), some (jm_I x1), some (jm_I x2), some (jm_I x3), none, none, none, none, none, none], [], σ)).trans rfl
theorem gD_drawn_43 (d : Nat) (σ : jm_S) (x1 x2 x3 : Int32) : jm_ev d (jD_drawn, 43, [some (jm_R 0 0), some (jm_I x1), some (jm_I x2), some (jm_I x3), none, none, none, none, none, none], [], σ) = some (some (jm_I (-1000001 : Int32)), σ) := (jm_un_eq [0, 43, 57, 70, 94, 98, 120, 137] d 3 _).trans rfl
theorem gD_drawn_57 (d : Nat) (σ : jm_S) (x1 x2 x3 : Int32) : jm_ev d (jD_drawn, 57, [some (jm_R 0 0), some (jm_I x1), some (jm_I x2), some (jm_I x3), none, none, none, none, none, none], [], σ) = jm_ev d (jD_drawn, 70, [some (jm_R 0 0), some (jm_I x1), some (jm_I x2), some (jm_I x3), some (jm_L x2.toInt64), none, some (jm_I (0 : Int32)), some (jm_I (0 : Int32)), some (jm_I (0 : Int32)), none], [], σ) := (jm_un_eq [0, 43, 57, 70, 94, 98, 120, 137] d 10 _).trans rfl
theorem gD_drawn_70 (d : Nat) (σ : jm_S) (x1 x2 x3 x6 x7 x8 : Int32) (l4 : Int64) (o9 : Option jm_V) : jm_ev d (jD_drawn, 70, [some (jm_R 0 0), some (jm_I x1), some (jm_I x2), some (jm_I x3), some (jm_L l4), none, some (jm_I x6), some (jm_I x7), some (jm_I x8), o9], [], σ) = cond (decide (x1 ≤ x8)) (cond (decide (¬ x3 = 0)) (jm_ev d (jD_drawn, 137, [some (jm_R 0 0), some (jm_I x1), some (jm_I x2), some (jm_I x3), some (jm_L l4), none, some (jm_I x6), some (jm_I x7), some (jm_I x8), o9], [jm_I x7], σ)) (jm_ev d (jD_drawn, 137, [some (jm_R 0 0), some (jm_I x1), some (jm_I x2), some (jm_I x3), some (jm_L l4), none, some (jm_I x6), some (jm_I x7), some (jm_I x8), o9], [jm_I x6], σ))) ((jm_call d jD_drawOne [jm_R 0 0, jm_L ((l4 * (16807 : Int64)) - (l4 * (16807 : Int64)) / (2147483647 : Int64) * (2147483647 : Int64))] σ).bind fun q => jm_ev d (jm_psh (jD_drawn, 94, [some (jm_R 0 0), some (jm_I x1), some (jm_I x2), some (jm_I x3), some (jm_L ((l4 * (16807 : Int64)) - (l4 * (16807 : Int64)) / (2147483647 : Int64) * (2147483647 : Int64))), none, some (jm_I x6), some (jm_I x7), some (jm_I x8), o9], [], σ) q)) := (jm_un_eq [0, 43, 57, 70, 94, 98, 120, 137] d 13 _).trans rfl
theorem gD_drawn_94 (d : Nat) (σ : jm_S) (x1 x2 x3 x6 x7 x8 : Int32) (l4 : Int64) (o9 : Option jm_V) : jm_ev d (jD_drawn, 94, [some (jm_R 0 0), some (jm_I x1), some (jm_I x2), some (jm_I x3), some (jm_L l4), none, some (jm_I x6), some (jm_I x7), some (jm_I x8), o9], [], σ) = (jm_call d jD_belowMarkTried [jm_R 0 0] σ).bind fun q => jm_ev d (jm_psh (jD_drawn, 98, [some (jm_R 0 0), some (jm_I x1), some (jm_I x2), some (jm_I x3), some (jm_L l4), none, some (jm_I x6), some (jm_I x7), some (jm_I x8), o9], [], σ) q) := (jm_un_eq [0, 43, 57, 70, 94, 98, 120, 137] d 3 _).trans rfl
theorem gD_drawn_98 (d : Nat) (σ : jm_S) (x1 x2 x3 x6 x7 x8 xs0 : Int32) (l4 : Int64) (o9 : Option jm_V) : jm_ev d (jD_drawn, 98, [some (jm_R 0 0), some (jm_I x1), some (jm_I x2), some (jm_I x3), some (jm_L l4), none, some (jm_I x6), some (jm_I x7), some (jm_I x8), o9], [jm_I xs0], σ) = cond (decide (¬ xs0 = (-1000016 : Int32))) (jm_ev d (jD_drawn, 120, [some (jm_R 0 0), some (jm_I x1), some (jm_I x2), some (jm_I x3), some (jm_L l4), none, some (jm_I (x6 + xs0)), some (jm_I x7), some (jm_I x8), some (jm_I xs0)], [], σ)) (jm_ev d (jD_drawn, 120, [some (jm_R 0 0), some (jm_I x1), some (jm_I x2), some (jm_I x3), some (jm_L l4), none, some (jm_I x6), some (jm_I (x7 + (1 : Int32))), some (jm_I x8), some (jm_I xs0)], [], σ)) := (jm_un_eq [0, 43, 57, 70, 94, 98, 120, 137] d 9 _).trans rfl
theorem gD_drawn_120 (d : Nat) (σ : jm_S) (x1 x2 x3 x6 x7 x8 x9 : Int32) (l4 : Int64) : jm_ev d (jD_drawn, 120, [some (jm_R 0 0), some (jm_I x1), some (jm_I x2), some (jm_I x3), some (jm_L l4), none, some (jm_I x6), some (jm_I x7), some (jm_I x8), some (jm_I x9)], [], σ) = jm_ev d (jD_drawn, 70, [some (jm_R 0 0), some (jm_I x1), some (jm_I x2), some (jm_I x3), some (jm_L l4), none, some (jm_I x6), some (jm_I x7), some (jm_I (x8 + (1 : Int32))), some (jm_I x9)], [], σ) := (jm_un_eq [0, 43, 57, 70, 94, 98, 120, 137] d 3 _).trans rfl
theorem gD_drawn_137 (d : Nat) (σ : jm_S) (x1 x2 x3 x6 x7 x8 xs0 : Int32) (l4 : Int64) (o9 : Option jm_V) : jm_ev d (jD_drawn, 137, [some (jm_R 0 0), some (jm_I x1), some (jm_I x2), some (jm_I x3), some (jm_L l4), none, some (jm_I x6), some (jm_I x7), some (jm_I x8), o9], [jm_I xs0], σ) = some (some (jm_I xs0), σ) := (jm_un_eq [0, 43, 57, 70, 94, 98, 120, 137] d 2 _).trans rfl
theorem gD_image_0 (d : Nat) (σ : jm_S) (x1 : Int32) : jm_call (d + 1) jD_image [jm_R 0 0, jm_I x1] σ = (jm_call d jD_isImage [jm_I x1] σ).bind fun q => jm_ev d (jm_psh (jD_image, 4, [some (jm_R 0 0), some (jm_I x1)], [], σ) q) := (jm_un_eq [0, 4, 28, 35] d 3 (jD_image, 0, [some (jm_R 0 0), some (jm_I x1)], [], σ)).trans rfl
theorem gD_image_4 (d : Nat) (σ : jm_S) (x1 xs0 : Int32) : jm_ev d (jD_image, 4, [some (jm_R 0 0), some (jm_I x1)], [jm_I xs0], σ) = cond (decide (¬ xs0 = 0)) (cond (decide (¬ σ.1 7 0 1 = 0)) ((jm_call d jD_imageAt [jm_R 0 0, jm_I x1] σ).bind fun q => jm_ev d (jm_psh (jD_image, 28, [some (jm_R 0 0), some (jm_I x1)], [], σ) q)) (some (some (jm_I (-1000002 : Int32)), σ))) (some (some (jm_I (-1000001 : Int32)), σ)) := (jm_un_eq [0, 4, 28, 35] d 9 _).trans rfl
theorem gD_image_28 (d : Nat) (σ : jm_S) (rs0 : Nat) (x1 : Int32) : jm_ev d (jD_image, 28, [some (jm_R 0 0), some (jm_I x1)], [jm_R 7 rs0], σ) = (jm_call d jS_takeFrom [jm_R 7 rs0, jm_R 7 0] σ).bind fun q => jm_ev d (jm_psh (jD_image, 35, [some (jm_R 0 0), some (jm_I x1)], [], σ) q) := (jm_un_eq [0, 4, 28, 35] d 4 _).trans rfl
theorem gD_image_35 (d : Nat) (σ : jm_S) (x1 : Int32) : jm_ev d (jD_image, 35, [some (jm_R 0 0), some (jm_I x1)], [], σ) = some (some (jm_I (1 : Int32)), σ) := (jm_un_eq [0, 4, 28, 35] d 3 _).trans rfl
theorem gD_restore_0 (d : Nat) (σ : jm_S) (x1 : Int32) : jm_call (d + 1) jD_restore [jm_R 0 0, jm_I x1] σ = (jm_call d jD_isImage [jm_I x1] σ).bind fun q => jm_ev d (jm_psh (jD_restore, 4, [some (jm_R 0 0), some (jm_I x1)], [], σ) q) := (jm_un_eq [0, 4, 15, 33, 36, 43] d 3 (jD_restore, 0, [some (jm_R 0 0), some (jm_I x1)], [], σ)).trans rfl
theorem gD_restore_4 (d : Nat) (σ : jm_S) (x1 xs0 : Int32) : jm_ev d (jD_restore, 4, [some (jm_R 0 0), some (jm_I x1)], [jm_I xs0], σ) = cond (decide (¬ xs0 = 0)) ((jm_call d jD_imageAt [jm_R 0 0, jm_I x1] σ).bind fun q => jm_ev d (jm_psh (jD_restore, 15, [some (jm_R 0 0), some (jm_I x1)], [], σ) q)) (some (some (jm_I (-1000001 : Int32)), σ)) := (jm_un_eq [0, 4, 15, 33, 36, 43] d 5 _).trans rfl
theorem gD_restore_15 (d : Nat) (σ : jm_S) (rs0 : Nat) (x1 : Int32) : jm_ev d (jD_restore, 15, [some (jm_R 0 0), some (jm_I x1)], [jm_R 7 rs0], σ) = cond (decide (¬ σ.1 7 rs0 1 = 0)) ((jm_call d jD_imageAt [jm_R 0 0, jm_I x1] σ).bind fun q => jm_ev d (jm_psh (jD_restore, 33, [some (jm_R 0 0), some (jm_I x1)], [jm_R 7 0], σ) q)) (some (some (jm_I (-1000002 : Int32)), σ)) := (jm_un_eq [0, 4, 15, 33, 36, 43] d 8 _).trans rfl
theorem gD_restore_33 (d : Nat) (σ : jm_S) (rs0 : Nat) (x1 : Int32) : jm_ev d (jD_restore, 33, [some (jm_R 0 0), some (jm_I x1)], [jm_R 7 rs0, jm_R 7 0], σ) = (jm_call d jS_takeFrom [jm_R 7 0, jm_R 7 rs0] σ).bind fun q => jm_ev d (jm_psh (jD_restore, 36, [some (jm_R 0 0), some (jm_I x1)], [], σ) q) := (jm_un_eq [0, 4, 15, 33, 36, 43] d 2 _).trans rfl
theorem gD_restore_36 (d : Nat) (σ : jm_S) (x1 : Int32) : jm_ev d (jD_restore, 36, [some (jm_R 0 0), some (jm_I x1)], [], σ) = (jm_call d jA_forgetAll [jm_R 10 0] σ).bind fun q => jm_ev d (jm_psh (jD_restore, 43, [some (jm_R 0 0), some (jm_I x1)], [], σ) q) := (jm_un_eq [0, 4, 15, 33, 36, 43] d 4 _).trans rfl
theorem gD_restore_43 (d : Nat) (σ : jm_S) (x1 : Int32) : jm_ev d (jD_restore, 43, [some (jm_R 0 0), some (jm_I x1)], [], σ) = some (some (jm_I (1 : Int32)), σ) := (jm_un_eq [0, 4, 15, 33, 36, 43] d 3 _).trans rfl
theorem gD_belowMarkTried_0 (d : Nat) (σ : jm_S) : jm_call (d + 1) jD_belowMarkTried [jm_R 0 0] σ = (jm_call d jP_measure [jm_R 14 0, jm_R 7 1] σ).bind fun q => jm_ev d (jm_psh (jD_belowMarkTried, 11, [some (jm_R 0 0)], [], σ) q) := (jm_un_eq [0, 11, 25] d 6 (jD_belowMarkTried, 0, [some (jm_R 0 0)], [], σ)).trans rfl
theorem gD_belowMarkTried_11 (d : Nat) (σ : jm_S) : jm_ev d (jD_belowMarkTried, 11, [some (jm_R 0 0)], [], σ) = (jm_call d jP_belowAt [jm_R 14 0, jm_I (σ.1 7 1 2)] σ).bind fun q => jm_ev d (jm_psh (jD_belowMarkTried, 25, [some (jm_R 0 0)], [], σ) q) := (jm_un_eq [0, 11, 25] d 7 _).trans rfl
theorem gD_belowMarkTried_25 (d : Nat) (σ : jm_S) (xs0 : Int32) : jm_ev d (jD_belowMarkTried, 25, [some (jm_R 0 0)], [jm_I xs0], σ) = some (some (jm_I xs0), σ) := (jm_un_eq [0, 11, 25] d 2 _).trans rfl
theorem gD_turned_0 (d : Nat) (σ : jm_S) (x1 x2 : Int32) : jm_call (d + 1) jD_turned [jm_R 0 0, jm_I x1, jm_I x2] σ = cond (decide (0 < x1)) (cond (decide (x2 = 0)) (jm_ev d (jD_turned, 36, [some (jm_R 0 0), some (jm_I x1), some (jm_I x2), none, none, none, none, none], [jm_I (0 : Int32)], σ)) (jm_ev d (jD_turned, 36, [some (jm_R 0 0), some (jm_I x1), some (jm_I x2), none, none, none, none, none], [jm_I (1 : Int32)], σ))) ((jm_call d jD_belowMarkTried [jm_R 0 0] σ).bind fun q => jm_ev d (jm_psh (jD_turned, 8, [some (jm_R 0 0), some (jm_I x1), some (jm_I x2), none, none, none, none, none], [], σ) q)) := (jm_un_eq [0, 8, 26, 36, 46, 58, 63, 105, 108, 148] d 7 (jD_turned, 0, [some (jm_R 0 0), some (jm_I x1), some (jm_I x2), none, none, none, none, none], [], σ)).trans rfl
theorem gD_turned_8 (d : Nat) (σ : jm_S) (x1 x2 xs0 : Int32) : jm_ev d (jD_turned, 8, [some (jm_R 0 0), some (jm_I x1), some (jm_I x2), none, none, none, none, none], [jm_I xs0], σ) = cond (decide (¬ xs0 = (-1000016 : Int32))) (jm_ev d (jD_turned, 26, [some (jm_R 0 0), some (jm_I x1), some (jm_I x2), some (jm_I xs0), none, none, none, none], [jm_I xs0], σ)) (jm_ev d (jD_turned, 26, [some (jm_R 0 0), some (jm_I x1), some (jm_I x2), some (jm_I xs0), none, none, none, none], [jm_I (σ.1 7 1 1)], σ)) := (jm_un_eq [0, 8, 26, 36, 46, 58, 63, 105, 108, 148] d 9 _).trans rfl
theorem gD_turned_26 (d : Nat) (σ : jm_S) (x1 x2 x3 xs0 : Int32) : jm_ev d (jD_turned, 26, [some (jm_R 0 0), some (jm_I x1), some (jm_I x2), some (jm_I x3), none, none, none, none], [jm_I xs0], σ) = some (some (jm_I xs0), σ) := (jm_un_eq [0, 8, 26, 36, 46, 58, 63, 105, 108, 148] d 2 _).trans rfl
theorem gD_turned_36 (d : Nat) (σ : jm_S) (x1 x2 xs0 : Int32) : jm_ev d (jD_turned, 36, [some (jm_R 0 0), some (jm_I x1), some (jm_I x2), none, none, none, none, none], [jm_I xs0], σ) = cond (decide (x2 = 0)) (jm_ev d (jD_turned, 46, [some (jm_R 0 0), some (jm_I x1), some (jm_I x2), some (jm_I xs0), none, none, none, none], [jm_I (1 : Int32)], σ)) (jm_ev d (jD_turned, 46, [some (jm_R 0 0), some (jm_I x1), some (jm_I x2), some (jm_I xs0), none, none, none, none], [jm_I (5 : Int32)], σ)) := (jm_un_eq [0, 8, 26, 36, 46, 58, 63, 105, 108, 148] d 6 _).trans rfl
theorem gD_turned_46 (d : Nat) (σ : jm_S) (x1 x2 x3 xs0 : Int32) : jm_ev d (jD_turned, 46, [some (jm_R 0 0), some (jm_I x1), some (jm_I x2), some (jm_I x3), none, none, none, none], [jm_I xs0], σ) = cond (decide (x2 = 0)) (jm_ev d (jD_turned, 58, [some (jm_R 0 0), some (jm_I x1), some (jm_I x2), some (jm_I x3), some (jm_I xs0), none, none, none], [jm_I (0 : Int32)], σ)) (jm_ev d (jD_turned, 58, [some (jm_R 0 0), some (jm_I x1), some (jm_I x2), some (jm_I x3), some (jm_I xs0), none, none, none], [jm_I (6 : Int32)], σ)) := (jm_un_eq [0, 8, 26, 36, 46, 58, 63, 105, 108, 148] d 6 _).trans rfl
theorem gD_turned_58 (d : Nat) (σ : jm_S) (x1 x2 x3 x4 xs0 : Int32) : jm_ev d (jD_turned, 58, [some (jm_R 0 0), some (jm_I x1), some (jm_I x2), some (jm_I x3), some (jm_I x4), none, none, none], [jm_I xs0], σ) = jm_ev d (jD_turned, 63, [some (jm_R 0 0), some (jm_I x1), some (jm_I x2), some (jm_I x3), some (jm_I x4), some (jm_I xs0), some (jm_I (0 : Int32)), none], [], σ) := (jm_un_eq [0, 8, 26, 36, 46, 58, 63, 105, 108, 148] d 4 _).trans rfl
theorem gD_turned_63 (d : Nat) (σ : jm_S) (x1 x2 x3 x4 x5 x6 : Int32) (o7 : Option jm_V) : jm_ev d (jD_turned, 63, [some (jm_R 0 0), some (jm_I x1), some (jm_I x2), some (jm_I x3), some (jm_I x4), some (jm_I x5), some (jm_I x6), o7], [], σ) = cond (decide (σ.1 7 1 1 ≤ x6)) (some (some (jm_I x5), σ)) (cond (jm_in3 x3 4) (cond (jm_in3 x6 6) (cond (jm_in3 x6 6) (cond (decide (¬ x2 = 0)) (jm_ev d (jD_turned, 105, [some (jm_R 0 0), some (jm_I x1), some (jm_I x2), some (jm_I x3), some (jm_I x4), some (jm_I x5), some (jm_I x6), o7], [jm_I (0 : Int32), jm_I (x1 - (1 : Int32)), jm_R 0 0], jm_wi σ 9 (4 + x3.toNatClampNeg) x6.toNatClampNeg ((σ.1 9 (4 + x3.toNatClampNeg) x6.toNatClampNeg) + x4))) (jm_ev d (jD_turned, 105, [some (jm_R 0 0), some (jm_I x1), some (jm_I x2), some (jm_I x3), some (jm_I x4), some (jm_I x5), some (jm_I x6), o7], [jm_I (1 : Int32), jm_I (x1 - (1 : Int32)), jm_R 0 0], jm_wi σ 9 (4 + x3.toNatClampNeg) x6.toNatClampNeg ((σ.1 9 (4 + x3.toNatClampNeg) x6.toNatClampNeg) + x4)))) (none)) (none)) (none)) := (jm_un_eq [0, 8, 26, 36, 46, 58, 63, 105, 108, 148] d 25 _).trans rfl
theorem gD_turned_105 (d : Nat) (σ : jm_S) (x1 x2 x3 x4 x5 x6 xs0 xs1 : Int32) (o7 : Option jm_V) : jm_ev d (jD_turned, 105, [some (jm_R 0 0), some (jm_I x1), some (jm_I x2), some (jm_I x3), some (jm_I x4), some (jm_I x5), some (jm_I x6), o7], [jm_I xs0, jm_I xs1, jm_R 0 0], σ) = (jm_call d jD_turned [jm_R 0 0, jm_I xs1, jm_I xs0] σ).bind fun q => jm_ev d (jm_psh (jD_turned, 108, [some (jm_R 0 0), some (jm_I x1), some (jm_I x2), some (jm_I x3), some (jm_I x4), some (jm_I x5), some (jm_I x6), o7], [], σ) q) := (jm_un_eq [0, 8, 26, 36, 46, 58, 63, 105, 108, 148] d 2 _).trans rfl
theorem gD_turned_108 (d : Nat) (σ : jm_S) (x1 x2 x3 x4 x5 x6 xs0 : Int32) (o7 : Option jm_V) : jm_ev d (jD_turned, 108, [some (jm_R 0 0), some (jm_I x1), some (jm_I x2), some (jm_I x3), some (jm_I x4), some (jm_I x5), some (jm_I x6), o7], [jm_I xs0], σ) = cond (jm_in3 x3 4) (cond (jm_in3 x6 6) (cond (jm_in3 x6 6) (cond (decide (x2 = 0)) (jm_ev d (jD_turned, 148, [some (jm_R 0 0), some (jm_I x1), some (jm_I x2), some (jm_I x3), some (jm_I x4), some (jm_I x5), some (jm_I x6), some (jm_I xs0)], [jm_I (if x5 < xs0 then xs0 else x5)], jm_wi σ 9 (4 + x3.toNatClampNeg) x6.toNatClampNeg ((σ.1 9 (4 + x3.toNatClampNeg) x6.toNatClampNeg) - x4))) (jm_ev d (jD_turned, 148, [some (jm_R 0 0), some (jm_I x1), some (jm_I x2), some (jm_I x3), some (jm_I x4), some (jm_I x5), some (jm_I x6), some (jm_I xs0)], [jm_I (if xs0 < x5 then xs0 else x5)], jm_wi σ 9 (4 + x3.toNatClampNeg) x6.toNatClampNeg ((σ.1 9 (4 + x3.toNatClampNeg) x6.toNatClampNeg) - x4)))) (none)) (none)) (none) := (jm_un_eq [0, 8, 26, 36, 46, 58, 63, 105, 108, 148] d 19 _).trans rfl
theorem gD_turned_148 (d : Nat) (σ : jm_S) (x1 x2 x3 x4 x5 x6 x7 xs0 : Int32) : jm_ev d (jD_turned, 148, [some (jm_R 0 0), some (jm_I x1), some (jm_I x2), some (jm_I x3), some (jm_I x4), some (jm_I x5), some (jm_I x6), some (jm_I x7)], [jm_I xs0], σ) = jm_ev d (jD_turned, 63, [some (jm_R 0 0), some (jm_I x1), some (jm_I x2), some (jm_I x3), some (jm_I x4), some (jm_I xs0), some (jm_I (x6 + (1 : Int32))), some (jm_I x7)], [], σ) := (jm_un_eq [0, 8, 26, 36, 46, 58, 63, 105, 108, 148] d 4 _).trans rfl
theorem gD_bitsThatFit_0 (d : Nat) (σ : jm_S) (x1 x2 x3 x4 x5 : Int32) : jm_call (d + 1) jD_bitsThatFit [jm_R 0 0, jm_I x1, jm_I x2, jm_I x3, jm_I x4, jm_I x5] σ = (jm_call d jS_takeFrom [jm_R 7 1, jm_R 7 0] σ).bind fun q => jm_ev d (jm_psh (jD_bitsThatFit, 14, [some (jm_R 0 0), some (jm_I x1), some (jm_I x2), some (jm_I x3), some (jm_I x4), some (jm_I x5), some (jm_I (0 : Int32)), none], [], σ) q) := (jm_un_eq [0, 14, 21, 53, 65] d 8 (jD_bitsThatFit, 0, [some (jm_R 0 0), some (jm_I x1), some (jm_I x2), some (jm_I x3), some (jm_I x4), some (jm_I x5), none, none], [], σ)).trans rfl
theorem gD_bitsThatFit_14 (d : Nat) (σ : jm_S) (x1 x2 x3 x4 x5 x6 : Int32) : jm_ev d (jD_bitsThatFit, 14, [some (jm_R 0 0), some (jm_I x1), some (jm_I x2), some (jm_I x3), some (jm_I x4), some (jm_I x5), some (jm_I x6), none], [], σ) = cond (jm_in3 x2 4) (jm_ev d (jD_bitsThatFit, 21, [some (jm_R 0 0), some (jm_I x1), some (jm_I x2), some (jm_I x3), some (jm_I x4), some (jm_I x5), some (jm_I x6), some (jm_I ((jm_tb 40).getD x2.toNatClampNeg 0))], [], σ)) (none) := (jm_un_eq [0, 14, 21, 53, 65] d 5 _).trans rfl
theorem gD_bitsThatFit_21 (d : Nat) (σ : jm_S) (x1 x2 x3 x4 x5 x6 x7 : Int32) : jm_ev d (jD_bitsThatFit, 21, [some (jm_R 0 0), some (jm_I x1), some (jm_I x2), some (jm_I x3), some (jm_I x4), some (jm_I x5), some (jm_I x6), some (jm_I x7)], [], σ) = cond (jm_in3 x2 4) (cond (decide ((jm_tb 41).getD x2.toNatClampNeg 0 < x7)) (some (some (jm_I x6), σ)) (cond (jm_in3 x2 4) (cond (jm_in3 x1 6) ((jm_call d jD_triedBoxesAre [jm_R 0 0, jm_I x3, jm_I x4, jm_I x5] (jm_wi σ 9 (4 + x2.toNatClampNeg) x1.toNatClampNeg x7)).bind fun q => jm_ev d (jm_psh (jD_bitsThatFit, 53, [some (jm_R 0 0), some (jm_I x1), some (jm_I x2), some (jm_I x3), some (jm_I x4), some (jm_I x5), some (jm_I x6), some (jm_I x7)], [], jm_wi σ 9 (4 + x2.toNatClampNeg) x1.toNatClampNeg x7) q)) (none)) (none))) (none) := (jm_un_eq [0, 14, 21, 53, 65] d 19 _).trans rfl
theorem gD_bitsThatFit_53 (d : Nat) (σ : jm_S) (x1 x2 x3 x4 x5 x6 x7 xs0 : Int32) : jm_ev d (jD_bitsThatFit, 53, [some (jm_R 0 0), some (jm_I x1), some (jm_I x2), some (jm_I x3), some (jm_I x4), some (jm_I x5), some (jm_I x6), some (jm_I x7)], [jm_I xs0], σ) = cond (decide (xs0 = 0)) (jm_ev d (jD_bitsThatFit, 65, [some (jm_R 0 0), some (jm_I x1), some (jm_I x2), some (jm_I x3), some (jm_I x4), some (jm_I x5), some (jm_I x6), some (jm_I x7)], [], σ)) (jm_ev d (jD_bitsThatFit, 65, [some (jm_R 0 0), some (jm_I x1), some (jm_I x2), some (jm_I x3), some (jm_I x4), some (jm_I x5), some (jm_I (x6 ||| ((1 : Int32) <<< (x7 &&& 31)))), some (jm_I x7)], [], σ)) := (jm_un_eq [0, 14, 21, 53, 65] d 8 _).trans rfl
theorem gD_bitsThatFit_65 (d : Nat) (σ : jm_S) (x1 x2 x3 x4 x5 x6 x7 : Int32) : jm_ev d (jD_bitsThatFit, 65, [some (jm_R 0 0), some (jm_I x1), some (jm_I x2), some (jm_I x3), some (jm_I x4), some (jm_I x5), some (jm_I x6), some (jm_I x7)], [], σ) = jm_ev d (jD_bitsThatFit, 21, [some (jm_R 0 0), some (jm_I x1), some (jm_I x2), some (jm_I x3), some (jm_I x4), some (jm_I x5), some (jm_I x6), some (jm_I (x7 + (1 : Int32)))], [], σ) := (jm_un_eq [0, 14, 21, 53, 65] d 3 _).trans rfl
theorem gD_springsThatFit_0 (d : Nat) (σ : jm_S) (x1 x2 x3 x4 x5 : Int32) : jm_call (d + 1) jD_springsThatFit [jm_R 0 0, jm_I x1, jm_I x2, jm_I x3, jm_I x4, jm_I x5] σ = (jm_call d jS_takeFrom [jm_R 7 1, jm_R 7 0] σ).bind fun q => jm_ev d (jm_psh (jD_springsThatFit, 14, [some (jm_R 0 0), some (jm_I x1), some (jm_I x2), some (jm_I x3), some (jm_I x4), some (jm_I x5), some (jm_I (0 : Int32)), none], [], σ) q) := (jm_un_eq [0, 14, 21, 53, 66, 83] d 8 (jD_springsThatFit, 0, [some (jm_R 0 0), some (jm_I x1), some (jm_I x2), some (jm_I x3), some (jm_I x4), some (jm_I x5), none, none], [], σ)).trans rfl
theorem gD_springsThatFit_14 (d : Nat) (σ : jm_S) (x1 x2 x3 x4 x5 x6 : Int32) : jm_ev d (jD_springsThatFit, 14, [some (jm_R 0 0), some (jm_I x1), some (jm_I x2), some (jm_I x3), some (jm_I x4), some (jm_I x5), some (jm_I x6), none], [], σ) = jm_ev d (jD_springsThatFit, 21, [some (jm_R 0 0), some (jm_I x1), some (jm_I x2), some (jm_I x3), some (jm_I x4), some (jm_I x5), some (jm_I x6), some (jm_I ((jm_tb 40).getD 1 0))], [], σ) := (jm_un_eq [0, 14, 21, 53, 66, 83] d 5 _).trans rfl
theorem gD_springsThatFit_21 (d : Nat) (σ : jm_S) (x1 x2 x3 x4 x5 x6 x7 : Int32) : jm_ev d (jD_springsThatFit, 21, [some (jm_R 0 0), some (jm_I x1), some (jm_I x2), some (jm_I x3), some (jm_I x4), some (jm_I x5), some (jm_I x6), some (jm_I x7)], [], σ) = cond (decide ((jm_tb 41).getD 1 0 < x7)) (cond (decide (x2 = 0)) (jm_ev d (jD_springsThatFit, 83, [some (jm_R 0 0), some (jm_I x1), some (jm_I x2), some (jm_I x3), some (jm_I x4), some (jm_I x5), some (jm_I x6), some (jm_I x7)], [jm_I x6], σ)) (jm_ev d (jD_springsThatFit, 83, [some (jm_R 0 0), some (jm_I x1), some (jm_I x2), some (jm_I x3), some (jm_I x4), some (jm_I x5), some (jm_I x6), some (jm_I x7)], [jm_I (-1000000 : Int32)], σ))) (cond (jm_in3 x1 6) ((jm_call d jD_triedBoxesAre [jm_R 0 0, jm_I x3, jm_I x4, jm_I x5] (jm_wi σ 9 5 x1.toNatClampNeg x7)).bind fun q => jm_ev d (jm_psh (jD_springsThatFit, 53, [some (jm_R 0 0), some (jm_I x1), some (jm_I x2), some (jm_I x3), some (jm_I x4), some (jm_I x5), some (jm_I x6), some (jm_I x7)], [], jm_wi σ 9 5 x1.toNatClampNeg x7) q)) (none)) := (jm_un_eq [0, 14, 21, 53, 66, 83] d 19 _).trans rfl
theorem gD_springsThatFit_53 (d : Nat) (σ : jm_S) (x1 x2 x3 x4 x5 x6 x7 xs0 : Int32) : jm_ev d (jD_springsThatFit, 53, [some (jm_R 0 0), some (jm_I x1), some (jm_I x2), some (jm_I x3), some (jm_I x4), some (jm_I x5), some (jm_I x6), some (jm_I x7)], [jm_I xs0], σ) = cond (decide (xs0 = 0)) (jm_ev d (jD_springsThatFit, 66, [some (jm_R 0 0), some (jm_I x1), some (jm_I x2), some (jm_I x3), some (jm_I x4), some (jm_I x5), some (jm_I x6), some (jm_I x7)], [], σ)) (cond (decide (x2 = 0)) (jm_ev d (jD_springsThatFit, 66, [some (jm_R 0 0), some (jm_I x1), some (jm_I x2), some (jm_I x3), some (jm_I x4), some (jm_I x5), some (jm_I (x6 + (1 : Int32))), some (jm_I x7)], [], σ)) (some (some (jm_I x7), σ))) := (jm_un_eq [0, 14, 21, 53, 66, 83] d 6 _).trans rfl
theorem gD_springsThatFit_66 (d : Nat) (σ : jm_S) (x1 x2 x3 x4 x5 x6 x7 : Int32) : jm_ev d (jD_springsThatFit, 66, [some (jm_R 0 0), some (jm_I x1), some (jm_I x2), some (jm_I x3), some (jm_I x4), some (jm_I x5), some (jm_I x6), some (jm_I x7)], [], σ) = jm_ev d (jD_springsThatFit, 21, [some (jm_R 0 0), some (jm_I x1), some (jm_I x2), some (jm_I x3), some (jm_I x4), some (jm_I x5), some (jm_I x6), some (jm_I (x7 + (1 : Int32)))], [], σ) := (jm_un_eq [0, 14, 21, 53, 66, 83] d 3 _).trans rfl
theorem gD_springsThatFit_83 (d : Nat) (σ : jm_S) (x1 x2 x3 x4 x5 x6 x7 xs0 : Int32) : jm_ev d (jD_springsThatFit, 83, [some (jm_R 0 0), some (jm_I x1), some (jm_I x2), some (jm_I x3), some (jm_I x4), some (jm_I x5), some (jm_I x6), some (jm_I x7)], [jm_I xs0], σ) = some (some (jm_I xs0), σ) := (jm_un_eq [0, 14, 21, 53, 66, 83] d 2 _).trans rfl
theorem gD_triedBoxesAre_0 (d : Nat) (σ : jm_S) (x1 x2 x3 : Int32) : jm_call (d + 1) jD_triedBoxesAre [jm_R 0 0, jm_I x1, jm_I x2, jm_I x3] σ = (jm_call d jP_measure [jm_R 14 0, jm_R 7 1] σ).bind fun q => jm_ev d (jm_psh (jD_triedBoxesAre, 11, [some (jm_R 0 0), some (jm_I x1), some (jm_I x2), some (jm_I x3), none, none, none], [], σ) q) := (jm_un_eq [0, 11, 14, 29, 53] d 6 (jD_triedBoxesAre, 0, [some (jm_R 0 0), some (jm_I x1), some (jm_I x2), some (jm_I x3), none, none, none], [], σ)).trans rfl
theorem gD_triedBoxesAre_11 (d : Nat) (σ : jm_S) (x1 x2 x3 : Int32) : jm_ev d (jD_triedBoxesAre, 11, [some (jm_R 0 0), some (jm_I x1), some (jm_I x2), some (jm_I x3), none, none, none], [], σ) = jm_ev d (jD_triedBoxesAre, 14, [some (jm_R 0 0), some (jm_I x1), some (jm_I x2), some (jm_I x3), some (jm_I (0 : Int32)), none, none], [], σ) := (jm_un_eq [0, 11, 14, 29, 53] d 3 _).trans rfl
theorem gD_triedBoxesAre_14 (d : Nat) (σ : jm_S) (x1 x2 x3 x4 : Int32) (o5 o6 : Option jm_V) : jm_ev d (jD_triedBoxesAre, 14, [some (jm_R 0 0), some (jm_I x1), some (jm_I x2), some (jm_I x3), some (jm_I x4), o5, o6], [], σ) = cond (decide (x3 ≤ x4)) (some (some (jm_I (1 : Int32)), σ)) ((jm_call d jP_boxOf [jm_R 14 0, jm_I x4] σ).bind fun q => jm_ev d (jm_psh (jD_triedBoxesAre, 29, [some (jm_R 0 0), some (jm_I x1), some (jm_I x2), some (jm_I x3), some (jm_I x4), o5, o6], [], σ) q)) := (jm_un_eq [0, 11, 14, 29, 53] d 8 _).trans rfl
theorem gD_triedBoxesAre_29 (d : Nat) (σ : jm_S) (x1 x2 x3 x4 xs0 : Int32) (o5 o6 : Option jm_V) : jm_ev d (jD_triedBoxesAre, 29, [some (jm_R 0 0), some (jm_I x1), some (jm_I x2), some (jm_I x3), some (jm_I x4), o5, o6], [jm_I xs0], σ) = cond (decide (¬ xs0 = (-1000016 : Int32))) (cond (decide (¬ xs0 = (-1000000 : Int32))) (jm_ev d (jD_triedBoxesAre, 53, [some (jm_R 0 0), some (jm_I x1), some (jm_I x2), some (jm_I x3), some (jm_I x4), some (jm_I xs0), o6], [jm_I xs0], σ)) (jm_ev d (jD_triedBoxesAre, 53, [some (jm_R 0 0), some (jm_I x1), some (jm_I x2), some (jm_I x3), some (jm_I x4), some (jm_I xs0), o6], [jm_I (-1 : Int32)], σ))) (some (some (jm_I (0 : Int32)), σ)) := (jm_un_eq [0, 11, 14, 29, 53] d 10 _).trans rfl
theorem gD_triedBoxesAre_53 (d : Nat) (σ : jm_S) (x1 x2 x3 x4 x5 xs0 : Int32) (o6 : Option jm_V) : jm_ev d (jD_triedBoxesAre, 53, [some (jm_R 0 0), some (jm_I x1), some (jm_I x2), some (jm_I x3), some (jm_I x4), some (jm_I x5), o6], [jm_I xs0], σ) = cond (jm_in3 x1 8) (cond (jm_in3 (x2 + x4) 40) (cond (decide (xs0 = σ.1 4 x1.toNatClampNeg ((x2 + x4).toNatClampNeg))) (jm_ev d (jD_triedBoxesAre, 14, [some (jm_R 0 0), some (jm_I x1), some (jm_I x2), some (jm_I x3), some (jm_I (x4 + (1 : Int32))), some (jm_I x5), some (jm_I xs0)], [], σ)) (some (some (jm_I (0 : Int32)), σ))) (none)) (none) := (jm_un_eq [0, 11, 14, 29, 53] d 14 _).trans rfl
theorem gD_casesOf_0 (d : Nat) (σ : jm_S) (x1 x2 x3 : Int32) : jm_call (d + 1) jD_casesOf [jm_R 0 0, jm_I x1, jm_I x2, jm_I x3] σ = jm_ev d (jD_casesOf, 6, [some (jm_R 0 0), some (jm_I x1), some (jm_I x2), some (jm_I x3), some (jm_L (1 : Int64)), none, some (jm_I (0 : Int32)), none], [], σ) := (jm_un_eq [0, 6, 35, 69, 87, 100, 110] d 5 (jD_casesOf, 0, [some (jm_R 0 0), some (jm_I x1), some (jm_I x2), some (jm_I x3), none, none, none, none], [], σ)).trans rfl
theorem gD_casesOf_6 (d : Nat) (σ : jm_S) (x1 x2 x3 x6 : Int32) (l4 : Int64) (o7 : Option jm_V) : jm_ev d (jD_casesOf, 6, [some (jm_R 0 0), some (jm_I x1), some (jm_I x2), some (jm_I x3), some (jm_L l4), none, some (jm_I x6), o7], [], σ) = cond (decide ((σ.1 7 0 1) - (1 : Int32) ≤ x6)) ((jm_call d jD_belowMarkTried [jm_R 0 0] σ).bind fun q => jm_ev d (jm_psh (jD_casesOf, 100, [some (jm_R 0 0), some (jm_I x1), some (jm_I x2), some (jm_I x3), some (jm_L l4), none, some (jm_I x6), o7], [], σ) q)) (cond (decide (¬ (x1 >>> (x6 &&& 31)) &&& (1 : Int32) = (1 : Int32))) (jm_ev d (jD_casesOf, 35, [some (jm_R 0 0), some (jm_I x1), some (jm_I x2), some (jm_I x3), some (jm_L l4), none, some (jm_I x6), o7], [jm_I (0 : Int32)], σ)) (jm_ev d (jD_casesOf, 35, [some (jm_R 0 0), some (jm_I x1), some (jm_I x2), some (jm_I x3), some (jm_L l4), none, some (jm_I x6), o7], [jm_I (1 : Int32)], σ))) := (jm_un_eq [0, 6, 35, 69, 87, 100, 110] d 17 _).trans rfl
theorem gD_casesOf_35 (d : Nat) (σ : jm_S) (x1 x2 x3 x6 xs0 : Int32) (l4 : Int64) (o7 : Option jm_V) : jm_ev d (jD_casesOf, 35, [some (jm_R 0 0), some (jm_I x1), some (jm_I x2), some (jm_I x3), some (jm_L l4), none, some (jm_I x6), o7], [jm_I xs0], σ) = cond (decide (xs0 = 0)) (cond (jm_in3 x6 6) (jm_ev d (jD_casesOf, 69, [some (jm_R 0 0), some (jm_I x1), some (jm_I x2), some (jm_I x3), some (jm_L l4), none, some (jm_I x6), some (jm_I xs0)], [jm_I (σ.1 9 1 x6.toNatClampNeg), jm_I x6, jm_R 9 5], σ)) (none)) (jm_ev d (jD_casesOf, 69, [some (jm_R 0 0), some (jm_I x1), some (jm_I x2), some (jm_I x3), some (jm_L l4), none, some (jm_I x6), some (jm_I xs0)], [jm_I (0 : Int32), jm_I x6, jm_R 9 5], σ)) := (jm_un_eq [0, 6, 35, 69, 87, 100, 110] d 17 _).trans rfl
theorem gD_casesOf_69 (d : Nat) (σ : jm_S) (rs2 : Nat) (x1 x2 x3 x6 x7 xs0 xs1 : Int32) (l4 : Int64) : jm_ev d (jD_casesOf, 69, [some (jm_R 0 0), some (jm_I x1), some (jm_I x2), some (jm_I x3), some (jm_L l4), none, some (jm_I x6), some (jm_I x7)], [jm_I xs0, jm_I xs1, jm_R 9 rs2], σ) = cond (jm_in3 xs1 6) (cond (decide (x7 = 0)) (jm_ev d (jD_casesOf, 87, [some (jm_R 0 0), some (jm_I x1), some (jm_I x2), some (jm_I x3), some (jm_L l4), none, some (jm_I x6), some (jm_I x7)], [jm_L (((10 : Int32) - x3).toInt64), jm_L l4], jm_wi σ 9 rs2 xs1.toNatClampNeg xs0)) (jm_ev d (jD_casesOf, 87, [some (jm_R 0 0), some (jm_I x1), some (jm_I x2), some (jm_I x3), some (jm_L l4), none, some (jm_I x6), some (jm_I x7)], [jm_L x3.toInt64, jm_L l4], jm_wi σ 9 rs2 xs1.toNatClampNeg xs0))) (none) := (jm_un_eq [0, 6, 35, 69, 87, 100, 110] d 9 _).trans rfl
theorem gD_casesOf_87 (d : Nat) (σ : jm_S) (x1 x2 x3 x6 x7 : Int32) (l4 ls0 ls1 : Int64) : jm_ev d (jD_casesOf, 87, [some (jm_R 0 0), some (jm_I x1), some (jm_I x2), some (jm_I x3), some (jm_L l4), none, some (jm_I x6), some (jm_I x7)], [jm_L ls0, jm_L ls1], σ) = jm_ev d (jD_casesOf, 6, [some (jm_R 0 0), some (jm_I x1), some (jm_I x2), some (jm_I x3), some (jm_L (ls1 * ls0)), none, some (jm_I (x6 + (1 : Int32))), some (jm_I x7)], [], σ) := (jm_un_eq [0, 6, 35, 69, 87, 100, 110] d 5 _).trans rfl
theorem gD_casesOf_100 (d : Nat) (σ : jm_S) (x1 x2 x3 x6 xs0 : Int32) (l4 : Int64) (o7 : Option jm_V) : jm_ev d (jD_casesOf, 100, [some (jm_R 0 0), some (jm_I x1), some (jm_I x2), some (jm_I x3), some (jm_L l4), none, some (jm_I x6), o7], [jm_I xs0], σ) = cond (decide (¬ xs0 = x2)) (jm_ev d (jD_casesOf, 110, [some (jm_R 0 0), some (jm_I x1), some (jm_I x2), some (jm_I x3), some (jm_L l4), none, some (jm_I x6), o7], [jm_L (0 : Int64)], σ)) (jm_ev d (jD_casesOf, 110, [some (jm_R 0 0), some (jm_I x1), some (jm_I x2), some (jm_I x3), some (jm_L l4), none, some (jm_I x6), o7], [jm_L l4], σ)) := (jm_un_eq [0, 6, 35, 69, 87, 100, 110] d 5 _).trans rfl
theorem gD_casesOf_110 (d : Nat) (σ : jm_S) (x1 x2 x3 x6 : Int32) (l4 ls0 : Int64) (o7 : Option jm_V) : jm_ev d (jD_casesOf, 110, [some (jm_R 0 0), some (jm_I x1), some (jm_I x2), some (jm_I x3), some (jm_L l4), none, some (jm_I x6), o7], [jm_L ls0], σ) = some (some (jm_L ls0), σ) := (jm_un_eq [0, 6, 35, 69, 87, 100, 110] d 2 _).trans rfl
theorem gD_commonDivisor_0 (d : Nat) (σ : jm_S) (l0 l2 : Int64) : jm_call (d + 1) jD_commonDivisor [jm_L l0, jm_L l2] σ = jm_ev d (jD_commonDivisor, 9, [some (jm_L l0), none, some (jm_L l2), none, some (jm_L l0), none, some (jm_L l2), none, some (jm_I (0 : Int32)), none, none], [], σ) := (jm_un_eq [0, 9, 45, 58] d 7 (jD_commonDivisor, 0, [some (jm_L l0), none, some (jm_L l2), none, none, none, none, none, none, none, none], [], σ)).trans rfl
theorem gD_commonDivisor_9 (d : Nat) (σ : jm_S) (x8 : Int32) (l0 l2 l4 l6 : Int64) (o9 : Option jm_V) : jm_ev d (jD_commonDivisor, 9, [some (jm_L l0), none, some (jm_L l2), none, some (jm_L l4), none, some (jm_L l6), none, some (jm_I x8), o9, none], [], σ) = cond (decide ((200 : Int32) ≤ x8)) (jm_ev d (jD_commonDivisor, 45, [some (jm_L l0), none, some (jm_L l2), none, some (jm_L l4), none, some (jm_L l6), none, some (jm_I x8), o9, none], [], σ)) (cond (decide (lg_cmp l6 (0 : Int64) = 0)) (jm_ev d (jD_commonDivisor, 45, [some (jm_L l0), none, some (jm_L l2), none, some (jm_L l4), none, some (jm_L l6), none, some (jm_I x8), o9, none], [], σ)) (cond (decide (¬ l6 = 0)) (jm_ev d (jD_commonDivisor, 9, [some (jm_L l0), none, some (jm_L l2), none, some (jm_L l6), none, some (jm_L (l4 - l4 / l6 * l6)), none, some (jm_I (x8 + (1 : Int32))), some (jm_L (l4 - l4 / l6 * l6)), none], [], σ)) (none))) := (jm_un_eq [0, 9, 45, 58] d 18 _).trans rfl
theorem gD_commonDivisor_45 (d : Nat) (σ : jm_S) (x8 : Int32) (l0 l2 l4 l6 : Int64) (o9 : Option jm_V) : jm_ev d (jD_commonDivisor, 45, [some (jm_L l0), none, some (jm_L l2), none, some (jm_L l4), none, some (jm_L l6), none, some (jm_I x8), o9, none], [], σ) = cond (decide (¬ lg_cmp l4 (0 : Int64) = 0)) (jm_ev d (jD_commonDivisor, 58, [some (jm_L l0), none, some (jm_L l2), none, some (jm_L l4), none, some (jm_L l6), none, some (jm_I x8), o9, none], [jm_L l4], σ)) (jm_ev d (jD_commonDivisor, 58, [some (jm_L l0), none, some (jm_L l2), none, some (jm_L l4), none, some (jm_L l6), none, some (jm_I x8), o9, none], [jm_L (1 : Int64)], σ)) := (jm_un_eq [0, 9, 45, 58] d 7 _).trans rfl
theorem gD_commonDivisor_58 (d : Nat) (σ : jm_S) (x8 : Int32) (l0 l2 l4 l6 ls0 : Int64) (o9 : Option jm_V) : jm_ev d (jD_commonDivisor, 58, [some (jm_L l0), none, some (jm_L l2), none, some (jm_L l4), none, some (jm_L l6), none, some (jm_I x8), o9, none], [jm_L ls0], σ) = some (some (jm_L ls0), σ) := (jm_un_eq [0, 9, 45, 58] d 2 _).trans rfl
theorem gD_drawOne_0 (d : Nat) (σ : jm_S) (l1 : Int64) : jm_call (d + 1) jD_drawOne [jm_R 0 0, jm_L l1] σ = cond (decide (¬ σ.1 7 1 1 = 0)) (cond (decide (¬ ((σ.1 7 1 1).toInt64) = 0)) ((jm_call d jS_has [jm_R 7 1, jm_I ((l1 - l1 / ((σ.1 7 1 1).toInt64) * ((σ.1 7 1 1).toInt64)).toInt32)] σ).bind fun q => jm_ev d (jm_psh (jD_drawOne, 31, [some (jm_R 0 0), some (jm_L l1), none, some (jm_I ((l1 - l1 / ((σ.1 7 1 1).toInt64) * ((σ.1 7 1 1).toInt64)).toInt32))], [], σ) q)) (none)) (some (none, σ)) := (jm_un_eq [0, 31, 92] d 17 (jD_drawOne, 0, [some (jm_R 0 0), some (jm_L l1), none, none], [], σ)).trans rfl
theorem gD_drawOne_31 (d : Nat) (σ : jm_S) (x3 xs0 : Int32) (l1 : Int64) : jm_ev d (jD_drawOne, 31, [some (jm_R 0 0), some (jm_L l1), none, some (jm_I x3)], [jm_I xs0], σ) = cond (decide (¬ xs0 = 0)) (cond (decide (¬ lg_cmp (l1 - l1 / (3 : Int64) * (3 : Int64)) (0 : Int64) = 0)) (cond (jm_in3 x3 6) (jm_ev d (jD_drawOne, 92, [some (jm_R 0 0), some (jm_L l1), none, some (jm_I x3)], [], jm_wi σ 9 4 x3.toNatClampNeg ((((l1 / (256 : Int64)) - (l1 / (256 : Int64)) / (5 : Int64) * (5 : Int64)).toInt32) + (1 : Int32)))) (none)) (cond (jm_in3 x3 6) (jm_ev d (jD_drawOne, 92, [some (jm_R 0 0), some (jm_L l1), none, some (jm_I x3)], [], jm_wi σ 9 5 x3.toNatClampNeg (((l1 / (16 : Int64)) - (l1 / (16 : Int64)) / (41 : Int64) * (41 : Int64)).toInt32))) (none))) (some (none, σ)) := (jm_un_eq [0, 31, 92] d 23 _).trans rfl
theorem gD_drawOne_92 (d : Nat) (σ : jm_S) (x3 : Int32) (l1 : Int64) : jm_ev d (jD_drawOne, 92, [some (jm_R 0 0), some (jm_L l1), none, some (jm_I x3)], [], σ) = some (none, σ) := (jm_un_eq [0, 31, 92] d 2 _).trans rfl
theorem gD_isImage_0 (d : Nat) (σ : jm_S) (x0 : Int32) : jm_call (d + 1) jD_isImage [jm_I x0] σ = cond (decide (x0 < 0)) (jm_ev d (jD_isImage, 13, [some (jm_I x0)], [], σ)) (cond (decide ((2 : Int32) ≤ x0)) (jm_ev d (jD_isImage, 13, [some (jm_I x0)], [], σ)) (jm_ev d (jD_isImage, 14, [some (jm_I x0)], [jm_I (1 : Int32)], σ))) := (jm_un_eq [0, 13, 14] d 8 (jD_isImage, 0, [some (jm_I x0)], [], σ)).trans rfl
theorem gD_isImage_13 (d : Nat) (σ : jm_S) (x0 : Int32) : jm_ev d (jD_isImage, 13, [some (jm_I x0)], [], σ) = jm_ev d (jD_isImage, 14, [some (jm_I x0)], [jm_I (0 : Int32)], σ) := (jm_un_eq [0, 13, 14] d 2 _).trans rfl
theorem gD_isImage_14 (d : Nat) (σ : jm_S) (x0 xs0 : Int32) : jm_ev d (jD_isImage, 14, [some (jm_I x0)], [jm_I xs0], σ) = cond (jm_b01 xs0) (some (some (jm_I xs0), σ)) none := (jm_un_eq [0, 13, 14] d 2 _).trans rfl
theorem gD_imageAt_0 (d : Nat) (σ : jm_S) (x1 : Int32) : jm_call (d + 1) jD_imageAt [jm_R 0 0, jm_I x1] σ = cond (decide (¬ x1 = 0)) (jm_ev d (jD_imageAt, 15, [some (jm_R 0 0), some (jm_I x1)], [jm_R 7 3], σ)) (jm_ev d (jD_imageAt, 15, [some (jm_R 0 0), some (jm_I x1)], [jm_R 7 2], σ)) := (jm_un_eq [0, 15] d 6 (jD_imageAt, 0, [some (jm_R 0 0), some (jm_I x1)], [], σ)).trans rfl
theorem gD_imageAt_15 (d : Nat) (σ : jm_S) (rs0 : Nat) (x1 : Int32) : jm_ev d (jD_imageAt, 15, [some (jm_R 0 0), some (jm_I x1)], [jm_R 7 rs0], σ) = some (some (jm_R 7 rs0), σ) := (jm_un_eq [0, 15] d 2 _).trans rfl
theorem gD_kind_0 (d : Nat) (σ : jm_S) (x1 : Int32) : jm_call (d + 1) jD_kind [jm_R 0 0, jm_I x1] σ = (jm_call d jS_has [jm_R 7 0, jm_I x1] σ).bind fun q => jm_ev d (jm_psh (jD_kind, 8, [some (jm_R 0 0), some (jm_I x1)], [], σ) q) := (jm_un_eq [0, 8, 27] d 5 (jD_kind, 0, [some (jm_R 0 0), some (jm_I x1)], [], σ)).trans rfl
theorem gD_kind_8 (d : Nat) (σ : jm_S) (x1 xs0 : Int32) : jm_ev d (jD_kind, 8, [some (jm_R 0 0), some (jm_I x1)], [jm_I xs0], σ) = cond (decide (xs0 = 0)) (jm_ev d (jD_kind, 27, [some (jm_R 0 0), some (jm_I x1)], [jm_I (-1000001 : Int32)], σ)) (cond (jm_in3 x1 6) (jm_ev d (jD_kind, 27, [some (jm_R 0 0), some (jm_I x1)], [jm_I (σ.1 9 3 x1.toNatClampNeg)], σ)) (none)) := (jm_un_eq [0, 8, 27] d 10 _).trans rfl
theorem gD_kind_27 (d : Nat) (σ : jm_S) (x1 xs0 : Int32) : jm_ev d (jD_kind, 27, [some (jm_R 0 0), some (jm_I x1)], [jm_I xs0], σ) = some (some (jm_I xs0), σ) := (jm_un_eq [0, 8, 27] d 2 _).trans rfl
theorem gD_as_0 (d : Nat) (σ : jm_S) (x1 x2 : Int32) : jm_call (d + 1) jD_as [jm_R 0 0, jm_I x1, jm_I x2] σ = (jm_call d jS_has [jm_R 7 0, jm_I x1] σ).bind fun q => jm_ev d (jm_psh (jD_as, 8, [some (jm_R 0 0), some (jm_I x1), some (jm_I x2)], [], σ) q) := (jm_un_eq [0, 8, 21, 39, 47, 55] d 5 (jD_as, 0, [some (jm_R 0 0), some (jm_I x1), some (jm_I x2)], [], σ)).trans rfl
theorem gD_as_8 (d : Nat) (σ : jm_S) (x1 x2 xs0 : Int32) : jm_ev d (jD_as, 8, [some (jm_R 0 0), some (jm_I x1), some (jm_I x2)], [jm_I xs0], σ) = cond (decide (xs0 = 0)) (jm_ev d (jD_as, 21, [some (jm_R 0 0), some (jm_I x1), some (jm_I x2)], [], σ)) (cond (decide (x2 < 0)) (jm_ev d (jD_as, 21, [some (jm_R 0 0), some (jm_I x1), some (jm_I x2)], [], σ)) (cond (decide (x2 < (6 : Int32))) (cond (jm_in3 x1 6) ((jm_call d jD_isOfKind [jm_I (σ.1 9 3 x1.toNatClampNeg), jm_I x2] σ).bind fun q => jm_ev d (jm_psh (jD_as, 39, [some (jm_R 0 0), some (jm_I x1), some (jm_I x2)], [], σ) q)) (none)) (jm_ev d (jD_as, 21, [some (jm_R 0 0), some (jm_I x1), some (jm_I x2)], [], σ)))) := (jm_un_eq [0, 8, 21, 39, 47, 55] d 16 _).trans rfl
theorem gD_as_21 (d : Nat) (σ : jm_S) (x1 x2 : Int32) : jm_ev d (jD_as, 21, [some (jm_R 0 0), some (jm_I x1), some (jm_I x2)], [], σ) = some (some (jm_I (-1000001 : Int32)), σ) := (jm_un_eq [0, 8, 21, 39, 47, 55] d 3 _).trans rfl
theorem gD_as_39 (d : Nat) (σ : jm_S) (x1 x2 xs0 : Int32) : jm_ev d (jD_as, 39, [some (jm_R 0 0), some (jm_I x1), some (jm_I x2)], [jm_I xs0], σ) = cond (decide (xs0 = 0)) ((jm_call d jD_found [jm_R 0 0, jm_I (3 : Int32)] σ).bind fun q => jm_ev d (jm_psh (jD_as, 55, [some (jm_R 0 0), some (jm_I x1), some (jm_I x2)], [], σ) q)) ((jm_call d jD_clean [jm_R 0 0, jm_I x1] σ).bind fun q => jm_ev d (jm_psh (jD_as, 47, [some (jm_R 0 0), some (jm_I x1), some (jm_I x2)], [], σ) q)) := (jm_un_eq [0, 8, 21, 39, 47, 55] d 5 _).trans rfl
theorem gD_as_47 (d : Nat) (σ : jm_S) (x1 x2 xs0 : Int32) : jm_ev d (jD_as, 47, [some (jm_R 0 0), some (jm_I x1), some (jm_I x2)], [jm_I xs0], σ) = jm_ev d (jD_as, 55, [some (jm_R 0 0), some (jm_I x1), some (jm_I x2)], [jm_I xs0], σ) := (jm_un_eq [0, 8, 21, 39, 47, 55] d 2 _).trans rfl
theorem gD_as_55 (d : Nat) (σ : jm_S) (x1 x2 xs0 : Int32) : jm_ev d (jD_as, 55, [some (jm_R 0 0), some (jm_I x1), some (jm_I x2)], [jm_I xs0], σ) = some (some (jm_I xs0), σ) := (jm_un_eq [0, 8, 21, 39, 47, 55] d 2 _).trans rfl
theorem gD_ask_0 (d : Nat) (σ : jm_S) (x1 x2 : Int32) : jm_call (d + 1) jD_ask [jm_R 0 0, jm_I x1, jm_I x2] σ = (jm_call d jS_has [jm_R 7 0, jm_I x1] σ).bind fun q => jm_ev d (jm_psh (jD_ask, 8, [some (jm_R 0 0), some (jm_I x1), some (jm_I x2)], [], σ) q) := (jm_un_eq [0, 8, 20, 35] d 5 (jD_ask, 0, [some (jm_R 0 0), some (jm_I x1), some (jm_I x2)], [], σ)).trans rfl
theorem gD_ask_8 (d : Nat) (σ : jm_S) (x1 x2 xs0 : Int32) : jm_ev d (jD_ask, 8, [some (jm_R 0 0), some (jm_I x1), some (jm_I x2)], [jm_I xs0], σ) = cond (decide (xs0 = 0)) (jm_ev d (jD_ask, 20, [some (jm_R 0 0), some (jm_I x1), some (jm_I x2)], [], σ)) (cond (decide (x2 < 0)) (jm_ev d (jD_ask, 20, [some (jm_R 0 0), some (jm_I x1), some (jm_I x2)], [], σ)) (cond (decide (x2 ≤ (1 : Int32))) ((jm_call d jD_asked [jm_R 0 0, jm_I x1, jm_I x2, jm_I (0 : Int32)] (jm_wi σ 0 0 11 (0 : Int32))).bind fun q => jm_ev d (jm_psh (jD_ask, 35, [some (jm_R 0 0), some (jm_I x1), some (jm_I x2)], [], jm_wi σ 0 0 11 (0 : Int32)) q)) (jm_ev d (jD_ask, 20, [some (jm_R 0 0), some (jm_I x1), some (jm_I x2)], [], σ)))) := (jm_un_eq [0, 8, 20, 35] d 15 _).trans rfl
theorem gD_ask_20 (d : Nat) (σ : jm_S) (x1 x2 : Int32) : jm_ev d (jD_ask, 20, [some (jm_R 0 0), some (jm_I x1), some (jm_I x2)], [], σ) = some (some (jm_I (-1000001 : Int32)), σ) := (jm_un_eq [0, 8, 20, 35] d 3 _).trans rfl
theorem gD_ask_35 (d : Nat) (σ : jm_S) (x1 x2 xs0 : Int32) : jm_ev d (jD_ask, 35, [some (jm_R 0 0), some (jm_I x1), some (jm_I x2)], [jm_I xs0], σ) = some (some (jm_I xs0), σ) := (jm_un_eq [0, 8, 20, 35] d 2 _).trans rfl
theorem gD_trace_0 (d : Nat) (σ : jm_S) (x1 : Int32) : jm_call (d + 1) jD_trace [jm_R 0 0, jm_I x1] σ = cond (decide (x1 < 0)) (jm_ev d (jD_trace, 21, [some (jm_R 0 0), some (jm_I x1)], [], σ)) (cond (decide (σ.1 0 0 11 ≤ x1)) (jm_ev d (jD_trace, 21, [some (jm_R 0 0), some (jm_I x1)], [], σ)) (cond (jm_in3 x1 16) (jm_ev d (jD_trace, 23, [some (jm_R 0 0), some (jm_I x1)], [jm_I (σ.1 20 0 x1.toNatClampNeg)], σ)) (none))) := (jm_un_eq [0, 21, 23] d 12 (jD_trace, 0, [some (jm_R 0 0), some (jm_I x1)], [], σ)).trans rfl
theorem gD_trace_21 (d : Nat) (σ : jm_S) (x1 : Int32) : jm_ev d (jD_trace, 21, [some (jm_R 0 0), some (jm_I x1)], [], σ) = jm_ev d (jD_trace, 23, [some (jm_R 0 0), some (jm_I x1)], [jm_I (-1000000 : Int32)], σ) := (jm_un_eq [0, 21, 23] d 2 _).trans rfl
theorem gD_trace_23 (d : Nat) (σ : jm_S) (x1 xs0 : Int32) : jm_ev d (jD_trace, 23, [some (jm_R 0 0), some (jm_I x1)], [jm_I xs0], σ) = some (some (jm_I xs0), σ) := (jm_un_eq [0, 21, 23] d 2 _).trans rfl
theorem gD_count_0 (d : Nat) (σ : jm_S) (x1 : Int32) : jm_call (d + 1) jD_count [jm_R 0 0, jm_I x1] σ = cond (decide (x1.toInt = 0)) ((jm_call d jD_rowsThatStand [jm_R 0 0] σ).bind fun q => jm_ev d (jm_psh (jD_count, 48, [some (jm_R 0 0), some (jm_I x1)], [], σ) q)) (cond (decide (x1.toInt = 1)) (some (some (jm_I (σ.1 7 0 1)), σ)) (cond (decide (x1.toInt = 2)) (some (some (jm_I (σ.1 7 0 2)), σ)) (cond (decide (x1.toInt = 3)) ((jm_call d jS_sumOf [jm_R 7 0, jm_I (0 : Int32), jm_I (-1 : Int32)] σ).bind fun q => jm_ev d (jm_psh (jD_count, 74, [some (jm_R 0 0), some (jm_I x1)], [], σ) q)) (cond (decide (x1.toInt = 4)) ((jm_call d jS_sumOf [jm_R 7 0, jm_I (1 : Int32), jm_I (-1 : Int32)] σ).bind fun q => jm_ev d (jm_psh (jD_count, 84, [some (jm_R 0 0), some (jm_I x1)], [], σ) q)) (cond (decide (x1.toInt = 5)) (some (some (jm_I (σ.1 10 0 3)), σ)) (cond (decide (x1.toInt = 6)) (some (some (jm_I (σ.1 5 0 1)), σ)) (some (some (jm_I (-1000001 : Int32)), σ)))))))) := (jm_un_eq [0, 48, 74, 84] d 8 (jD_count, 0, [some (jm_R 0 0), some (jm_I x1)], [], σ)).trans rfl
theorem gD_count_48 (d : Nat) (σ : jm_S) (x1 xs0 : Int32) : jm_ev d (jD_count, 48, [some (jm_R 0 0), some (jm_I x1)], [jm_I xs0], σ) = some (some (jm_I xs0), σ) := (jm_un_eq [0, 48, 74, 84] d 2 _).trans rfl
theorem gD_count_74 (d : Nat) (σ : jm_S) (x1 xs0 : Int32) : jm_ev d (jD_count, 74, [some (jm_R 0 0), some (jm_I x1)], [jm_I xs0], σ) = some (some (jm_I xs0), σ) := (jm_un_eq [0, 48, 74, 84] d 2 _).trans rfl
theorem gD_count_84 (d : Nat) (σ : jm_S) (x1 xs0 : Int32) : jm_ev d (jD_count, 84, [some (jm_R 0 0), some (jm_I x1)], [jm_I xs0], σ) = some (some (jm_I xs0), σ) := (jm_un_eq [0, 48, 74, 84] d 2 _).trans rfl
theorem gD_status_0 (d : Nat) (σ : jm_S) : jm_call (d + 1) jD_status [jm_R 0 0] σ = some (some (jm_I (σ.1 0 0 13)), σ) := (jm_un_eq [0] d 4 (jD_status, 0, [some (jm_R 0 0)], [], σ)).trans rfl
theorem gD_isOfKind_0 (d : Nat) (σ : jm_S) (x0 x1 : Int32) : jm_call (d + 1) jD_isOfKind [jm_I x0, jm_I x1] σ = jm_ev d (jD_isOfKind, 4, [some (jm_I x0), some (jm_I x1), some (jm_I x0), some (jm_I (0 : Int32))], [], σ) := (jm_un_eq [0, 4, 39] d 5 (jD_isOfKind, 0, [some (jm_I x0), some (jm_I x1), none, none], [], σ)).trans rfl
theorem gD_isOfKind_4 (d : Nat) (σ : jm_S) (x0 x1 x2 x3 : Int32) : jm_ev d (jD_isOfKind, 4, [some (jm_I x0), some (jm_I x1), some (jm_I x2), some (jm_I x3)], [], σ) = cond (decide ((6 : Int32) ≤ x3)) (jm_ev d (jD_isOfKind, 39, [some (jm_I x0), some (jm_I x1), some (jm_I x2), some (jm_I x3)], [], σ)) (cond (decide (x2 < 0)) (jm_ev d (jD_isOfKind, 39, [some (jm_I x0), some (jm_I x1), some (jm_I x2), some (jm_I x3)], [], σ)) (cond (decide ((6 : Int32) ≤ x2)) (jm_ev d (jD_isOfKind, 39, [some (jm_I x0), some (jm_I x1), some (jm_I x2), some (jm_I x3)], [], σ)) (cond (decide (¬ x2 = x1)) (cond (jm_in3 x2 6) (jm_ev d (jD_isOfKind, 4, [some (jm_I x0), some (jm_I x1), some (jm_I ((jm_tb 42).getD x2.toNatClampNeg 0)), some (jm_I (x3 + (1 : Int32)))], [], σ)) (none)) (some (some (jm_I (1 : Int32)), σ))))) := (jm_un_eq [0, 4, 39] d 18 _).trans rfl
theorem gD_isOfKind_39 (d : Nat) (σ : jm_S) (x0 x1 x2 x3 : Int32) : jm_ev d (jD_isOfKind, 39, [some (jm_I x0), some (jm_I x1), some (jm_I x2), some (jm_I x3)], [], σ) = some (some (jm_I (0 : Int32)), σ) := (jm_un_eq [0, 4, 39] d 3 _).trans rfl
theorem gD_asked_0 (d : Nat) (σ : jm_S) (x1 x2 x3 : Int32) : jm_call (d + 1) jD_asked [jm_R 0 0, jm_I x1, jm_I x2, jm_I x3] σ = cond (jm_in3 x1 6) (cond (decide (σ.1 9 3 x1.toNatClampNeg < 0)) (jm_ev d (jD_asked, 25, [some (jm_R 0 0), some (jm_I x1), some (jm_I x2), some (jm_I x3), some (jm_I (σ.1 9 3 x1.toNatClampNeg))], [], σ)) (cond (decide (σ.1 9 3 x1.toNatClampNeg < (6 : Int32))) (cond (decide (¬ x2 = 0)) (cond (jm_in3 (σ.1 9 3 x1.toNatClampNeg) 6) (jm_ev d (jD_asked, 47, [some (jm_R 0 0), some (jm_I x1), some (jm_I x2), some (jm_I x3), some (jm_I (σ.1 9 3 x1.toNatClampNeg))], [jm_I ((jm_tb 44).getD ((σ.1 9 3 x1.toNatClampNeg).toNatClampNeg) 0), jm_R 0 0], σ)) (none)) (cond (jm_in3 (σ.1 9 3 x1.toNatClampNeg) 6) (jm_ev d (jD_asked, 47, [some (jm_R 0 0), some (jm_I x1), some (jm_I x2), some (jm_I x3), some (jm_I (σ.1 9 3 x1.toNatClampNeg))], [jm_I ((jm_tb 43).getD ((σ.1 9 3 x1.toNatClampNeg).toNatClampNeg) 0), jm_R 0 0], σ)) (none))) (jm_ev d (jD_asked, 25, [some (jm_R 0 0), some (jm_I x1), some (jm_I x2), some (jm_I x3), some (jm_I (σ.1 9 3 x1.toNatClampNeg))], [], σ)))) (none) := (jm_un_eq [0, 25, 47, 52] d 21 (jD_asked, 0, [some (jm_R 0 0), some (jm_I x1), some (jm_I x2), some (jm_I x3), none], [], σ)).trans rfl
theorem gD_asked_25 (d : Nat) (σ : jm_S) (x1 x2 x3 x4 : Int32) : jm_ev d (jD_asked, 25, [some (jm_R 0 0), some (jm_I x1), some (jm_I x2), some (jm_I x3), some (jm_I x4)], [], σ) = some (some (jm_I (0 : Int32)), σ) := (jm_un_eq [0, 25, 47, 52] d 3 _).trans rfl
theorem gD_asked_47 (d : Nat) (σ : jm_S) (x1 x2 x3 x4 xs0 : Int32) : jm_ev d (jD_asked, 47, [some (jm_R 0 0), some (jm_I x1), some (jm_I x2), some (jm_I x3), some (jm_I x4)], [jm_I xs0, jm_R 0 0], σ) = (jm_call d jD_answerOf [jm_R 0 0, jm_I xs0, jm_I x1, jm_I x3] σ).bind fun q => jm_ev d (jm_psh (jD_asked, 52, [some (jm_R 0 0), some (jm_I x1), some (jm_I x2), some (jm_I x3), some (jm_I x4)], [], σ) q) := (jm_un_eq [0, 25, 47, 52] d 4 _).trans rfl
theorem gD_asked_52 (d : Nat) (σ : jm_S) (x1 x2 x3 x4 xs0 : Int32) : jm_ev d (jD_asked, 52, [some (jm_R 0 0), some (jm_I x1), some (jm_I x2), some (jm_I x3), some (jm_I x4)], [jm_I xs0], σ) = some (some (jm_I xs0), σ) := (jm_un_eq [0, 25, 47, 52] d 2 _).trans rfl
theorem gD_answerOf_0 (d : Nat) (σ : jm_S) (x1 x2 x3 : Int32) : jm_call (d + 1) jD_answerOf [jm_R 0 0, jm_I x1, jm_I x2, jm_I x3] σ = cond (decide (x3 ≤ (12 : Int32))) ((jm_call d jD_leaveTrace [jm_R 0 0, jm_I x1] σ).bind fun q => jm_ev d (jm_psh (jD_answerOf, 13, [some (jm_R 0 0), some (jm_I x1), some (jm_I x2), some (jm_I x3), none], [], σ) q)) (some (some (jm_I (0 : Int32)), σ)) := (jm_un_eq [0, 13, 113, 121, 132, 143, 157, 170, 192, 206, 214, 226] d 7 (jD_answerOf, 0, [some (jm_R 0 0), some (jm_I x1), some (jm_I x2), some (jm_I x3), none], [], σ)).trans rfl
theorem gD_answerOf_13 (d : Nat) (σ : jm_S) (x1 x2 x3 : Int32) : jm_ev d (jD_answerOf, 13, [some (jm_R 0 0), some (jm_I x1), some (jm_I x2), some (jm_I x3), none], [], σ) = cond (decide (x1.toInt = 10)) (cond (jm_in3 x2 6) (some (some (jm_I (σ.1 9 1 x2.toNatClampNeg)), σ)) (none)) (cond (decide (x1.toInt = 11)) ((jm_call d jD_answerOf [jm_R 0 0, jm_I (10 : Int32), jm_I x2, jm_I (x3 + (1 : Int32))] σ).bind fun q => jm_ev d (jm_psh (jD_answerOf, 113, [some (jm_R 0 0), some (jm_I x1), some (jm_I x2), some (jm_I x3), some (jm_I (x3 + (1 : Int32)))], [], σ) q)) (cond (decide (x1.toInt = 12)) ((jm_call d jD_answerOf [jm_R 0 0, jm_I (11 : Int32), jm_I x2, jm_I (x3 + (1 : Int32))] σ).bind fun q => jm_ev d (jm_psh (jD_answerOf, 132, [some (jm_R 0 0), some (jm_I x1), some (jm_I x2), some (jm_I x3), some (jm_I (x3 + (1 : Int32)))], [], σ) q)) (cond (decide (x1.toInt = 13)) ((jm_call d jD_answerOf [jm_R 0 0, jm_I (10 : Int32), jm_I x2, jm_I (x3 + (1 : Int32))] σ).bind fun q => jm_ev d (jm_psh (jD_answerOf, 143, [some (jm_R 0 0), some (jm_I x1), some (jm_I x2), some (jm_I x3), some (jm_I (x3 + (1 : Int32)))], [], σ) q)) (cond (decide (x1.toInt = 14)) ((jm_call d jD_answerOf [jm_R 0 0, jm_I (13 : Int32), jm_I x2, jm_I (x3 + (1 : Int32))] σ).bind fun q => jm_ev d (jm_psh (jD_answerOf, 157, [some (jm_R 0 0), some (jm_I x1), some (jm_I x2), some (jm_I x3), some (jm_I (x3 + (1 : Int32)))], [jm_I (2 : Int32)], σ) q)) (cond (decide (x1.toInt = 15)) (some (some (jm_I (0 : Int32)), σ)) (cond (decide (x1.toInt = 16)) (some (some (jm_I (0 : Int32)), σ)) (cond (decide (x1.toInt = 17)) (some (some (jm_I (0 : Int32)), σ)) (cond (decide (x1.toInt = 18)) (some (some (jm_I (0 : Int32)), σ)) (cond (decide (x1.toInt = 19)) (some (some (jm_I (0 : Int32)), σ)) (cond (decide (x1.toInt = 20)) (some (some (jm_I x2), σ)) (cond (decide (x1.toInt = 21)) ((jm_call d jD_answerOf [jm_R 0 0, jm_I (20 : Int32), jm_I x2, jm_I (x3 + (1 : Int32))] σ).bind fun q => jm_ev d (jm_psh (jD_answerOf, 170, [some (jm_R 0 0), some (jm_I x1), some (jm_I x2), some (jm_I x3), some (jm_I (x3 + (1 : Int32)))], [], σ) q)) (cond (decide (x1.toInt = 22)) ((jm_call d jD_answerOf [jm_R 0 0, jm_I (21 : Int32), jm_I x2, jm_I (x3 + (1 : Int32))] σ).bind fun q => jm_ev d (jm_psh (jD_answerOf, 192, [some (jm_R 0 0), some (jm_I x1), some (jm_I x2), some (jm_I x3), some (jm_I (x3 + (1 : Int32)))], [], σ) q)) (cond (decide (x1.toInt = 23)) ((jm_call d jD_answerOf [jm_R 0 0, jm_I (20 : Int32), jm_I x2, jm_I (x3 + (1 : Int32))] σ).bind fun q => jm_ev d (jm_psh (jD_answerOf, 206, [some (jm_R 0 0), some (jm_I x1), some (jm_I x2), some (jm_I x3), some (jm_I (x3 + (1 : Int32)))], [], σ) q)) (cond (decide (x1.toInt = 24)) ((jm_call d jD_answerOf [jm_R 0 0, jm_I (21 : Int32), jm_I x2, jm_I (x3 + (1 : Int32))] σ).bind fun q => jm_ev d (jm_psh (jD_answerOf, 226, [some (jm_R 0 0), some (jm_I x1), some (jm_I x2), some (jm_I x3), some (jm_I (x3 + (1 : Int32)))], [jm_I (2 : Int32)], σ) q)) (some (some (jm_I (0 : Int32)), σ)))))))))))))))) := (jm_un_eq [0, 13, 113, 121, 132, 143, 157, 170, 192, 206, 214, 226] d 15 _).trans rfl
theorem gD_answerOf_113 (d : Nat) (σ : jm_S) (x1 x2 x3 x4 xs0 : Int32) : jm_ev d (jD_answerOf, 113, [some (jm_R 0 0), some (jm_I x1), some (jm_I x2), some (jm_I x3), some (jm_I x4)], [jm_I xs0], σ) = (jm_call d jD_asked [jm_R 0 0, jm_I x2, jm_I (1 : Int32), jm_I x4] σ).bind fun q => jm_ev d (jm_psh (jD_answerOf, 121, [some (jm_R 0 0), some (jm_I x1), some (jm_I x2), some (jm_I x3), some (jm_I x4)], [jm_I xs0], σ) q) := (jm_un_eq [0, 13, 113, 121, 132, 143, 157, 170, 192, 206, 214, 226] d 6 _).trans rfl
theorem gD_answerOf_121 (d : Nat) (σ : jm_S) (x1 x2 x3 x4 xs0 xs1 : Int32) : jm_ev d (jD_answerOf, 121, [some (jm_R 0 0), some (jm_I x1), some (jm_I x2), some (jm_I x3), some (jm_I x4)], [jm_I xs0, jm_I xs1], σ) = some (some (jm_I (xs1 + xs0)), σ) := (jm_un_eq [0, 13, 113, 121, 132, 143, 157, 170, 192, 206, 214, 226] d 3 _).trans rfl
theorem gD_answerOf_132 (d : Nat) (σ : jm_S) (x1 x2 x3 x4 xs0 : Int32) : jm_ev d (jD_answerOf, 132, [some (jm_R 0 0), some (jm_I x1), some (jm_I x2), some (jm_I x3), some (jm_I x4)], [jm_I xs0], σ) = some (some (jm_I (-xs0)), σ) := (jm_un_eq [0, 13, 113, 121, 132, 143, 157, 170, 192, 206, 214, 226] d 3 _).trans rfl
theorem gD_answerOf_143 (d : Nat) (σ : jm_S) (x1 x2 x3 x4 xs0 : Int32) : jm_ev d (jD_answerOf, 143, [some (jm_R 0 0), some (jm_I x1), some (jm_I x2), some (jm_I x3), some (jm_I x4)], [jm_I xs0], σ) = some (some (jm_I (xs0 - (100 : Int32))), σ) := (jm_un_eq [0, 13, 113, 121, 132, 143, 157, 170, 192, 206, 214, 226] d 4 _).trans rfl
theorem gD_answerOf_157 (d : Nat) (σ : jm_S) (x1 x2 x3 x4 xs0 xs1 : Int32) : jm_ev d (jD_answerOf, 157, [some (jm_R 0 0), some (jm_I x1), some (jm_I x2), some (jm_I x3), some (jm_I x4)], [jm_I xs0, jm_I xs1], σ) = some (some (jm_I (xs1 * xs0)), σ) := (jm_un_eq [0, 13, 113, 121, 132, 143, 157, 170, 192, 206, 214, 226] d 3 _).trans rfl
theorem gD_answerOf_170 (d : Nat) (σ : jm_S) (x1 x2 x3 x4 xs0 : Int32) : jm_ev d (jD_answerOf, 170, [some (jm_R 0 0), some (jm_I x1), some (jm_I x2), some (jm_I x3), some (jm_I x4)], [jm_I xs0], σ) = cond (jm_in3 x2 6) (some (some (jm_I (xs0 + (σ.1 9 0 x2.toNatClampNeg))), σ)) (none) := (jm_un_eq [0, 13, 113, 121, 132, 143, 157, 170, 192, 206, 214, 226] d 10 _).trans rfl
theorem gD_answerOf_192 (d : Nat) (σ : jm_S) (x1 x2 x3 x4 xs0 : Int32) : jm_ev d (jD_answerOf, 192, [some (jm_R 0 0), some (jm_I x1), some (jm_I x2), some (jm_I x3), some (jm_I x4)], [jm_I xs0], σ) = some (some (jm_I (xs0 - (1000 : Int32))), σ) := (jm_un_eq [0, 13, 113, 121, 132, 143, 157, 170, 192, 206, 214, 226] d 4 _).trans rfl
theorem gD_answerOf_206 (d : Nat) (σ : jm_S) (x1 x2 x3 x4 xs0 : Int32) : jm_ev d (jD_answerOf, 206, [some (jm_R 0 0), some (jm_I x1), some (jm_I x2), some (jm_I x3), some (jm_I x4)], [jm_I xs0], σ) = (jm_call d jD_asked [jm_R 0 0, jm_I x2, jm_I (0 : Int32), jm_I x4] σ).bind fun q => jm_ev d (jm_psh (jD_answerOf, 214, [some (jm_R 0 0), some (jm_I x1), some (jm_I x2), some (jm_I x3), some (jm_I x4)], [jm_I xs0], σ) q) := (jm_un_eq [0, 13, 113, 121, 132, 143, 157, 170, 192, 206, 214, 226] d 6 _).trans rfl
theorem gD_answerOf_214 (d : Nat) (σ : jm_S) (x1 x2 x3 x4 xs0 xs1 : Int32) : jm_ev d (jD_answerOf, 214, [some (jm_R 0 0), some (jm_I x1), some (jm_I x2), some (jm_I x3), some (jm_I x4)], [jm_I xs0, jm_I xs1], σ) = some (some (jm_I (xs1 - xs0)), σ) := (jm_un_eq [0, 13, 113, 121, 132, 143, 157, 170, 192, 206, 214, 226] d 3 _).trans rfl
theorem gD_answerOf_226 (d : Nat) (σ : jm_S) (x1 x2 x3 x4 xs0 xs1 : Int32) : jm_ev d (jD_answerOf, 226, [some (jm_R 0 0), some (jm_I x1), some (jm_I x2), some (jm_I x3), some (jm_I x4)], [jm_I xs0, jm_I xs1], σ) = some (some (jm_I (xs1 * xs0)), σ) := (jm_un_eq [0, 13, 113, 121, 132, 143, 157, 170, 192, 206, 214, 226] d 3 _).trans rfl
theorem gD_leaveTrace_0 (d : Nat) (σ : jm_S) (x1 : Int32) : jm_call (d + 1) jD_leaveTrace [jm_R 0 0, jm_I x1] σ = cond (decide ((16 : Int32) ≤ σ.1 0 0 11)) (jm_ev d (jD_leaveTrace, 29, [some (jm_R 0 0), some (jm_I x1)], [], σ)) (cond (jm_in3 (σ.1 0 0 11) 16) (jm_ev d (jD_leaveTrace, 29, [some (jm_R 0 0), some (jm_I x1)], [], jm_wi (jm_wi σ 20 0 ((σ.1 0 0 11).toNatClampNeg) x1) 0 0 11 ((σ.1 0 0 11) + (1 : Int32)))) (none)) := (jm_un_eq [0, 29] d 17 (jD_leaveTrace, 0, [some (jm_R 0 0), some (jm_I x1)], [], σ)).trans rfl
theorem gD_leaveTrace_29 (d : Nat) (σ : jm_S) (x1 : Int32) : jm_ev d (jD_leaveTrace, 29, [some (jm_R 0 0), some (jm_I x1)], [], σ) = some (none, σ) := (jm_un_eq [0, 29] d 2 _).trans rfl
theorem gD_rowsThatStand_0 (d : Nat) (σ : jm_S) : jm_call (d + 1) jD_rowsThatStand [jm_R 0 0] σ = jm_ev d (jD_rowsThatStand, 4, [some (jm_R 0 0), some (jm_I (0 : Int32)), some (jm_I (0 : Int32))], [], σ) := (jm_un_eq [0, 4, 15, 21] d 5 (jD_rowsThatStand, 0, [some (jm_R 0 0), none, none], [], σ)).trans rfl
theorem gD_rowsThatStand_4 (d : Nat) (σ : jm_S) (x1 x2 : Int32) : jm_ev d (jD_rowsThatStand, 4, [some (jm_R 0 0), some (jm_I x1), some (jm_I x2)], [], σ) = cond (decide ((8 : Int32) ≤ x2)) (some (some (jm_I x1), σ)) ((jm_call d jD_isMissing [jm_R 0 0, jm_I x2] σ).bind fun q => jm_ev d (jm_psh (jD_rowsThatStand, 15, [some (jm_R 0 0), some (jm_I x1), some (jm_I x2)], [], σ) q)) := (jm_un_eq [0, 4, 15, 21] d 7 _).trans rfl
theorem gD_rowsThatStand_15 (d : Nat) (σ : jm_S) (x1 x2 xs0 : Int32) : jm_ev d (jD_rowsThatStand, 15, [some (jm_R 0 0), some (jm_I x1), some (jm_I x2)], [jm_I xs0], σ) = cond (decide (¬ xs0 = 0)) (jm_ev d (jD_rowsThatStand, 21, [some (jm_R 0 0), some (jm_I x1), some (jm_I x2)], [], σ)) (jm_ev d (jD_rowsThatStand, 21, [some (jm_R 0 0), some (jm_I (x1 + (1 : Int32))), some (jm_I x2)], [], σ)) := (jm_un_eq [0, 4, 15, 21] d 3 _).trans rfl
theorem gD_rowsThatStand_21 (d : Nat) (σ : jm_S) (x1 x2 : Int32) : jm_ev d (jD_rowsThatStand, 21, [some (jm_R 0 0), some (jm_I x1), some (jm_I x2)], [], σ) = jm_ev d (jD_rowsThatStand, 4, [some (jm_R 0 0), some (jm_I x1), some (jm_I (x2 + (1 : Int32)))], [], σ) := (jm_un_eq [0, 4, 15, 21] d 3 _).trans rfl
theorem gD_found_0 (d : Nat) (σ : jm_S) (x1 : Int32) : jm_call (d + 1) jD_found [jm_R 0 0, jm_I x1] σ = some (some (jm_I ((-1000010 : Int32) - x1)), jm_wi σ 0 0 13 x1) := (jm_un_eq [0] d 8 (jD_found, 0, [some (jm_R 0 0), some (jm_I x1)], [], σ)).trans rfl
theorem gD_clean_0 (d : Nat) (σ : jm_S) (x1 : Int32) : jm_call (d + 1) jD_clean [jm_R 0 0, jm_I x1] σ = some (some (jm_I x1), jm_wi σ 0 0 13 (0 : Int32)) := (jm_un_eq [0] d 6 (jD_clean, 0, [some (jm_R 0 0), some (jm_I x1)], [], σ)).trans rfl
theorem gD_answered_0 (d : Nat) (σ : jm_S) (x1 : Int32) : jm_call (d + 1) jD_answered [jm_R 0 0, jm_I x1] σ = cond (decide (¬ x1 = (-1000016 : Int32))) ((jm_call d jD_clean [jm_R 0 0, jm_I x1] σ).bind fun q => jm_ev d (jm_psh (jD_answered, 20, [some (jm_R 0 0), some (jm_I x1)], [], σ) q)) ((jm_call d jD_found [jm_R 0 0, jm_I (6 : Int32)] σ).bind fun q => jm_ev d (jm_psh (jD_answered, 12, [some (jm_R 0 0), some (jm_I x1)], [], σ) q)) := (jm_un_eq [0, 12, 20] d 7 (jD_answered, 0, [some (jm_R 0 0), some (jm_I x1)], [], σ)).trans rfl
theorem gD_answered_12 (d : Nat) (σ : jm_S) (x1 xs0 : Int32) : jm_ev d (jD_answered, 12, [some (jm_R 0 0), some (jm_I x1)], [jm_I xs0], σ) = jm_ev d (jD_answered, 20, [some (jm_R 0 0), some (jm_I x1)], [jm_I xs0], σ) := (jm_un_eq [0, 12, 20] d 2 _).trans rfl
theorem gD_answered_20 (d : Nat) (σ : jm_S) (x1 xs0 : Int32) : jm_ev d (jD_answered, 20, [some (jm_R 0 0), some (jm_I x1)], [jm_I xs0], σ) = some (some (jm_I xs0), σ) := (jm_un_eq [0, 12, 20] d 2 _).trans rfl
theorem gM_in_0 (d : Nat) (σ : jm_S) (l0 l2 l4 : Int64) : jm_call (d + 1) jM_in [jm_L l0, jm_L l2, jm_L l4] σ = cond (decide (lg_cmp l0 l2 < 0)) (jm_ev d (jM_in, 17, [some (jm_L l0), none, some (jm_L l2), none, some (jm_L l4), none], [], σ)) (cond (decide (0 < lg_cmp l0 l4)) (jm_ev d (jM_in, 17, [some (jm_L l0), none, some (jm_L l2), none, some (jm_L l4), none], [], σ)) (jm_ev d (jM_in, 18, [some (jm_L l0), none, some (jm_L l2), none, some (jm_L l4), none], [jm_I (1 : Int32)], σ))) := (jm_un_eq [0, 17, 18] d 11 (jM_in, 0, [some (jm_L l0), none, some (jm_L l2), none, some (jm_L l4), none], [], σ)).trans rfl
theorem gM_in_17 (d : Nat) (σ : jm_S) (l0 l2 l4 : Int64) : jm_ev d (jM_in, 17, [some (jm_L l0), none, some (jm_L l2), none, some (jm_L l4), none], [], σ) = jm_ev d (jM_in, 18, [some (jm_L l0), none, some (jm_L l2), none, some (jm_L l4), none], [jm_I (0 : Int32)], σ) := (jm_un_eq [0, 17, 18] d 2 _).trans rfl
theorem gM_in_18 (d : Nat) (σ : jm_S) (xs0 : Int32) (l0 l2 l4 : Int64) : jm_ev d (jM_in, 18, [some (jm_L l0), none, some (jm_L l2), none, some (jm_L l4), none], [jm_I xs0], σ) = cond (jm_b01 xs0) (some (some (jm_I xs0), σ)) none := (jm_un_eq [0, 17, 18] d 2 _).trans rfl
theorem gM_finding_0 (d : Nat) (σ : jm_S) (x1 : Int32) : jm_call (d + 1) jM_finding [jm_R 21 0, jm_I x1] σ = some (some (jm_I ((-1000010 : Int32) - x1)), jm_wi σ 21 0 1 x1) := (jm_un_eq [0] d 8 (jM_finding, 0, [some (jm_R 21 0), some (jm_I x1)], [], σ)).trans rfl
theorem gM_isRow_0 (d : Nat) (σ : jm_S) (x0 : Int32) : jm_call (d + 1) jM_isRow [jm_I x0] σ = (jm_call d jM_in [jm_L x0.toInt64, jm_L (0 : Int64), jm_L (7 : Int64)] σ).bind fun q => jm_ev d (jm_psh (jM_isRow, 9, [some (jm_I x0)], [], σ) q) := (jm_un_eq [0, 9] d 6 (jM_isRow, 0, [some (jm_I x0)], [], σ)).trans rfl
theorem gM_isRow_9 (d : Nat) (σ : jm_S) (x0 xs0 : Int32) : jm_ev d (jM_isRow, 9, [some (jm_I x0)], [jm_I xs0], σ) = cond (jm_b01 xs0) (some (some (jm_I xs0), σ)) none := (jm_un_eq [0, 9] d 2 _).trans rfl
theorem gM_row_0 (d : Nat) (σ : jm_S) (x1 x2 x3 : Int32) : jm_call (d + 1) jM_row [jm_R 21 0, jm_I x1, jm_I x2, jm_I x3] σ = (jm_call d jM_isRow [jm_I x1] (jm_wi σ 21 0 0 (0 : Int32))).bind fun q => jm_ev d (jm_psh (jM_row, 9, [some (jm_R 21 0), some (jm_I x1), some (jm_I x2), some (jm_I x3), none], [], jm_wi σ 21 0 0 (0 : Int32)) q) := (jm_un_eq [0, 9, 21, 30, 47, 65] d 6 (jM_row, 0, [some (jm_R 21 0), some (jm_I x1), some (jm_I x2), some (jm_I x3), none], [], σ)).trans rfl
theorem gM_row_9 (d : Nat) (σ : jm_S) (x1 x2 x3 xs0 : Int32) : jm_ev d (jM_row, 9, [some (jm_R 21 0), some (jm_I x1), some (jm_I x2), some (jm_I x3), none], [jm_I xs0], σ) = cond (decide (xs0 = 0)) (jm_ev d (jM_row, 30, [some (jm_R 21 0), some (jm_I x1), some (jm_I x2), some (jm_I x3), none], [], σ)) ((jm_call d jM_in [jm_L x2.toInt64, jm_L (0 : Int64), jm_L (2 : Int64)] σ).bind fun q => jm_ev d (jm_psh (jM_row, 21, [some (jm_R 21 0), some (jm_I x1), some (jm_I x2), some (jm_I x3), none], [], σ) q)) := (jm_un_eq [0, 9, 21, 30, 47, 65] d 7 _).trans rfl
theorem gM_row_21 (d : Nat) (σ : jm_S) (x1 x2 x3 xs0 : Int32) : jm_ev d (jM_row, 21, [some (jm_R 21 0), some (jm_I x1), some (jm_I x2), some (jm_I x3), none], [jm_I xs0], σ) = cond (decide (xs0 = 0)) (jm_ev d (jM_row, 30, [some (jm_R 21 0), some (jm_I x1), some (jm_I x2), some (jm_I x3), none], [], σ)) (cond (decide (x3 ≤ (40 : Int32))) (cond (decide (0 ≤ x3)) (cond (jm_in3 x1 8) (cond (jm_in3 x1 8) (jm_ev d (jM_row, 65, [some (jm_R 21 0), some (jm_I x1), some (jm_I x2), some (jm_I x3), some (jm_I (0 : Int32))], [], jm_wi (jm_wi (jm_wi σ 21 0 1 (0 : Int32)) 22 0 x1.toNatClampNeg x2) 23 0 x1.toNatClampNeg x3)) (none)) (none)) ((jm_call d jM_finding [jm_R 21 0, jm_I (4 : Int32)] (jm_wi σ 21 0 1 (0 : Int32))).bind fun q => jm_ev d (jm_psh (jM_row, 47, [some (jm_R 21 0), some (jm_I x1), some (jm_I x2), some (jm_I x3), none], [], jm_wi σ 21 0 1 (0 : Int32)) q))) (jm_ev d (jM_row, 30, [some (jm_R 21 0), some (jm_I x1), some (jm_I x2), some (jm_I x3), none], [], σ))) := (jm_un_eq [0, 9, 21, 30, 47, 65] d 22 _).trans rfl
theorem gM_row_30 (d : Nat) (σ : jm_S) (x1 x2 x3 : Int32) : jm_ev d (jM_row, 30, [some (jm_R 21 0), some (jm_I x1), some (jm_I x2), some (jm_I x3), none], [], σ) = some (some (jm_I (-1000001 : Int32)), σ) := (jm_un_eq [0, 9, 21, 30, 47, 65] d 3 _).trans rfl
theorem gM_row_47 (d : Nat) (σ : jm_S) (x1 x2 x3 xs0 : Int32) : jm_ev d (jM_row, 47, [some (jm_R 21 0), some (jm_I x1), some (jm_I x2), some (jm_I x3), none], [jm_I xs0], σ) = some (some (jm_I xs0), σ) := (jm_un_eq [0, 9, 21, 30, 47, 65] d 2 _).trans rfl
theorem gM_row_65 (d : Nat) (σ : jm_S) (x1 x2 x3 x4 : Int32) : jm_ev d (jM_row, 65, [some (jm_R 21 0), some (jm_I x1), some (jm_I x2), some (jm_I x3), some (jm_I x4)], [], σ) = cond (decide ((40 : Int32) ≤ x4)) (some (some (jm_I x3), σ)) (cond (jm_in3 (((40 : Int32) * x1) + x4) 320) (jm_ev d (jM_row, 65, [some (jm_R 21 0), some (jm_I x1), some (jm_I x2), some (jm_I x3), some (jm_I (x4 + (1 : Int32)))], [], jm_wi σ 24 0 ((((40 : Int32) * x1) + x4).toNatClampNeg) (0 : Int32))) (none)) := (jm_un_eq [0, 9, 21, 30, 47, 65] d 15 _).trans rfl
theorem gM_set_0 (d : Nat) (σ : jm_S) (x1 x2 x3 : Int32) : jm_call (d + 1) jM_set [jm_R 21 0, jm_I x1, jm_I x2, jm_I x3] σ = (jm_call d jM_isRow [jm_I x1] (jm_wi σ 21 0 0 (0 : Int32))).bind fun q => jm_ev d (jm_psh (jM_set, 9, [some (jm_R 21 0), some (jm_I x1), some (jm_I x2), some (jm_I x3)], [], jm_wi σ 21 0 0 (0 : Int32)) q) := (jm_un_eq [0, 9, 34, 50, 58, 99] d 6 (jM_set, 0, [some (jm_R 21 0), some (jm_I x1), some (jm_I x2), some (jm_I x3)], [], σ)).trans rfl
theorem gM_set_9 (d : Nat) (σ : jm_S) (x1 x2 x3 xs0 : Int32) : jm_ev d (jM_set, 9, [some (jm_R 21 0), some (jm_I x1), some (jm_I x2), some (jm_I x3)], [jm_I xs0], σ) = cond (decide (¬ xs0 = 0)) (cond (jm_in3 x1 8) (cond (decide (0 ≤ σ.1 22 0 x1.toNatClampNeg)) (cond (jm_in3 x1 8) ((jm_call d jM_in [jm_L x2.toInt64, jm_L (0 : Int64), jm_L (((σ.1 23 0 x1.toNatClampNeg) - (1 : Int32)).toInt64)] (jm_wi σ 21 0 1 (0 : Int32))).bind fun q => jm_ev d (jm_psh (jM_set, 50, [some (jm_R 21 0), some (jm_I x1), some (jm_I x2), some (jm_I x3)], [], jm_wi σ 21 0 1 (0 : Int32)) q)) (none)) ((jm_call d jM_finding [jm_R 21 0, jm_I (1 : Int32)] (jm_wi σ 21 0 1 (0 : Int32))).bind fun q => jm_ev d (jm_psh (jM_set, 34, [some (jm_R 21 0), some (jm_I x1), some (jm_I x2), some (jm_I x3)], [], jm_wi σ 21 0 1 (0 : Int32)) q))) (none)) (some (some (jm_I (-1000001 : Int32)), σ)) := (jm_un_eq [0, 9, 34, 50, 58, 99] d 21 _).trans rfl
theorem gM_set_34 (d : Nat) (σ : jm_S) (x1 x2 x3 xs0 : Int32) : jm_ev d (jM_set, 34, [some (jm_R 21 0), some (jm_I x1), some (jm_I x2), some (jm_I x3)], [jm_I xs0], σ) = some (some (jm_I xs0), σ) := (jm_un_eq [0, 9, 34, 50, 58, 99] d 2 _).trans rfl
theorem gM_set_50 (d : Nat) (σ : jm_S) (x1 x2 x3 xs0 : Int32) : jm_ev d (jM_set, 50, [some (jm_R 21 0), some (jm_I x1), some (jm_I x2), some (jm_I x3)], [jm_I xs0], σ) = cond (decide (¬ xs0 = 0)) (cond (jm_in3 x1 8) (cond (decide (¬ σ.1 22 0 x1.toNatClampNeg = 0)) (cond (jm_in3 x1 8) (cond (decide (¬ σ.1 22 0 x1.toNatClampNeg = (1 : Int32))) (jm_ev d (jM_set, 99, [some (jm_R 21 0), some (jm_I x1), some (jm_I x2), some (jm_I x3)], [jm_I x3, jm_I (((40 : Int32) * x1) + x2), jm_R 24 0], σ)) (jm_ev d (jM_set, 99, [some (jm_R 21 0), some (jm_I x1), some (jm_I x2), some (jm_I x3)], [jm_I x3.toInt16.toInt32, jm_I (((40 : Int32) * x1) + x2), jm_R 24 0], σ))) (none)) (jm_ev d (jM_set, 99, [some (jm_R 21 0), some (jm_I x1), some (jm_I x2), some (jm_I x3)], [jm_I x3.toInt8.toInt32, jm_I (((40 : Int32) * x1) + x2), jm_R 24 0], σ))) (none)) ((jm_call d jM_finding [jm_R 21 0, jm_I (2 : Int32)] σ).bind fun q => jm_ev d (jm_psh (jM_set, 58, [some (jm_R 21 0), some (jm_I x1), some (jm_I x2), some (jm_I x3)], [], σ) q)) := (jm_un_eq [0, 9, 34, 50, 58, 99] d 23 _).trans rfl
theorem gM_set_58 (d : Nat) (σ : jm_S) (x1 x2 x3 xs0 : Int32) : jm_ev d (jM_set, 58, [some (jm_R 21 0), some (jm_I x1), some (jm_I x2), some (jm_I x3)], [jm_I xs0], σ) = some (some (jm_I xs0), σ) := (jm_un_eq [0, 9, 34, 50, 58, 99] d 2 _).trans rfl
theorem gM_set_99 (d : Nat) (σ : jm_S) (x1 x2 x3 xs0 xs1 : Int32) : jm_ev d (jM_set, 99, [some (jm_R 21 0), some (jm_I x1), some (jm_I x2), some (jm_I x3)], [jm_I xs0, jm_I xs1, jm_R 24 0], σ) = cond (jm_in3 xs1 320) (cond (jm_in3 (((40 : Int32) * x1) + x2) 320) (some (some (jm_I ((jm_wi σ 24 0 xs1.toNatClampNeg xs0).1 24 0 ((((40 : Int32) * x1) + x2).toNatClampNeg))), jm_wi σ 24 0 xs1.toNatClampNeg xs0)) (none)) (none) := (jm_un_eq [0, 9, 34, 50, 58, 99] d 11 _).trans rfl
theorem gM_copy_0 (d : Nat) (σ : jm_S) (x1 x2 x3 x4 x5 : Int32) : jm_call (d + 1) jM_copy [jm_R 21 0, jm_I x1, jm_I x2, jm_I x3, jm_I x4, jm_I x5] σ = (jm_call d jM_isRow [jm_I x1] (jm_wi σ 21 0 0 (0 : Int32))).bind fun q => jm_ev d (jm_psh (jM_copy, 9, [some (jm_R 21 0), some (jm_I x1), some (jm_I x2), some (jm_I x3), some (jm_I x4), some (jm_I x5), none, none, none], [], jm_wi σ 21 0 0 (0 : Int32)) q) := (jm_un_eq [0, 9, 16, 19, 45, 50, 71, 121, 126, 138, 143, 167] d 6 (jM_copy, 0, [some (jm_R 21 0), some (jm_I x1), some (jm_I x2), some (jm_I x3), some (jm_I x4), some (jm_I x5), none, none, none], [], σ)).trans rfl
theorem gM_copy_9 (d : Nat) (σ : jm_S) (x1 x2 x3 x4 x5 xs0 : Int32) : jm_ev d (jM_copy, 9, [some (jm_R 21 0), some (jm_I x1), some (jm_I x2), some (jm_I x3), some (jm_I x4), some (jm_I x5), none, none, none], [jm_I xs0], σ) = cond (decide (xs0 = 0)) (jm_ev d (jM_copy, 19, [some (jm_R 21 0), some (jm_I x1), some (jm_I x2), some (jm_I x3), some (jm_I x4), some (jm_I x5), none, none, none], [], σ)) ((jm_call d jM_isRow [jm_I x3] σ).bind fun q => jm_ev d (jm_psh (jM_copy, 16, [some (jm_R 21 0), some (jm_I x1), some (jm_I x2), some (jm_I x3), some (jm_I x4), some (jm_I x5), none, none, none], [], σ) q)) := (jm_un_eq [0, 9, 16, 19, 45, 50, 71, 121, 126, 138, 143, 167] d 4 _).trans rfl
theorem gM_copy_16 (d : Nat) (σ : jm_S) (x1 x2 x3 x4 x5 xs0 : Int32) : jm_ev d (jM_copy, 16, [some (jm_R 21 0), some (jm_I x1), some (jm_I x2), some (jm_I x3), some (jm_I x4), some (jm_I x5), none, none, none], [jm_I xs0], σ) = cond (decide (¬ xs0 = 0)) (cond (jm_in3 x1 8) (cond (decide (σ.1 22 0 x1.toNatClampNeg < 0)) (jm_ev d (jM_copy, 45, [some (jm_R 21 0), some (jm_I x1), some (jm_I x2), some (jm_I x3), some (jm_I x4), some (jm_I x5), none, none, none], [], jm_wi σ 21 0 1 (0 : Int32))) (cond (jm_in3 x3 8) (cond (decide (0 ≤ σ.1 22 0 x3.toNatClampNeg)) (cond (jm_in3 x1 8) (cond (jm_in3 x3 8) (cond (decide (σ.1 22 0 x1.toNatClampNeg = σ.1 22 0 x3.toNatClampNeg)) (cond (decide (x2 < 0)) (jm_ev d (jM_copy, 121, [some (jm_R 21 0), some (jm_I x1), some (jm_I x2), some (jm_I x3), some (jm_I x4), some (jm_I x5), none, none, none], [], jm_wi σ 21 0 1 (0 : Int32))) (cond (decide (x4 < 0)) (jm_ev d (jM_copy, 121, [some (jm_R 21 0), some (jm_I x1), some (jm_I x2), some (jm_I x3), some (jm_I x4), some (jm_I x5), none, none, none], [], jm_wi σ 21 0 1 (0 : Int32))) (cond (decide (x5 < 0)) (jm_ev d (jM_copy, 121, [some (jm_R 21 0), some (jm_I x1), some (jm_I x2), some (jm_I x3), some (jm_I x4), some (jm_I x5), none, none, none], [], jm_wi σ 21 0 1 (0 : Int32))) (cond (jm_in3 x1 8) (cond (decide (0 < lg_cmp (x2.toInt64 + x5.toInt64) ((σ.1 23 0 x1.toNatClampNeg).toInt64))) (jm_ev d (jM_copy, 121, [some (jm_R 21 0), some (jm_I x1), some (jm_I x2), some (jm_I x3), some (jm_I x4), some (jm_I x5), none, none, none], [], jm_wi σ 21 0 1 (0 : Int32))) (cond (jm_in3 x3 8) (cond (decide (lg_cmp (x4.toInt64 + x5.toInt64) ((σ.1 23 0 x3.toNatClampNeg).toInt64) ≤ 0)) (cond (decide (x2 < x4)) (jm_ev d (jM_copy, 138, [some (jm_R 21 0), some (jm_I x1), some (jm_I x2), some (jm_I x3), some (jm_I x4), some (jm_I x5), none, none, none], [jm_I (0 : Int32)], jm_wi σ 21 0 1 (0 : Int32))) (jm_ev d (jM_copy, 138, [some (jm_R 21 0), some (jm_I x1), some (jm_I x2), some (jm_I x3), some (jm_I x4), some (jm_I x5), none, none, none], [jm_I (1 : Int32)], jm_wi σ 21 0 1 (0 : Int32)))) (jm_ev d (jM_copy, 121, [some (jm_R 21 0), some (jm_I x1), some (jm_I x2), some (jm_I x3), some (jm_I x4), some (jm_I x5), none, none, none], [], jm_wi σ 21 0 1 (0 : Int32)))) (none))) (none))))) ((jm_call d jM_finding [jm_R 21 0, jm_I (5 : Int32)] (jm_wi σ 21 0 1 (0 : Int32))).bind fun q => jm_ev d (jm_psh (jM_copy, 71, [some (jm_R 21 0), some (jm_I x1), some (jm_I x2), some (jm_I x3), some (jm_I x4), some (jm_I x5), none, none, none], [], jm_wi σ 21 0 1 (0 : Int32)) q))) (none)) (none)) (jm_ev d (jM_copy, 45, [some (jm_R 21 0), some (jm_I x1), some (jm_I x2), some (jm_I x3), some (jm_I x4), some (jm_I x5), none, none, none], [], jm_wi σ 21 0 1 (0 : Int32)))) (none))) (none)) (jm_ev d (jM_copy, 19, [some (jm_R 21 0), some (jm_I x1), some (jm_I x2), some (jm_I x3), some (jm_I x4), some (jm_I x5), none, none, none], [], σ)) := (jm_un_eq [0, 9, 16, 19, 45, 50, 71, 121, 126, 138, 143, 167] d 59 _).trans rfl
theorem gM_copy_19 (d : Nat) (σ : jm_S) (x1 x2 x3 x4 x5 : Int32) : jm_ev d (jM_copy, 19, [some (jm_R 21 0), some (jm_I x1), some (jm_I x2), some (jm_I x3), some (jm_I x4), some (jm_I x5), none, none, none], [], σ) = some (some (jm_I (-1000001 : Int32)), σ) := (jm_un_eq [0, 9, 16, 19, 45, 50, 71, 121, 126, 138, 143, 167] d 3 _).trans rfl
theorem gM_copy_45 (d : Nat) (σ : jm_S) (x1 x2 x3 x4 x5 : Int32) : jm_ev d (jM_copy, 45, [some (jm_R 21 0), some (jm_I x1), some (jm_I x2), some (jm_I x3), some (jm_I x4), some (jm_I x5), none, none, none], [], σ) = (jm_call d jM_finding [jm_R 21 0, jm_I (1 : Int32)] σ).bind fun q => jm_ev d (jm_psh (jM_copy, 50, [some (jm_R 21 0), some (jm_I x1), some (jm_I x2), some (jm_I x3), some (jm_I x4), some (jm_I x5), none, none, none], [], σ) q) := (jm_un_eq [0, 9, 16, 19, 45, 50, 71, 121, 126, 138, 143, 167] d 4 _).trans rfl
theorem gM_copy_50 (d : Nat) (σ : jm_S) (x1 x2 x3 x4 x5 xs0 : Int32) : jm_ev d (jM_copy, 50, [some (jm_R 21 0), some (jm_I x1), some (jm_I x2), some (jm_I x3), some (jm_I x4), some (jm_I x5), none, none, none], [jm_I xs0], σ) = some (some (jm_I xs0), σ) := (jm_un_eq [0, 9, 16, 19, 45, 50, 71, 121, 126, 138, 143, 167] d 2 _).trans rfl
theorem gM_copy_71 (d : Nat) (σ : jm_S) (x1 x2 x3 x4 x5 xs0 : Int32) : jm_ev d (jM_copy, 71, [some (jm_R 21 0), some (jm_I x1), some (jm_I x2), some (jm_I x3), some (jm_I x4), some (jm_I x5), none, none, none], [jm_I xs0], σ) = some (some (jm_I xs0), σ) := (jm_un_eq [0, 9, 16, 19, 45, 50, 71, 121, 126, 138, 143, 167] d 2 _).trans rfl
theorem gM_copy_121 (d : Nat) (σ : jm_S) (x1 x2 x3 x4 x5 : Int32) : jm_ev d (jM_copy, 121, [some (jm_R 21 0), some (jm_I x1), some (jm_I x2), some (jm_I x3), some (jm_I x4), some (jm_I x5), none, none, none], [], σ) = (jm_call d jM_finding [jm_R 21 0, jm_I (2 : Int32)] σ).bind fun q => jm_ev d (jm_psh (jM_copy, 126, [some (jm_R 21 0), some (jm_I x1), some (jm_I x2), some (jm_I x3), some (jm_I x4), some (jm_I x5), none, none, none], [], σ) q) := (jm_un_eq [0, 9, 16, 19, 45, 50, 71, 121, 126, 138, 143, 167] d 4 _).trans rfl
theorem gM_copy_126 (d : Nat) (σ : jm_S) (x1 x2 x3 x4 x5 xs0 : Int32) : jm_ev d (jM_copy, 126, [some (jm_R 21 0), some (jm_I x1), some (jm_I x2), some (jm_I x3), some (jm_I x4), some (jm_I x5), none, none, none], [jm_I xs0], σ) = some (some (jm_I xs0), σ) := (jm_un_eq [0, 9, 16, 19, 45, 50, 71, 121, 126, 138, 143, 167] d 2 _).trans rfl
theorem gM_copy_138 (d : Nat) (σ : jm_S) (x1 x2 x3 x4 x5 xs0 : Int32) : jm_ev d (jM_copy, 138, [some (jm_R 21 0), some (jm_I x1), some (jm_I x2), some (jm_I x3), some (jm_I x4), some (jm_I x5), none, none, none], [jm_I xs0], σ) = jm_ev d (jM_copy, 143, [some (jm_R 21 0), some (jm_I x1), some (jm_I x2), some (jm_I x3), some (jm_I x4), some (jm_I x5), some (jm_I xs0), some (jm_I (0 : Int32)), none], [], σ) := (jm_un_eq [0, 9, 16, 19, 45, 50, 71, 121, 126, 138, 143, 167] d 4 _).trans rfl
theorem gM_copy_143 (d : Nat) (σ : jm_S) (x1 x2 x3 x4 x5 x6 x7 : Int32) (o8 : Option jm_V) : jm_ev d (jM_copy, 143, [some (jm_R 21 0), some (jm_I x1), some (jm_I x2), some (jm_I x3), some (jm_I x4), some (jm_I x5), some (jm_I x6), some (jm_I x7), o8], [], σ) = cond (decide (x5 ≤ x7)) (some (some (jm_I x5), σ)) (cond (decide (x6 = 0)) (jm_ev d (jM_copy, 167, [some (jm_R 21 0), some (jm_I x1), some (jm_I x2), some (jm_I x3), some (jm_I x4), some (jm_I x5), some (jm_I x6), some (jm_I x7), o8], [jm_I ((x5 - (1 : Int32)) - x7)], σ)) (jm_ev d (jM_copy, 167, [some (jm_R 21 0), some (jm_I x1), some (jm_I x2), some (jm_I x3), some (jm_I x4), some (jm_I x5), some (jm_I x6), some (jm_I x7), o8], [jm_I x7], σ))) := (jm_un_eq [0, 9, 16, 19, 45, 50, 71, 121, 126, 138, 143, 167] d 11 _).trans rfl
theorem gM_copy_167 (d : Nat) (σ : jm_S) (x1 x2 x3 x4 x5 x6 x7 xs0 : Int32) (o8 : Option jm_V) : jm_ev d (jM_copy, 167, [some (jm_R 21 0), some (jm_I x1), some (jm_I x2), some (jm_I x3), some (jm_I x4), some (jm_I x5), some (jm_I x6), some (jm_I x7), o8], [jm_I xs0], σ) = cond (jm_in3 ((((40 : Int32) * x1) + x2) + xs0) 320) (cond (jm_in3 ((((40 : Int32) * x3) + x4) + xs0) 320) (jm_ev d (jM_copy, 143, [some (jm_R 21 0), some (jm_I x1), some (jm_I x2), some (jm_I x3), some (jm_I x4), some (jm_I x5), some (jm_I x6), some (jm_I (x7 + (1 : Int32))), some (jm_I xs0)], [], jm_wi σ 24 0 (((((40 : Int32) * x3) + x4) + xs0).toNatClampNeg) (σ.1 24 0 (((((40 : Int32) * x1) + x2) + xs0).toNatClampNeg)))) (none)) (none) := (jm_un_eq [0, 9, 16, 19, 45, 50, 71, 121, 126, 138, 143, 167] d 24 _).trans rfl
theorem gM_drop_0 (d : Nat) (σ : jm_S) (x1 : Int32) : jm_call (d + 1) jM_drop [jm_R 21 0, jm_I x1] σ = (jm_call d jM_isRow [jm_I x1] (jm_wi σ 21 0 0 (0 : Int32))).bind fun q => jm_ev d (jm_psh (jM_drop, 9, [some (jm_R 21 0), some (jm_I x1)], [], jm_wi σ 21 0 0 (0 : Int32)) q) := (jm_un_eq [0, 9, 34] d 6 (jM_drop, 0, [some (jm_R 21 0), some (jm_I x1)], [], σ)).trans rfl
theorem gM_drop_9 (d : Nat) (σ : jm_S) (x1 xs0 : Int32) : jm_ev d (jM_drop, 9, [some (jm_R 21 0), some (jm_I x1)], [jm_I xs0], σ) = cond (decide (¬ xs0 = 0)) (cond (jm_in3 x1 8) (cond (decide (0 ≤ σ.1 22 0 x1.toNatClampNeg)) (cond (jm_in3 x1 8) (cond (jm_in3 x1 8) (some (some (jm_I (σ.1 23 0 x1.toNatClampNeg)), jm_wi (jm_wi σ 21 0 1 (0 : Int32)) 22 0 x1.toNatClampNeg (-1 : Int32))) (none)) (none)) ((jm_call d jM_finding [jm_R 21 0, jm_I (1 : Int32)] (jm_wi σ 21 0 1 (0 : Int32))).bind fun q => jm_ev d (jm_psh (jM_drop, 34, [some (jm_R 21 0), some (jm_I x1)], [], jm_wi σ 21 0 1 (0 : Int32)) q))) (none)) (some (some (jm_I (-1000001 : Int32)), σ)) := (jm_un_eq [0, 9, 34] d 20 _).trans rfl
theorem gM_drop_34 (d : Nat) (σ : jm_S) (x1 xs0 : Int32) : jm_ev d (jM_drop, 34, [some (jm_R 21 0), some (jm_I x1)], [jm_I xs0], σ) = some (some (jm_I xs0), σ) := (jm_un_eq [0, 9, 34] d 2 _).trans rfl
theorem gM_feed_0 (d : Nat) (σ : jm_S) (x1 : Int32) : jm_call (d + 1) jM_feed [jm_R 21 0, jm_I x1] σ = (jm_call d jM_in [jm_L x1.toInt64, jm_L (0 : Int64), jm_L (255 : Int64)] (jm_wi σ 21 0 0 (0 : Int32))).bind fun q => jm_ev d (jm_psh (jM_feed, 14, [some (jm_R 21 0), some (jm_I x1)], [], jm_wi σ 21 0 0 (0 : Int32)) q) := (jm_un_eq [0, 14] d 9 (jM_feed, 0, [some (jm_R 21 0), some (jm_I x1)], [], σ)).trans rfl
theorem gM_feed_14 (d : Nat) (σ : jm_S) (x1 xs0 : Int32) : jm_ev d (jM_feed, 14, [some (jm_R 21 0), some (jm_I x1)], [jm_I xs0], σ) = cond (decide (¬ xs0 = 0)) (cond (decide (¬ σ.1 21 0 11 = (80 : Int32))) (cond (jm_in3 (σ.1 21 0 11) 80) (some (some (jm_I ((σ.1 21 0 11) + (1 : Int32))), jm_wi (jm_wi σ 27 0 ((σ.1 21 0 11).toNatClampNeg) x1) 21 0 11 ((σ.1 21 0 11) + (1 : Int32)))) (none)) (some (some (jm_I (-1000003 : Int32)), σ))) (some (some (jm_I (-1000001 : Int32)), σ)) := (jm_un_eq [0, 14] d 21 _).trans rfl
theorem gM_bad_0 (d : Nat) (σ : jm_S) (x1 : Int32) : jm_call (d + 1) jM_bad [jm_R 21 0, jm_I x1] σ = cond (decide (¬ σ.1 21 0 16 = 0)) (jm_ev d (jM_bad, 20, [some (jm_R 21 0), some (jm_I x1)], [], σ)) (jm_ev d (jM_bad, 20, [some (jm_R 21 0), some (jm_I x1)], [], jm_wi (jm_wi σ 21 0 16 x1) 21 0 17 (σ.1 21 0 13))) := (jm_un_eq [0, 20] d 11 (jM_bad, 0, [some (jm_R 21 0), some (jm_I x1)], [], σ)).trans rfl
theorem gM_bad_20 (d : Nat) (σ : jm_S) (x1 : Int32) : jm_ev d (jM_bad, 20, [some (jm_R 21 0), some (jm_I x1)], [], σ) = some (none, σ) := (jm_un_eq [0, 20] d 2 _).trans rfl
theorem gM_nextToken_0 (d : Nat) (σ : jm_S) : jm_call (d + 1) jM_nextToken [jm_R 21 0] σ = cond (decide (σ.1 21 0 11 ≤ σ.1 21 0 12)) (jm_ev d (jM_nextToken, 34, [some (jm_R 21 0)], [jm_I (-1000000 : Int32), jm_R 21 0], jm_wi σ 21 0 13 (σ.1 21 0 12))) (cond (jm_in3 (σ.1 21 0 12) 80) (jm_ev d (jM_nextToken, 34, [some (jm_R 21 0)], [jm_I (σ.1 27 0 ((σ.1 21 0 12).toNatClampNeg)), jm_R 21 0], jm_wi σ 21 0 13 (σ.1 21 0 12))) (none)) := (jm_un_eq [0, 34, 67, 88, 113, 118, 142, 165, 195, 239, 255, 274, 277] d 17 (jM_nextToken, 0, [some (jm_R 21 0)], [], σ)).trans rfl
theorem gM_nextToken_34 (d : Nat) (σ : jm_S) (xs0 : Int32) : jm_ev d (jM_nextToken, 34, [some (jm_R 21 0)], [jm_I xs0, jm_R 21 0], σ) = cond (decide (¬ σ.1 21 0 12 = σ.1 21 0 11)) ((jm_call d jM_in [jm_L xs0.toInt64, jm_L (97 : Int64), jm_L (122 : Int64)] (jm_wi σ 21 0 15 xs0)).bind fun q => jm_ev d (jm_psh (jM_nextToken, 67, [some (jm_R 21 0)], [jm_R 21 0], jm_wi σ 21 0 15 xs0) q)) (jm_ev d (jM_nextToken, 118, [some (jm_R 21 0)], [jm_I (1 : Int32), jm_R 21 0], jm_wi σ 21 0 15 xs0)) := (jm_un_eq [0, 34, 67, 88, 113, 118, 142, 165, 195, 239, 255, 274, 277] d 14 _).trans rfl
theorem gM_nextToken_67 (d : Nat) (σ : jm_S) (xs0 : Int32) : jm_ev d (jM_nextToken, 67, [some (jm_R 21 0)], [jm_I xs0, jm_R 21 0], σ) = cond (decide (xs0 = 0)) ((jm_call d jM_in [jm_L ((σ.1 21 0 15).toInt64), jm_L (48 : Int64), jm_L (57 : Int64)] σ).bind fun q => jm_ev d (jm_psh (jM_nextToken, 88, [some (jm_R 21 0)], [jm_R 21 0], σ) q)) (jm_ev d (jM_nextToken, 118, [some (jm_R 21 0)], [jm_I (2 : Int32), jm_R 21 0], σ)) := (jm_un_eq [0, 34, 67, 88, 113, 118, 142, 165, 195, 239, 255, 274, 277] d 8 _).trans rfl
theorem gM_nextToken_88 (d : Nat) (σ : jm_S) (xs0 : Int32) : jm_ev d (jM_nextToken, 88, [some (jm_R 21 0)], [jm_I xs0, jm_R 21 0], σ) = cond (decide (xs0 = 0)) (cond (decide (σ.1 21 0 15 = (44 : Int32))) (jm_ev d (jM_nextToken, 113, [some (jm_R 21 0)], [jm_R 21 0], σ)) (cond (decide (¬ σ.1 21 0 15 = (59 : Int32))) (jm_ev d (jM_nextToken, 118, [some (jm_R 21 0)], [jm_I (0 : Int32), jm_R 21 0], σ)) (jm_ev d (jM_nextToken, 113, [some (jm_R 21 0)], [jm_R 21 0], σ)))) (jm_ev d (jM_nextToken, 118, [some (jm_R 21 0)], [jm_I (3 : Int32), jm_R 21 0], σ)) := (jm_un_eq [0, 34, 67, 88, 113, 118, 142, 165, 195, 239, 255, 274, 277] d 11 _).trans rfl
theorem gM_nextToken_113 (d : Nat) (σ : jm_S) : jm_ev d (jM_nextToken, 113, [some (jm_R 21 0)], [jm_R 21 0], σ) = jm_ev d (jM_nextToken, 118, [some (jm_R 21 0)], [jm_I (4 : Int32), jm_R 21 0], σ) := (jm_un_eq [0, 34, 67, 88, 113, 118, 142, 165, 195, 239, 255, 274, 277] d 3 _).trans rfl
theorem gM_nextToken_118 (d : Nat) (σ : jm_S) (xs0 : Int32) : jm_ev d (jM_nextToken, 118, [some (jm_R 21 0)], [jm_I xs0, jm_R 21 0], σ) = cond (decide (σ.1 21 0 11 ≤ σ.1 21 0 12)) (jm_ev d (jM_nextToken, 142, [some (jm_R 21 0)], [jm_I (0 : Int32), jm_I (σ.1 21 0 12), jm_R 21 0], jm_wi σ 21 0 14 xs0)) (jm_ev d (jM_nextToken, 142, [some (jm_R 21 0)], [jm_I (1 : Int32), jm_I (σ.1 21 0 12), jm_R 21 0], jm_wi σ 21 0 14 xs0)) := (jm_un_eq [0, 34, 67, 88, 113, 118, 142, 165, 195, 239, 255, 274, 277] d 12 _).trans rfl
theorem gM_nextToken_142 (d : Nat) (σ : jm_S) (xs0 xs1 : Int32) : jm_ev d (jM_nextToken, 142, [some (jm_R 21 0)], [jm_I xs0, jm_I xs1, jm_R 21 0], σ) = cond (decide (¬ σ.1 21 0 14 = (3 : Int32))) (jm_ev d (jM_nextToken, 277, [some (jm_R 21 0)], [], jm_wi σ 21 0 12 (xs1 + xs0))) (jm_ev d (jM_nextToken, 165, [some (jm_R 21 0)], [], jm_wi (jm_wi σ 21 0 12 (xs1 + xs0)) 21 0 15 ((σ.1 21 0 15) - (48 : Int32)))) := (jm_un_eq [0, 34, 67, 88, 113, 118, 142, 165, 195, 239, 255, 274, 277] d 13 _).trans rfl
theorem gM_nextToken_165 (d : Nat) (σ : jm_S) : jm_ev d (jM_nextToken, 165, [some (jm_R 21 0)], [], σ) = cond (decide (σ.1 21 0 11 ≤ σ.1 21 0 12)) (jm_ev d (jM_nextToken, 255, [some (jm_R 21 0)], [], σ)) (cond (jm_in3 (σ.1 21 0 12) 80) ((jm_call d jM_in [jm_L ((σ.1 27 0 ((σ.1 21 0 12).toNatClampNeg)).toInt64), jm_L (48 : Int64), jm_L (57 : Int64)] σ).bind fun q => jm_ev d (jm_psh (jM_nextToken, 195, [some (jm_R 21 0)], [], σ) q)) (none)) := (jm_un_eq [0, 34, 67, 88, 113, 118, 142, 165, 195, 239, 255, 274, 277] d 15 _).trans rfl
theorem gM_nextToken_195 (d : Nat) (σ : jm_S) (xs0 : Int32) : jm_ev d (jM_nextToken, 195, [some (jm_R 21 0)], [jm_I xs0], σ) = cond (decide (xs0 = 0)) (jm_ev d (jM_nextToken, 255, [some (jm_R 21 0)], [], σ)) (cond (decide ((2 : Int32) ≤ (σ.1 21 0 12) - (σ.1 21 0 13))) (jm_ev d (jM_nextToken, 239, [some (jm_R 21 0)], [jm_I (σ.1 21 0 15), jm_R 21 0], σ)) (cond (jm_in3 (σ.1 21 0 12) 80) (jm_ev d (jM_nextToken, 239, [some (jm_R 21 0)], [jm_I ((((10 : Int32) * (σ.1 21 0 15)) + (σ.1 27 0 ((σ.1 21 0 12).toNatClampNeg))) - (48 : Int32)), jm_R 21 0], σ)) (none))) := (jm_un_eq [0, 34, 67, 88, 113, 118, 142, 165, 195, 239, 255, 274, 277] d 23 _).trans rfl
theorem gM_nextToken_239 (d : Nat) (σ : jm_S) (xs0 : Int32) : jm_ev d (jM_nextToken, 239, [some (jm_R 21 0)], [jm_I xs0, jm_R 21 0], σ) = jm_ev d (jM_nextToken, 165, [some (jm_R 21 0)], [], jm_wi (jm_wi σ 21 0 15 xs0) 21 0 12 ((σ.1 21 0 12) + (1 : Int32))) := (jm_un_eq [0, 34, 67, 88, 113, 118, 142, 165, 195, 239, 255, 274, 277] d 9 _).trans rfl
theorem gM_nextToken_255 (d : Nat) (σ : jm_S) : jm_ev d (jM_nextToken, 255, [some (jm_R 21 0)], [], σ) = cond (decide ((σ.1 21 0 12) - (σ.1 21 0 13) ≤ (2 : Int32))) (jm_ev d (jM_nextToken, 274, [some (jm_R 21 0)], [jm_I (3 : Int32), jm_R 21 0], σ)) (jm_ev d (jM_nextToken, 274, [some (jm_R 21 0)], [jm_I (0 : Int32), jm_R 21 0], σ)) := (jm_un_eq [0, 34, 67, 88, 113, 118, 142, 165, 195, 239, 255, 274, 277] d 11 _).trans rfl
theorem gM_nextToken_274 (d : Nat) (σ : jm_S) (xs0 : Int32) : jm_ev d (jM_nextToken, 274, [some (jm_R 21 0)], [jm_I xs0, jm_R 21 0], σ) = jm_ev d (jM_nextToken, 277, [some (jm_R 21 0)], [], jm_wi σ 21 0 14 xs0) := (jm_un_eq [0, 34, 67, 88, 113, 118, 142, 165, 195, 239, 255, 274, 277] d 2 _).trans rfl
theorem gM_nextToken_277 (d : Nat) (σ : jm_S) : jm_ev d (jM_nextToken, 277, [some (jm_R 21 0)], [], σ) = some (none, σ) := (jm_un_eq [0, 34, 67, 88, 113, 118, 142, 165, 195, 239, 255, 274, 277] d 2 _).trans rfl
theorem gM_must_0 (d : Nat) (σ : jm_S) (x1 : Int32) : jm_call (d + 1) jM_must [jm_R 21 0, jm_I x1] σ = cond (decide (¬ x1 = 0)) (jm_ev d (jM_must, 9, [some (jm_R 21 0), some (jm_I x1)], [], σ)) ((jm_call d jM_bad [jm_R 21 0, jm_I (1 : Int32)] σ).bind fun q => jm_ev d (jm_psh (jM_must, 9, [some (jm_R 21 0), some (jm_I x1)], [], σ) q)) := (jm_un_eq [0, 9, 20] d 6 (jM_must, 0, [some (jm_R 21 0), some (jm_I x1)], [], σ)).trans rfl
theorem gM_must_9 (d : Nat) (σ : jm_S) (x1 : Int32) : jm_ev d (jM_must, 9, [some (jm_R 21 0), some (jm_I x1)], [], σ) = cond (decide (¬ σ.1 21 0 16 = 0)) (jm_ev d (jM_must, 20, [some (jm_R 21 0), some (jm_I x1)], [], σ)) ((jm_call d jM_nextToken [jm_R 21 0] σ).bind fun q => jm_ev d (jm_psh (jM_must, 20, [some (jm_R 21 0), some (jm_I x1)], [], σ) q)) := (jm_un_eq [0, 9, 20] d 6 _).trans rfl
theorem gM_must_20 (d : Nat) (σ : jm_S) (x1 : Int32) : jm_ev d (jM_must, 20, [some (jm_R 21 0), some (jm_I x1)], [], σ) = some (none, σ) := (jm_un_eq [0, 9, 20] d 2 _).trans rfl
theorem gM_isLetter_0 (d : Nat) (σ : jm_S) (x1 : Int32) : jm_call (d + 1) jM_isLetter [jm_R 21 0, jm_I x1] σ = cond (decide (¬ σ.1 21 0 16 = 0)) (jm_ev d (jM_isLetter, 27, [some (jm_R 21 0), some (jm_I x1)], [], σ)) (cond (decide (¬ σ.1 21 0 14 = (2 : Int32))) (jm_ev d (jM_isLetter, 27, [some (jm_R 21 0), some (jm_I x1)], [], σ)) (cond (decide (¬ σ.1 21 0 15 = x1)) (jm_ev d (jM_isLetter, 27, [some (jm_R 21 0), some (jm_I x1)], [], σ)) (jm_ev d (jM_isLetter, 28, [some (jm_R 21 0), some (jm_I x1)], [jm_I (1 : Int32)], σ)))) := (jm_un_eq [0, 27, 28] d 14 (jM_isLetter, 0, [some (jm_R 21 0), some (jm_I x1)], [], σ)).trans rfl
theorem gM_isLetter_27 (d : Nat) (σ : jm_S) (x1 : Int32) : jm_ev d (jM_isLetter, 27, [some (jm_R 21 0), some (jm_I x1)], [], σ) = jm_ev d (jM_isLetter, 28, [some (jm_R 21 0), some (jm_I x1)], [jm_I (0 : Int32)], σ) := (jm_un_eq [0, 27, 28] d 2 _).trans rfl
theorem gM_isLetter_28 (d : Nat) (σ : jm_S) (x1 xs0 : Int32) : jm_ev d (jM_isLetter, 28, [some (jm_R 21 0), some (jm_I x1)], [jm_I xs0], σ) = cond (jm_b01 xs0) (some (some (jm_I xs0), σ)) none := (jm_un_eq [0, 27, 28] d 2 _).trans rfl
theorem gM_number_0 (d : Nat) (σ : jm_S) (x1 x2 : Int32) : jm_call (d + 1) jM_number [jm_R 21 0, jm_I x1, jm_I x2] σ = cond (decide (¬ σ.1 21 0 16 = 0)) (jm_ev d (jM_number, 20, [some (jm_R 21 0), some (jm_I x1), some (jm_I x2), none], [], σ)) (cond (decide (σ.1 21 0 14 = (3 : Int32))) (jm_ev d (jM_number, 20, [some (jm_R 21 0), some (jm_I x1), some (jm_I x2), none], [], σ)) ((jm_call d jM_bad [jm_R 21 0, jm_I (1 : Int32)] σ).bind fun q => jm_ev d (jm_psh (jM_number, 20, [some (jm_R 21 0), some (jm_I x1), some (jm_I x2), none], [], σ) q))) := (jm_un_eq [0, 20, 39, 47, 62, 68] d 11 (jM_number, 0, [some (jm_R 21 0), some (jm_I x1), some (jm_I x2), none], [], σ)).trans rfl
theorem gM_number_20 (d : Nat) (σ : jm_S) (x1 x2 : Int32) : jm_ev d (jM_number, 20, [some (jm_R 21 0), some (jm_I x1), some (jm_I x2), none], [], σ) = cond (decide (¬ σ.1 21 0 16 = 0)) (jm_ev d (jM_number, 47, [some (jm_R 21 0), some (jm_I x1), some (jm_I x2), none], [], σ)) ((jm_call d jM_in [jm_L ((σ.1 21 0 15).toInt64), jm_L x1.toInt64, jm_L x2.toInt64] σ).bind fun q => jm_ev d (jm_psh (jM_number, 39, [some (jm_R 21 0), some (jm_I x1), some (jm_I x2), none], [], σ) q)) := (jm_un_eq [0, 20, 39, 47, 62, 68] d 12 _).trans rfl
theorem gM_number_39 (d : Nat) (σ : jm_S) (x1 x2 xs0 : Int32) : jm_ev d (jM_number, 39, [some (jm_R 21 0), some (jm_I x1), some (jm_I x2), none], [jm_I xs0], σ) = cond (decide (¬ xs0 = 0)) (jm_ev d (jM_number, 47, [some (jm_R 21 0), some (jm_I x1), some (jm_I x2), none], [], σ)) ((jm_call d jM_bad [jm_R 21 0, jm_I (2 : Int32)] σ).bind fun q => jm_ev d (jm_psh (jM_number, 47, [some (jm_R 21 0), some (jm_I x1), some (jm_I x2), none], [], σ) q)) := (jm_un_eq [0, 20, 39, 47, 62, 68] d 5 _).trans rfl
theorem gM_number_47 (d : Nat) (σ : jm_S) (x1 x2 : Int32) : jm_ev d (jM_number, 47, [some (jm_R 21 0), some (jm_I x1), some (jm_I x2), none], [], σ) = cond (decide (¬ σ.1 21 0 16 = 0)) (jm_ev d (jM_number, 62, [some (jm_R 21 0), some (jm_I x1), some (jm_I x2), none], [jm_I x1], σ)) (jm_ev d (jM_number, 62, [some (jm_R 21 0), some (jm_I x1), some (jm_I x2), none], [jm_I (σ.1 21 0 15)], σ)) := (jm_un_eq [0, 20, 39, 47, 62, 68] d 7 _).trans rfl
theorem gM_number_62 (d : Nat) (σ : jm_S) (x1 x2 xs0 : Int32) : jm_ev d (jM_number, 62, [some (jm_R 21 0), some (jm_I x1), some (jm_I x2), none], [jm_I xs0], σ) = (jm_call d jM_must [jm_R 21 0, jm_I (1 : Int32)] σ).bind fun q => jm_ev d (jm_psh (jM_number, 68, [some (jm_R 21 0), some (jm_I x1), some (jm_I x2), some (jm_I xs0)], [], σ) q) := (jm_un_eq [0, 20, 39, 47, 62, 68] d 5 _).trans rfl
theorem gM_number_68 (d : Nat) (σ : jm_S) (x1 x2 x3 : Int32) : jm_ev d (jM_number, 68, [some (jm_R 21 0), some (jm_I x1), some (jm_I x2), some (jm_I x3)], [], σ) = some (some (jm_I x3), σ) := (jm_un_eq [0, 20, 39, 47, 62, 68] d 3 _).trans rfl
theorem gM_mustSign_0 (d : Nat) (σ : jm_S) (x1 : Int32) : jm_call (d + 1) jM_mustSign [jm_R 21 0, jm_I x1] σ = cond (decide (¬ σ.1 21 0 14 = (4 : Int32))) (jm_ev d (jM_mustSign, 21, [some (jm_R 21 0), some (jm_I x1)], [jm_R 21 0], σ)) (cond (decide (¬ σ.1 21 0 15 = x1)) (jm_ev d (jM_mustSign, 21, [some (jm_R 21 0), some (jm_I x1)], [jm_R 21 0], σ)) (jm_ev d (jM_mustSign, 22, [some (jm_R 21 0), some (jm_I x1)], [jm_I (1 : Int32), jm_R 21 0], σ))) := (jm_un_eq [0, 21, 22, 25] d 12 (jM_mustSign, 0, [some (jm_R 21 0), some (jm_I x1)], [], σ)).trans rfl
theorem gM_mustSign_21 (d : Nat) (σ : jm_S) (x1 : Int32) : jm_ev d (jM_mustSign, 21, [some (jm_R 21 0), some (jm_I x1)], [jm_R 21 0], σ) = jm_ev d (jM_mustSign, 22, [some (jm_R 21 0), some (jm_I x1)], [jm_I (0 : Int32), jm_R 21 0], σ) := (jm_un_eq [0, 21, 22, 25] d 2 _).trans rfl
theorem gM_mustSign_22 (d : Nat) (σ : jm_S) (x1 xs0 : Int32) : jm_ev d (jM_mustSign, 22, [some (jm_R 21 0), some (jm_I x1)], [jm_I xs0, jm_R 21 0], σ) = (jm_call d jM_must [jm_R 21 0, jm_I xs0] σ).bind fun q => jm_ev d (jm_psh (jM_mustSign, 25, [some (jm_R 21 0), some (jm_I x1)], [], σ) q) := (jm_un_eq [0, 21, 22, 25] d 2 _).trans rfl
theorem gM_mustSign_25 (d : Nat) (σ : jm_S) (x1 : Int32) : jm_ev d (jM_mustSign, 25, [some (jm_R 21 0), some (jm_I x1)], [], σ) = some (none, σ) := (jm_un_eq [0, 21, 22, 25] d 2 _).trans rfl
theorem gM_begin_0 (d : Nat) (σ : jm_S) : jm_call (d + 1) jM_begin [jm_R 21 0] σ = (jm_call d jM_nextToken [jm_R 21 0] (jm_wi (jm_wi σ 21 0 12 (0 : Int32)) 21 0 16 (0 : Int32))).bind fun q => jm_ev d (jm_psh (jM_begin, 14, [some (jm_R 21 0)], [], jm_wi (jm_wi σ 21 0 12 (0 : Int32)) 21 0 16 (0 : Int32)) q) := (jm_un_eq [0, 14] d 9 (jM_begin, 0, [some (jm_R 21 0)], [], σ)).trans rfl
theorem gM_begin_14 (d : Nat) (σ : jm_S) : jm_ev d (jM_begin, 14, [some (jm_R 21 0)], [], σ) = some (none, σ) := (jm_un_eq [0, 14] d 2 _).trans rfl
theorem gM_failed_0 (d : Nat) (σ : jm_S) : jm_call (d + 1) jM_failed [jm_R 21 0] σ = cond (decide (¬ σ.1 21 0 16 = 0)) (jm_ev d (jM_failed, 20, [some (jm_R 21 0)], [], σ)) (cond (decide (σ.1 21 0 14 = (1 : Int32))) (jm_ev d (jM_failed, 20, [some (jm_R 21 0)], [], σ)) ((jm_call d jM_bad [jm_R 21 0, jm_I (1 : Int32)] σ).bind fun q => jm_ev d (jm_psh (jM_failed, 20, [some (jm_R 21 0)], [], σ) q))) := (jm_un_eq [0, 20, 44, 59] d 11 (jM_failed, 0, [some (jm_R 21 0)], [], σ)).trans rfl
theorem gM_failed_20 (d : Nat) (σ : jm_S) : jm_ev d (jM_failed, 20, [some (jm_R 21 0)], [], σ) = cond (decide (σ.1 21 0 16 ≤ 0)) (jm_ev d (jM_failed, 44, [some (jm_R 21 0)], [jm_I (σ.1 21 0 18), jm_R 21 0], jm_wi σ 21 0 11 (0 : Int32))) (jm_ev d (jM_failed, 44, [some (jm_R 21 0)], [jm_I (σ.1 21 0 16), jm_R 21 0], jm_wi σ 21 0 11 (0 : Int32))) := (jm_un_eq [0, 20, 44, 59] d 11 _).trans rfl
theorem gM_failed_44 (d : Nat) (σ : jm_S) (xs0 : Int32) : jm_ev d (jM_failed, 44, [some (jm_R 21 0)], [jm_I xs0, jm_R 21 0], σ) = cond (decide (σ.1 21 0 16 ≤ 0)) (jm_ev d (jM_failed, 59, [some (jm_R 21 0)], [jm_I (0 : Int32)], jm_wi σ 21 0 18 xs0)) (jm_ev d (jM_failed, 59, [some (jm_R 21 0)], [jm_I (1 : Int32)], jm_wi σ 21 0 18 xs0)) := (jm_un_eq [0, 20, 44, 59] d 7 _).trans rfl
theorem gM_failed_59 (d : Nat) (σ : jm_S) (xs0 : Int32) : jm_ev d (jM_failed, 59, [some (jm_R 21 0)], [jm_I xs0], σ) = cond (jm_b01 xs0) (some (some (jm_I xs0), σ)) none := (jm_un_eq [0, 20, 44, 59] d 2 _).trans rfl
theorem gM_fault_0 (d : Nat) (σ : jm_S) : jm_call (d + 1) jM_fault [jm_R 21 0] σ = some (some (jm_I (σ.1 21 0 18)), jm_wi σ 21 0 0 (0 : Int32)) := (jm_un_eq [0] d 7 (jM_fault, 0, [some (jm_R 21 0)], [], σ)).trans rfl
theorem gM_kindBy_0 (d : Nat) (σ : jm_S) (x0 : Int32) : jm_call (d + 1) jM_kindBy [jm_I x0] σ = cond (decide (¬ x0 = (112 : Int32))) (cond (decide (¬ x0 = (103 : Int32))) (cond (decide (¬ x0 = (119 : Int32))) (cond (decide (¬ x0 = (116 : Int32))) (cond (decide (¬ x0 = (115 : Int32))) (jm_ev d (jM_kindBy, 52, [some (jm_I x0)], [jm_I (-1000000 : Int32)], σ)) (jm_ev d (jM_kindBy, 52, [some (jm_I x0)], [jm_I (5 : Int32)], σ))) (jm_ev d (jM_kindBy, 52, [some (jm_I x0)], [jm_I (4 : Int32)], σ))) (jm_ev d (jM_kindBy, 52, [some (jm_I x0)], [jm_I (3 : Int32)], σ))) (jm_ev d (jM_kindBy, 52, [some (jm_I x0)], [jm_I (2 : Int32)], σ))) (jm_ev d (jM_kindBy, 52, [some (jm_I x0)], [jm_I (1 : Int32)], σ)) := (jm_un_eq [0, 52] d 18 (jM_kindBy, 0, [some (jm_I x0)], [], σ)).trans rfl
theorem gM_kindBy_52 (d : Nat) (σ : jm_S) (x0 xs0 : Int32) : jm_ev d (jM_kindBy, 52, [some (jm_I x0)], [jm_I xs0], σ) = some (some (jm_I xs0), σ) := (jm_un_eq [0, 52] d 2 _).trans rfl
theorem gM_isSort_0 (d : Nat) (σ : jm_S) : jm_call (d + 1) jM_isSort [jm_R 21 0] σ = cond (decide (¬ σ.1 21 0 16 = 0)) (jm_ev d (jM_isSort, 31, [some (jm_R 21 0)], [], σ)) (cond (decide (¬ σ.1 21 0 14 = (2 : Int32))) (jm_ev d (jM_isSort, 31, [some (jm_R 21 0)], [], σ)) ((jm_call d jM_kindBy [jm_I (σ.1 21 0 15)] σ).bind fun q => jm_ev d (jm_psh (jM_isSort, 22, [some (jm_R 21 0)], [], σ) q))) := (jm_un_eq [0, 22, 31, 32] d 11 (jM_isSort, 0, [some (jm_R 21 0)], [], σ)).trans rfl
theorem gM_isSort_22 (d : Nat) (σ : jm_S) (xs0 : Int32) : jm_ev d (jM_isSort, 22, [some (jm_R 21 0)], [jm_I xs0], σ) = cond (decide (xs0 = (-1000000 : Int32))) (jm_ev d (jM_isSort, 31, [some (jm_R 21 0)], [], σ)) (jm_ev d (jM_isSort, 32, [some (jm_R 21 0)], [jm_I (1 : Int32)], σ)) := (jm_un_eq [0, 22, 31, 32] d 5 _).trans rfl
theorem gM_isSort_31 (d : Nat) (σ : jm_S) : jm_ev d (jM_isSort, 31, [some (jm_R 21 0)], [], σ) = jm_ev d (jM_isSort, 32, [some (jm_R 21 0)], [jm_I (0 : Int32)], σ) := (jm_un_eq [0, 22, 31, 32] d 2 _).trans rfl
theorem gM_isSort_32 (d : Nat) (σ : jm_S) (xs0 : Int32) : jm_ev d (jM_isSort, 32, [some (jm_R 21 0)], [jm_I xs0], σ) = cond (jm_b01 xs0) (some (some (jm_I xs0), σ)) none := (jm_un_eq [0, 22, 31, 32] d 2 _).trans rfl
theorem gM_readDisc_0 (d : Nat) (σ : jm_S) : jm_call (d + 1) jM_readDisc [jm_R 21 0] σ = (jm_call d jM_kindBy [jm_I (σ.1 21 0 15)] σ).bind fun q => jm_ev d (jm_psh (jM_readDisc, 7, [some (jm_R 21 0), none, none, none, none, none], [], σ) q) := (jm_un_eq [0, 7, 24, 29, 35, 42, 49, 56, 63, 71, 141] d 4 (jM_readDisc, 0, [some (jm_R 21 0), none, none, none, none, none], [], σ)).trans rfl
theorem gM_readDisc_7 (d : Nat) (σ : jm_S) (xs0 : Int32) : jm_ev d (jM_readDisc, 7, [some (jm_R 21 0), none, none, none, none, none], [jm_I xs0], σ) = cond (decide (¬ σ.1 25 1 0 = (6 : Int32))) (jm_ev d (jM_readDisc, 24, [some (jm_R 21 0), some (jm_I xs0), none, none, none, none], [], σ)) ((jm_call d jM_bad [jm_R 21 0, jm_I (3 : Int32)] σ).bind fun q => jm_ev d (jm_psh (jM_readDisc, 24, [some (jm_R 21 0), some (jm_I xs0), none, none, none, none], [], σ) q)) := (jm_un_eq [0, 7, 24, 29, 35, 42, 49, 56, 63, 71, 141] d 11 _).trans rfl
theorem gM_readDisc_24 (d : Nat) (σ : jm_S) (x1 : Int32) : jm_ev d (jM_readDisc, 24, [some (jm_R 21 0), some (jm_I x1), none, none, none, none], [], σ) = (jm_call d jM_must [jm_R 21 0, jm_I (1 : Int32)] σ).bind fun q => jm_ev d (jm_psh (jM_readDisc, 29, [some (jm_R 21 0), some (jm_I x1), none, none, none, none], [], σ) q) := (jm_un_eq [0, 7, 24, 29, 35, 42, 49, 56, 63, 71, 141] d 4 _).trans rfl
theorem gM_readDisc_29 (d : Nat) (σ : jm_S) (x1 : Int32) : jm_ev d (jM_readDisc, 29, [some (jm_R 21 0), some (jm_I x1), none, none, none, none], [], σ) = (jm_call d jM_number [jm_R 21 0, jm_I (1 : Int32), jm_I (5 : Int32)] σ).bind fun q => jm_ev d (jm_psh (jM_readDisc, 35, [some (jm_R 21 0), some (jm_I x1), none, none, none, none], [], σ) q) := (jm_un_eq [0, 7, 24, 29, 35, 42, 49, 56, 63, 71, 141] d 5 _).trans rfl
theorem gM_readDisc_35 (d : Nat) (σ : jm_S) (x1 xs0 : Int32) : jm_ev d (jM_readDisc, 35, [some (jm_R 21 0), some (jm_I x1), none, none, none, none], [jm_I xs0], σ) = (jm_call d jM_mustSign [jm_R 21 0, jm_I (44 : Int32)] σ).bind fun q => jm_ev d (jm_psh (jM_readDisc, 42, [some (jm_R 21 0), some (jm_I x1), some (jm_I xs0), none, none, none], [], σ) q) := (jm_un_eq [0, 7, 24, 29, 35, 42, 49, 56, 63, 71, 141] d 5 _).trans rfl
theorem gM_readDisc_42 (d : Nat) (σ : jm_S) (x1 x2 : Int32) : jm_ev d (jM_readDisc, 42, [some (jm_R 21 0), some (jm_I x1), some (jm_I x2), none, none, none], [], σ) = (jm_call d jM_number [jm_R 21 0, jm_I (0 : Int32), jm_I (40 : Int32)] σ).bind fun q => jm_ev d (jm_psh (jM_readDisc, 49, [some (jm_R 21 0), some (jm_I x1), some (jm_I x2), none, none, none], [], σ) q) := (jm_un_eq [0, 7, 24, 29, 35, 42, 49, 56, 63, 71, 141] d 5 _).trans rfl
theorem gM_readDisc_49 (d : Nat) (σ : jm_S) (x1 x2 xs0 : Int32) : jm_ev d (jM_readDisc, 49, [some (jm_R 21 0), some (jm_I x1), some (jm_I x2), none, none, none], [jm_I xs0], σ) = (jm_call d jM_mustSign [jm_R 21 0, jm_I (44 : Int32)] σ).bind fun q => jm_ev d (jm_psh (jM_readDisc, 56, [some (jm_R 21 0), some (jm_I x1), some (jm_I x2), some (jm_I xs0), none, none], [], σ) q) := (jm_un_eq [0, 7, 24, 29, 35, 42, 49, 56, 63, 71, 141] d 5 _).trans rfl
theorem gM_readDisc_56 (d : Nat) (σ : jm_S) (x1 x2 x3 : Int32) : jm_ev d (jM_readDisc, 56, [some (jm_R 21 0), some (jm_I x1), some (jm_I x2), some (jm_I x3), none, none], [], σ) = (jm_call d jM_number [jm_R 21 0, jm_I (0 : Int32), jm_I (9 : Int32)] σ).bind fun q => jm_ev d (jm_psh (jM_readDisc, 63, [some (jm_R 21 0), some (jm_I x1), some (jm_I x2), some (jm_I x3), none, none], [], σ) q) := (jm_un_eq [0, 7, 24, 29, 35, 42, 49, 56, 63, 71, 141] d 5 _).trans rfl
theorem gM_readDisc_63 (d : Nat) (σ : jm_S) (x1 x2 x3 xs0 : Int32) : jm_ev d (jM_readDisc, 63, [some (jm_R 21 0), some (jm_I x1), some (jm_I x2), some (jm_I x3), none, none], [jm_I xs0], σ) = (jm_call d jM_mustSign [jm_R 21 0, jm_I (59 : Int32)] σ).bind fun q => jm_ev d (jm_psh (jM_readDisc, 71, [some (jm_R 21 0), some (jm_I x1), some (jm_I x2), some (jm_I x3), some (jm_I xs0), none], [], σ) q) := (jm_un_eq [0, 7, 24, 29, 35, 42, 49, 56, 63, 71, 141] d 5 _).trans rfl
theorem gM_readDisc_71 (d : Nat) (σ : jm_S) (x1 x2 x3 x4 : Int32) : jm_ev d (jM_readDisc, 71, [some (jm_R 21 0), some (jm_I x1), some (jm_I x2), some (jm_I x3), some (jm_I x4), none], [], σ) = cond (decide (¬ σ.1 21 0 16 = 0)) (jm_ev d (jM_readDisc, 141, [some (jm_R 21 0), some (jm_I x1), some (jm_I x2), some (jm_I x3), some (jm_I x4), none], [], σ)) (cond (jm_in3 (((2 : Int32) + ((4 : Int32) * (σ.1 25 1 0))) + (0 : Int32)) 26) (cond (jm_in3 (((2 : Int32) + ((4 : Int32) * (σ.1 25 1 0))) + (1 : Int32)) 26) (cond (jm_in3 (((2 : Int32) + ((4 : Int32) * (σ.1 25 1 0))) + (2 : Int32)) 26) (cond (jm_in3 (((2 : Int32) + ((4 : Int32) * (σ.1 25 1 0))) + (3 : Int32)) 26) (jm_ev d (jM_readDisc, 141, [some (jm_R 21 0), some (jm_I x1), some (jm_I x2), some (jm_I x3), some (jm_I x4), some (jm_I ((2 : Int32) + ((4 : Int32) * (σ.1 25 1 0))))], [], jm_wi (jm_wi (jm_wi (jm_wi (jm_wi σ 25 1 ((((2 : Int32) + ((4 : Int32) * (σ.1 25 1 0))) + (0 : Int32)).toNatClampNeg) x1) 25 1 ((((2 : Int32) + ((4 : Int32) * (σ.1 25 1 0))) + (1 : Int32)).toNatClampNeg) x2) 25 1 ((((2 : Int32) + ((4 : Int32) * (σ.1 25 1 0))) + (2 : Int32)).toNatClampNeg) x3) 25 1 ((((2 : Int32) + ((4 : Int32) * (σ.1 25 1 0))) + (3 : Int32)).toNatClampNeg) x4) 25 1 0 (((jm_wi (jm_wi (jm_wi (jm_wi σ 25 1 ((((2 : Int32) + ((4 : Int32) * (σ.1 25 1 0))) + (0 : Int32)).toNatClampNeg) x1) 25 1 ((((2 : Int32) + ((4 : Int32) * (σ.1 25 1 0))) + (1 : Int32)).toNatClampNeg) x2) 25 1 ((((2 : Int32) + ((4 : Int32) * (σ.1 25 1 0))) + (2 : Int32)).toNatClampNeg) x3) 25 1 ((((2 : Int32) + ((4 : Int32) * (σ.1 25 1 0))) + (3 : Int32)).toNatClampNeg) x4).1 25 1 0) + (1 : Int32)))) (none)) (none)) (none)) (none)) := (jm_un_eq [0, 7, 24, 29, 35, 42, 49, 56, 63, 71, 141] d 49 _).trans rfl
theorem gM_readDisc_141 (d : Nat) (σ : jm_S) (x1 x2 x3 x4 : Int32) (o5 : Option jm_V) : jm_ev d (jM_readDisc, 141, [some (jm_R 21 0), some (jm_I x1), some (jm_I x2), some (jm_I x3), some (jm_I x4), o5], [], σ) = some (none, σ) := (jm_un_eq [0, 7, 24, 29, 35, 42, 49, 56, 63, 71, 141] d 2 _).trans rfl
theorem gM_shaft_0 (d : Nat) (σ : jm_S) : jm_call (d + 1) jM_shaft [jm_R 21 0] σ = (jm_call d jM_begin [jm_R 21 0] (jm_wi σ 21 0 0 (0 : Int32))).bind fun q => jm_ev d (jm_psh (jM_shaft, 9, [some (jm_R 21 0), none, none], [], jm_wi σ 21 0 0 (0 : Int32)) q) := (jm_un_eq [0, 9, 11, 37, 40, 47, 54, 77, 80, 88, 90, 99, 107, 114, 120, 124, 131, 138, 156] d 6 (jM_shaft, 0, [some (jm_R 21 0), none, none], [], σ)).trans rfl
theorem gM_shaft_9 (d : Nat) (σ : jm_S) : jm_ev d (jM_shaft, 9, [some (jm_R 21 0), none, none], [], σ) = jm_ev d (jM_shaft, 11, [some (jm_R 21 0), some (jm_I (0 : Int32)), none], [], σ) := (jm_un_eq [0, 9, 11, 37, 40, 47, 54, 77, 80, 88, 90, 99, 107, 114, 120, 124, 131, 138, 156] d 3 _).trans rfl
theorem gM_shaft_11 (d : Nat) (σ : jm_S) (x1 : Int32) : jm_ev d (jM_shaft, 11, [some (jm_R 21 0), some (jm_I x1), none], [], σ) = cond (decide ((26 : Int32) ≤ x1)) ((jm_call d jM_isLetter [jm_R 21 0, jm_I (109 : Int32)] σ).bind fun q => jm_ev d (jm_psh (jM_shaft, 37, [some (jm_R 21 0), some (jm_I x1), none], [jm_R 21 0], σ) q)) (cond (jm_in3 x1 26) (jm_ev d (jM_shaft, 11, [some (jm_R 21 0), some (jm_I (x1 + (1 : Int32))), none], [], jm_wi σ 25 1 x1.toNatClampNeg (0 : Int32))) (none)) := (jm_un_eq [0, 9, 11, 37, 40, 47, 54, 77, 80, 88, 90, 99, 107, 114, 120, 124, 131, 138, 156] d 11 _).trans rfl
theorem gM_shaft_37 (d : Nat) (σ : jm_S) (x1 xs0 : Int32) : jm_ev d (jM_shaft, 37, [some (jm_R 21 0), some (jm_I x1), none], [jm_I xs0, jm_R 21 0], σ) = (jm_call d jM_must [jm_R 21 0, jm_I xs0] σ).bind fun q => jm_ev d (jm_psh (jM_shaft, 40, [some (jm_R 21 0), some (jm_I x1), none], [], σ) q) := (jm_un_eq [0, 9, 11, 37, 40, 47, 54, 77, 80, 88, 90, 99, 107, 114, 120, 124, 131, 138, 156] d 2 _).trans rfl
theorem gM_shaft_40 (d : Nat) (σ : jm_S) (x1 : Int32) : jm_ev d (jM_shaft, 40, [some (jm_R 21 0), some (jm_I x1), none], [], σ) = (jm_call d jM_number [jm_R 21 0, jm_I (0 : Int32), jm_I (20 : Int32)] σ).bind fun q => jm_ev d (jm_psh (jM_shaft, 47, [some (jm_R 21 0), some (jm_I x1), none], [], σ) q) := (jm_un_eq [0, 9, 11, 37, 40, 47, 54, 77, 80, 88, 90, 99, 107, 114, 120, 124, 131, 138, 156] d 5 _).trans rfl
theorem gM_shaft_47 (d : Nat) (σ : jm_S) (x1 xs0 : Int32) : jm_ev d (jM_shaft, 47, [some (jm_R 21 0), some (jm_I x1), none], [jm_I xs0], σ) = (jm_call d jM_mustSign [jm_R 21 0, jm_I (44 : Int32)] σ).bind fun q => jm_ev d (jm_psh (jM_shaft, 54, [some (jm_R 21 0), some (jm_I xs0), none], [], σ) q) := (jm_un_eq [0, 9, 11, 37, 40, 47, 54, 77, 80, 88, 90, 99, 107, 114, 120, 124, 131, 138, 156] d 5 _).trans rfl
theorem gM_shaft_54 (d : Nat) (σ : jm_S) (x1 : Int32) : jm_ev d (jM_shaft, 54, [some (jm_R 21 0), some (jm_I x1), none], [], σ) = cond (decide (¬ x1 = (20 : Int32))) (jm_ev d (jM_shaft, 77, [some (jm_R 21 0), some (jm_I x1), none], [jm_I (9 : Int32), jm_I (0 : Int32), jm_R 21 0, jm_I ((10 : Int32) * x1), jm_I (1 : Int32), jm_R 25 1], σ)) (jm_ev d (jM_shaft, 77, [some (jm_R 21 0), some (jm_I x1), none], [jm_I (0 : Int32), jm_I (0 : Int32), jm_R 21 0, jm_I ((10 : Int32) * x1), jm_I (1 : Int32), jm_R 25 1], σ)) := (jm_un_eq [0, 9, 11, 37, 40, 47, 54, 77, 80, 88, 90, 99, 107, 114, 120, 124, 131, 138, 156] d 14 _).trans rfl
theorem gM_shaft_77 (d : Nat) (σ : jm_S) (x1 xs0 xs1 xs3 xs4 : Int32) : jm_ev d (jM_shaft, 77, [some (jm_R 21 0), some (jm_I x1), none], [jm_I xs0, jm_I xs1, jm_R 21 0, jm_I xs3, jm_I xs4, jm_R 25 1], σ) = (jm_call d jM_number [jm_R 21 0, jm_I xs1, jm_I xs0] σ).bind fun q => jm_ev d (jm_psh (jM_shaft, 80, [some (jm_R 21 0), some (jm_I x1), none], [jm_I xs3, jm_I xs4, jm_R 25 1], σ) q) := (jm_un_eq [0, 9, 11, 37, 40, 47, 54, 77, 80, 88, 90, 99, 107, 114, 120, 124, 131, 138, 156] d 2 _).trans rfl
theorem gM_shaft_80 (d : Nat) (σ : jm_S) (x1 xs0 xs1 xs2 : Int32) : jm_ev d (jM_shaft, 80, [some (jm_R 21 0), some (jm_I x1), none], [jm_I xs0, jm_I xs1, jm_I xs2, jm_R 25 1], σ) = cond (jm_in3 xs2 26) ((jm_call d jM_mustSign [jm_R 21 0, jm_I (59 : Int32)] (jm_wi σ 25 1 xs2.toNatClampNeg (xs1 + xs0))).bind fun q => jm_ev d (jm_psh (jM_shaft, 88, [some (jm_R 21 0), some (jm_I x1), none], [], jm_wi σ 25 1 xs2.toNatClampNeg (xs1 + xs0)) q)) (none) := (jm_un_eq [0, 9, 11, 37, 40, 47, 54, 77, 80, 88, 90, 99, 107, 114, 120, 124, 131, 138, 156] d 6 _).trans rfl
theorem gM_shaft_88 (d : Nat) (σ : jm_S) (x1 : Int32) : jm_ev d (jM_shaft, 88, [some (jm_R 21 0), some (jm_I x1), none], [], σ) = jm_ev d (jM_shaft, 90, [some (jm_R 21 0), some (jm_I x1), some (jm_I (0 : Int32))], [], σ) := (jm_un_eq [0, 9, 11, 37, 40, 47, 54, 77, 80, 88, 90, 99, 107, 114, 120, 124, 131, 138, 156] d 3 _).trans rfl
theorem gM_shaft_90 (d : Nat) (σ : jm_S) (x1 x2 : Int32) : jm_ev d (jM_shaft, 90, [some (jm_R 21 0), some (jm_I x1), some (jm_I x2)], [], σ) = cond (decide ((2 : Int32) ≤ x2)) (jm_ev d (jM_shaft, 120, [some (jm_R 21 0), some (jm_I x1), some (jm_I x2)], [], σ)) ((jm_call d jM_isSort [jm_R 21 0] σ).bind fun q => jm_ev d (jm_psh (jM_shaft, 99, [some (jm_R 21 0), some (jm_I x1), some (jm_I x2)], [], σ) q)) := (jm_un_eq [0, 9, 11, 37, 40, 47, 54, 77, 80, 88, 90, 99, 107, 114, 120, 124, 131, 138, 156] d 6 _).trans rfl
theorem gM_shaft_99 (d : Nat) (σ : jm_S) (x1 x2 xs0 : Int32) : jm_ev d (jM_shaft, 99, [some (jm_R 21 0), some (jm_I x1), some (jm_I x2)], [jm_I xs0], σ) = cond (decide (¬ xs0 = 0)) ((jm_call d jM_readDisc [jm_R 21 0] σ).bind fun q => jm_ev d (jm_psh (jM_shaft, 114, [some (jm_R 21 0), some (jm_I x1), some (jm_I x2)], [], σ) q)) ((jm_call d jM_bad [jm_R 21 0, jm_I (1 : Int32)] σ).bind fun q => jm_ev d (jm_psh (jM_shaft, 107, [some (jm_R 21 0), some (jm_I x1), some (jm_I x2)], [], σ) q)) := (jm_un_eq [0, 9, 11, 37, 40, 47, 54, 77, 80, 88, 90, 99, 107, 114, 120, 124, 131, 138, 156] d 5 _).trans rfl
theorem gM_shaft_107 (d : Nat) (σ : jm_S) (x1 x2 : Int32) : jm_ev d (jM_shaft, 107, [some (jm_R 21 0), some (jm_I x1), some (jm_I x2)], [], σ) = jm_ev d (jM_shaft, 114, [some (jm_R 21 0), some (jm_I x1), some (jm_I x2)], [], σ) := (jm_un_eq [0, 9, 11, 37, 40, 47, 54, 77, 80, 88, 90, 99, 107, 114, 120, 124, 131, 138, 156] d 2 _).trans rfl
theorem gM_shaft_114 (d : Nat) (σ : jm_S) (x1 x2 : Int32) : jm_ev d (jM_shaft, 114, [some (jm_R 21 0), some (jm_I x1), some (jm_I x2)], [], σ) = jm_ev d (jM_shaft, 90, [some (jm_R 21 0), some (jm_I x1), some (jm_I (x2 + (1 : Int32)))], [], σ) := (jm_un_eq [0, 9, 11, 37, 40, 47, 54, 77, 80, 88, 90, 99, 107, 114, 120, 124, 131, 138, 156] d 3 _).trans rfl
theorem gM_shaft_120 (d : Nat) (σ : jm_S) (x1 x2 : Int32) : jm_ev d (jM_shaft, 120, [some (jm_R 21 0), some (jm_I x1), some (jm_I x2)], [], σ) = (jm_call d jM_isSort [jm_R 21 0] σ).bind fun q => jm_ev d (jm_psh (jM_shaft, 124, [some (jm_R 21 0), some (jm_I x1), some (jm_I x2)], [], σ) q) := (jm_un_eq [0, 9, 11, 37, 40, 47, 54, 77, 80, 88, 90, 99, 107, 114, 120, 124, 131, 138, 156] d 3 _).trans rfl
theorem gM_shaft_124 (d : Nat) (σ : jm_S) (x1 x2 xs0 : Int32) : jm_ev d (jM_shaft, 124, [some (jm_R 21 0), some (jm_I x1), some (jm_I x2)], [jm_I xs0], σ) = cond (decide (xs0 = 0)) ((jm_call d jM_failed [jm_R 21 0] σ).bind fun q => jm_ev d (jm_psh (jM_shaft, 138, [some (jm_R 21 0), some (jm_I x1), some (jm_I x2)], [], σ) q)) ((jm_call d jM_readDisc [jm_R 21 0] σ).bind fun q => jm_ev d (jm_psh (jM_shaft, 131, [some (jm_R 21 0), some (jm_I x1), some (jm_I x2)], [], σ) q)) := (jm_un_eq [0, 9, 11, 37, 40, 47, 54, 77, 80, 88, 90, 99, 107, 114, 120, 124, 131, 138, 156] d 4 _).trans rfl
theorem gM_shaft_131 (d : Nat) (σ : jm_S) (x1 x2 : Int32) : jm_ev d (jM_shaft, 131, [some (jm_R 21 0), some (jm_I x1), some (jm_I x2)], [], σ) = jm_ev d (jM_shaft, 120, [some (jm_R 21 0), some (jm_I x1), some (jm_I x2)], [], σ) := (jm_un_eq [0, 9, 11, 37, 40, 47, 54, 77, 80, 88, 90, 99, 107, 114, 120, 124, 131, 138, 156] d 2 _).trans rfl
theorem gM_shaft_138 (d : Nat) (σ : jm_S) (x1 x2 xs0 : Int32) : jm_ev d (jM_shaft, 138, [some (jm_R 21 0), some (jm_I x1), some (jm_I x2)], [jm_I xs0], σ) = cond (decide (xs0 = 0)) (jm_ev d (jM_shaft, 156, [some (jm_R 21 0), some (jm_I x1), some (jm_I (0 : Int32))], [], jm_wi σ 21 0 9 (0 : Int32))) (some (some (jm_I ((-1000100 : Int32) - (σ.1 21 0 17))), σ)) := (jm_un_eq [0, 9, 11, 37, 40, 47, 54, 77, 80, 88, 90, 99, 107, 114, 120, 124, 131, 138, 156] d 7 _).trans rfl
theorem gM_shaft_156 (d : Nat) (σ : jm_S) (x1 x2 : Int32) : jm_ev d (jM_shaft, 156, [some (jm_R 21 0), some (jm_I x1), some (jm_I x2)], [], σ) = cond (decide ((26 : Int32) ≤ x2)) (some (some (jm_I (σ.1 25 0 0)), σ)) (cond (jm_in3 x2 26) (cond (jm_in3 x2 26) (jm_ev d (jM_shaft, 156, [some (jm_R 21 0), some (jm_I x1), some (jm_I (x2 + (1 : Int32)))], [], jm_wi σ 25 0 x2.toNatClampNeg (σ.1 25 1 x2.toNatClampNeg))) (none)) (none)) := (jm_un_eq [0, 9, 11, 37, 40, 47, 54, 77, 80, 88, 90, 99, 107, 114, 120, 124, 131, 138, 156] d 14 _).trans rfl
end
section
-- what each stretch of code does
theorem gM_isThere_0 (d : Nat) (σ : jm_S) : jm_call (d + 1) jM_isThere [jm_R 21 0] σ = cond (decide (σ.1 25 0 0 ≤ 0)) (jm_ev d (jM_isThere, 14, [some (jm_R 21 0)], [jm_I (0 : Int32)], σ)) (jm_ev d (jM_isThere, 14, [some (jm_R 21 0)], [jm_I (1 : Int32)], σ)) := (jm_un_eq [0, 14] d 8 (jM_isThere, 0, [some (jm_R 21 0)], [], σ)).trans rfl
theorem gM_isThere_14 (d : Nat) (σ : jm_S) (xs0 : Int32) : jm_ev d (jM_isThere, 14, [some (jm_R 21 0)], [jm_I xs0], σ) = cond (jm_b01 xs0) (some (some (jm_I xs0), σ)) none := (jm_un_eq [0, 14] d 2 _).trans rfl
theorem gM_isDisc_0 (d : Nat) (σ : jm_S) (x1 : Int32) : jm_call (d + 1) jM_isDisc [jm_R 21 0, jm_I x1] σ = (jm_call d jM_in [jm_L x1.toInt64, jm_L (0 : Int64), jm_L (((σ.1 25 0 0) - (1 : Int32)).toInt64)] σ).bind fun q => jm_ev d (jm_psh (jM_isDisc, 15, [some (jm_R 21 0), some (jm_I x1)], [], σ) q) := (jm_un_eq [0, 15] d 12 (jM_isDisc, 0, [some (jm_R 21 0), some (jm_I x1)], [], σ)).trans rfl
theorem gM_isDisc_15 (d : Nat) (σ : jm_S) (x1 xs0 : Int32) : jm_ev d (jM_isDisc, 15, [some (jm_R 21 0), some (jm_I x1)], [jm_I xs0], σ) = cond (jm_b01 xs0) (some (some (jm_I xs0), σ)) none := (jm_un_eq [0, 15] d 2 _).trans rfl
theorem gM_has_0 (d : Nat) (σ : jm_S) (x0 x1 : Int32) : jm_call (d + 1) jM_has [jm_I x0, jm_I x1] σ = cond (decide (¬ (x0 >>> (x1 &&& 31)) &&& (1 : Int32) = (1 : Int32))) (jm_ev d (jM_has, 14, [some (jm_I x0), some (jm_I x1)], [jm_I (0 : Int32)], σ)) (jm_ev d (jM_has, 14, [some (jm_I x0), some (jm_I x1)], [jm_I (1 : Int32)], σ)) := (jm_un_eq [0, 14] d 10 (jM_has, 0, [some (jm_I x0), some (jm_I x1)], [], σ)).trans rfl
theorem gM_has_14 (d : Nat) (σ : jm_S) (x0 x1 xs0 : Int32) : jm_ev d (jM_has, 14, [some (jm_I x0), some (jm_I x1)], [jm_I xs0], σ) = cond (jm_b01 xs0) (some (some (jm_I xs0), σ)) none := (jm_un_eq [0, 14] d 2 _).trans rfl
theorem gM_of_0 (d : Nat) (σ : jm_S) (r0 : Nat) (x1 x2 : Int32) : jm_call (d + 1) jM_of [jm_R 25 r0, jm_I x1, jm_I x2] σ = cond (jm_in3 (((2 : Int32) + ((4 : Int32) * x1)) + x2) 26) (some (some (jm_I (σ.1 25 r0 ((((2 : Int32) + ((4 : Int32) * x1)) + x2).toNatClampNeg))), σ)) (none) := (jm_un_eq [0] d 11 (jM_of, 0, [some (jm_R 25 r0), some (jm_I x1), some (jm_I x2)], [], σ)).trans rfl
theorem gM_ratio_0 (d : Nat) (σ : jm_S) (r0 : Nat) (x1 : Int32) : jm_call (d + 1) jM_ratio [jm_R 25 r0, jm_I x1] σ = jm_ev d (jM_ratio, 4, [some (jm_R 25 r0), some (jm_I x1), some (jm_I (1 : Int32)), some (jm_I (0 : Int32))], [], σ) := (jm_un_eq [0, 4, 16, 25] d 5 (jM_ratio, 0, [some (jm_R 25 r0), some (jm_I x1), none, none], [], σ)).trans rfl
theorem gM_ratio_4 (d : Nat) (σ : jm_S) (r0 : Nat) (x1 x2 x3 : Int32) : jm_ev d (jM_ratio, 4, [some (jm_R 25 r0), some (jm_I x1), some (jm_I x2), some (jm_I x3)], [], σ) = cond (decide (x1 < x3)) (some (some (jm_I x2), σ)) ((jm_call d jM_of [jm_R 25 r0, jm_I x3, jm_I (0 : Int32)] σ).bind fun q => jm_ev d (jm_psh (jM_ratio, 16, [some (jm_R 25 r0), some (jm_I x1), some (jm_I x2), some (jm_I x3)], [jm_I x2], σ) q)) := (jm_un_eq [0, 4, 16, 25] d 9 _).trans rfl
theorem gM_ratio_16 (d : Nat) (σ : jm_S) (r0 : Nat) (x1 x2 x3 xs0 xs1 : Int32) : jm_ev d (jM_ratio, 16, [some (jm_R 25 r0), some (jm_I x1), some (jm_I x2), some (jm_I x3)], [jm_I xs0, jm_I xs1], σ) = cond (decide (¬ xs0 = (2 : Int32))) (jm_ev d (jM_ratio, 25, [some (jm_R 25 r0), some (jm_I x1), some (jm_I x2), some (jm_I x3)], [jm_I (1 : Int32), jm_I xs1], σ)) (jm_ev d (jM_ratio, 25, [some (jm_R 25 r0), some (jm_I x1), some (jm_I x2), some (jm_I x3)], [jm_I (2 : Int32), jm_I xs1], σ)) := (jm_un_eq [0, 4, 16, 25] d 5 _).trans rfl
theorem gM_ratio_25 (d : Nat) (σ : jm_S) (r0 : Nat) (x1 x2 x3 xs0 xs1 : Int32) : jm_ev d (jM_ratio, 25, [some (jm_R 25 r0), some (jm_I x1), some (jm_I x2), some (jm_I x3)], [jm_I xs0, jm_I xs1], σ) = jm_ev d (jM_ratio, 4, [some (jm_R 25 r0), some (jm_I x1), some (jm_I (xs1 * xs0)), some (jm_I (x3 + (1 : Int32)))], [], σ) := (jm_un_eq [0, 4, 16, 25] d 5 _).trans rfl
theorem gM_weight_0 (d : Nat) (σ : jm_S) (r0 : Nat) (x1 : Int32) : jm_call (d + 1) jM_weight [jm_R 25 r0, jm_I x1] σ = (jm_call d jM_ratio [jm_R 25 r0, jm_I x1] σ).bind fun q => jm_ev d (jm_psh (jM_weight, 5, [some (jm_R 25 r0), some (jm_I x1), none], [], σ) q) := (jm_un_eq [0, 5, 12, 18, 28, 32] d 4 (jM_weight, 0, [some (jm_R 25 r0), some (jm_I x1), none], [], σ)).trans rfl
theorem gM_weight_5 (d : Nat) (σ : jm_S) (r0 : Nat) (x1 xs0 : Int32) : jm_ev d (jM_weight, 5, [some (jm_R 25 r0), some (jm_I x1), none], [jm_I xs0], σ) = (jm_call d jM_of [jm_R 25 r0, jm_I x1, jm_I (1 : Int32)] σ).bind fun q => jm_ev d (jm_psh (jM_weight, 12, [some (jm_R 25 r0), some (jm_I x1), some (jm_I xs0)], [], σ) q) := (jm_un_eq [0, 5, 12, 18, 28, 32] d 6 _).trans rfl
theorem gM_weight_12 (d : Nat) (σ : jm_S) (r0 : Nat) (x1 x2 xs0 : Int32) : jm_ev d (jM_weight, 12, [some (jm_R 25 r0), some (jm_I x1), some (jm_I x2)], [jm_I xs0], σ) = (jm_call d jM_of [jm_R 25 r0, jm_I x1, jm_I (0 : Int32)] σ).bind fun q => jm_ev d (jm_psh (jM_weight, 18, [some (jm_R 25 r0), some (jm_I x1), some (jm_I x2)], [jm_I xs0], σ) q) := (jm_un_eq [0, 5, 12, 18, 28, 32] d 5 _).trans rfl
theorem gM_weight_18 (d : Nat) (σ : jm_S) (r0 : Nat) (x1 x2 xs0 xs1 : Int32) : jm_ev d (jM_weight, 18, [some (jm_R 25 r0), some (jm_I x1), some (jm_I x2)], [jm_I xs0, jm_I xs1], σ) = cond (decide (¬ xs0 = (3 : Int32))) (jm_ev d (jM_weight, 32, [some (jm_R 25 r0), some (jm_I x1), some (jm_I x2)], [jm_I (0 : Int32), jm_I xs1], σ)) ((jm_call d jM_of [jm_R 25 r0, jm_I x1, jm_I (3 : Int32)] σ).bind fun q => jm_ev d (jm_psh (jM_weight, 28, [some (jm_R 25 r0), some (jm_I x1), some (jm_I x2)], [jm_I xs1], σ) q)) := (jm_un_eq [0, 5, 12, 18, 28, 32] d 7 _).trans rfl
theorem gM_weight_28 (d : Nat) (σ : jm_S) (r0 : Nat) (x1 x2 xs0 xs1 : Int32) : jm_ev d (jM_weight, 28, [some (jm_R 25 r0), some (jm_I x1), some (jm_I x2)], [jm_I xs0, jm_I xs1], σ) = jm_ev d (jM_weight, 32, [some (jm_R 25 r0), some (jm_I x1), some (jm_I x2)], [jm_I xs0, jm_I xs1], σ) := (jm_un_eq [0, 5, 12, 18, 28, 32] d 2 _).trans rfl
theorem gM_weight_32 (d : Nat) (σ : jm_S) (r0 : Nat) (x1 x2 xs0 xs1 : Int32) : jm_ev d (jM_weight, 32, [some (jm_R 25 r0), some (jm_I x1), some (jm_I x2)], [jm_I xs0, jm_I xs1], σ) = some (some (jm_I (((xs1 + xs0) * x2) * x2)), σ) := (jm_un_eq [0, 5, 12, 18, 28, 32] d 7 _).trans rfl
theorem gM_spring_0 (d : Nat) (σ : jm_S) (r0 : Nat) (x1 : Int32) : jm_call (d + 1) jM_spring [jm_R 25 r0, jm_I x1] σ = cond (decide (x1 < 0)) (jm_ev d (jM_spring, 13, [some (jm_R 25 r0), some (jm_I x1), none], [], σ)) (cond (decide (x1 + (1 : Int32) < σ.1 25 r0 0)) ((jm_call d jM_ratio [jm_R 25 r0, jm_I x1] σ).bind fun q => jm_ev d (jm_psh (jM_spring, 20, [some (jm_R 25 r0), some (jm_I x1), none], [], σ) q)) (jm_ev d (jM_spring, 13, [some (jm_R 25 r0), some (jm_I x1), none], [], σ))) := (jm_un_eq [0, 13, 20, 27, 37, 48] d 13 (jM_spring, 0, [some (jm_R 25 r0), some (jm_I x1), none], [], σ)).trans rfl
theorem gM_spring_13 (d : Nat) (σ : jm_S) (r0 : Nat) (x1 : Int32) : jm_ev d (jM_spring, 13, [some (jm_R 25 r0), some (jm_I x1), none], [], σ) = some (some (jm_I (0 : Int32)), σ) := (jm_un_eq [0, 13, 20, 27, 37, 48] d 3 _).trans rfl
theorem gM_spring_20 (d : Nat) (σ : jm_S) (r0 : Nat) (x1 xs0 : Int32) : jm_ev d (jM_spring, 20, [some (jm_R 25 r0), some (jm_I x1), none], [jm_I xs0], σ) = (jm_call d jM_of [jm_R 25 r0, jm_I x1, jm_I (0 : Int32)] σ).bind fun q => jm_ev d (jm_psh (jM_spring, 27, [some (jm_R 25 r0), some (jm_I x1), some (jm_I xs0)], [], σ) q) := (jm_un_eq [0, 13, 20, 27, 37, 48] d 6 _).trans rfl
theorem gM_spring_27 (d : Nat) (σ : jm_S) (r0 : Nat) (x1 x2 xs0 : Int32) : jm_ev d (jM_spring, 27, [some (jm_R 25 r0), some (jm_I x1), some (jm_I x2)], [jm_I xs0], σ) = cond (decide (¬ xs0 = (5 : Int32))) ((jm_call d jM_of [jm_R 25 r0, jm_I x1, jm_I (2 : Int32)] σ).bind fun q => jm_ev d (jm_psh (jM_spring, 48, [some (jm_R 25 r0), some (jm_I x1), some (jm_I x2)], [], σ) q)) ((jm_call d jM_of [jm_R 25 r0, jm_I x1, jm_I (2 : Int32)] σ).bind fun q => jm_ev d (jm_psh (jM_spring, 37, [some (jm_R 25 r0), some (jm_I x1), some (jm_I x2)], [], σ) q)) := (jm_un_eq [0, 13, 20, 27, 37, 48] d 7 _).trans rfl
theorem gM_spring_37 (d : Nat) (σ : jm_S) (r0 : Nat) (x1 x2 xs0 : Int32) : jm_ev d (jM_spring, 37, [some (jm_R 25 r0), some (jm_I x1), some (jm_I x2)], [jm_I xs0], σ) = jm_ev d (jM_spring, 48, [some (jm_R 25 r0), some (jm_I x1), some (jm_I x2)], [jm_I (xs0 / (2 : Int32))], σ) := (jm_un_eq [0, 13, 20, 27, 37, 48] d 4 _).trans rfl
theorem gM_spring_48 (d : Nat) (σ : jm_S) (r0 : Nat) (x1 x2 xs0 : Int32) : jm_ev d (jM_spring, 48, [some (jm_R 25 r0), some (jm_I x1), some (jm_I x2)], [jm_I xs0], σ) = some (some (jm_I ((xs0 * x2) * x2)), σ) := (jm_un_eq [0, 13, 20, 27, 37, 48] d 6 _).trans rfl
theorem gM_tie_0 (d : Nat) (σ : jm_S) (r0 : Nat) (x1 : Int32) : jm_call (d + 1) jM_tie [jm_R 25 r0, jm_I x1] σ = (jm_call d jM_ratio [jm_R 25 r0, jm_I x1] σ).bind fun q => jm_ev d (jm_psh (jM_tie, 5, [some (jm_R 25 r0), some (jm_I x1), none], [], σ) q) := (jm_un_eq [0, 5, 12, 22, 30] d 4 (jM_tie, 0, [some (jm_R 25 r0), some (jm_I x1), none], [], σ)).trans rfl
theorem gM_tie_5 (d : Nat) (σ : jm_S) (r0 : Nat) (x1 xs0 : Int32) : jm_ev d (jM_tie, 5, [some (jm_R 25 r0), some (jm_I x1), none], [jm_I xs0], σ) = (jm_call d jM_of [jm_R 25 r0, jm_I x1, jm_I (0 : Int32)] σ).bind fun q => jm_ev d (jm_psh (jM_tie, 12, [some (jm_R 25 r0), some (jm_I x1), some (jm_I xs0)], [], σ) q) := (jm_un_eq [0, 5, 12, 22, 30] d 6 _).trans rfl
theorem gM_tie_12 (d : Nat) (σ : jm_S) (r0 : Nat) (x1 x2 xs0 : Int32) : jm_ev d (jM_tie, 12, [some (jm_R 25 r0), some (jm_I x1), some (jm_I x2)], [jm_I xs0], σ) = cond (decide (xs0 < (4 : Int32))) (jm_ev d (jM_tie, 30, [some (jm_R 25 r0), some (jm_I x1), some (jm_I x2)], [jm_I (0 : Int32)], σ)) ((jm_call d jM_of [jm_R 25 r0, jm_I x1, jm_I (3 : Int32)] σ).bind fun q => jm_ev d (jm_psh (jM_tie, 22, [some (jm_R 25 r0), some (jm_I x1), some (jm_I x2)], [], σ) q)) := (jm_un_eq [0, 5, 12, 22, 30] d 7 _).trans rfl
theorem gM_tie_22 (d : Nat) (σ : jm_S) (r0 : Nat) (x1 x2 xs0 : Int32) : jm_ev d (jM_tie, 22, [some (jm_R 25 r0), some (jm_I x1), some (jm_I x2)], [jm_I xs0], σ) = jm_ev d (jM_tie, 30, [some (jm_R 25 r0), some (jm_I x1), some (jm_I x2)], [jm_I ((xs0 * x2) * x2)], σ) := (jm_un_eq [0, 5, 12, 22, 30] d 6 _).trans rfl
theorem gM_tie_30 (d : Nat) (σ : jm_S) (r0 : Nat) (x1 x2 xs0 : Int32) : jm_ev d (jM_tie, 30, [some (jm_R 25 r0), some (jm_I x1), some (jm_I x2)], [jm_I xs0], σ) = some (some (jm_I xs0), σ) := (jm_un_eq [0, 5, 12, 22, 30] d 2 _).trans rfl
theorem gM_product_0 (d : Nat) (σ : jm_S) (l1 l3 : Int64) : jm_call (d + 1) jM_product [jm_R 21 0, jm_L l1, jm_L l3] σ = cond (decide (lg_cmp l1 (0 : Int64) = 0)) (jm_ev d (jM_product, 41, [some (jm_R 21 0), some (jm_L l1), none, some (jm_L l3), none, some (jm_L (l1 * l3)), none], [], σ)) (cond (decide (¬ l1 = 0)) (cond (decide (¬ lg_cmp ((l1 * l3) / l1) l3 = 0)) (jm_ev d (jM_product, 36, [some (jm_R 21 0), some (jm_L l1), none, some (jm_L l3), none, some (jm_L (l1 * l3)), none], [], σ)) (cond (decide (¬ lg_cmp l1 (-1 : Int64) = 0)) (jm_ev d (jM_product, 41, [some (jm_R 21 0), some (jm_L l1), none, some (jm_L l3), none, some (jm_L (l1 * l3)), none], [], σ)) (cond (decide (¬ lg_cmp l3 (-9223372036854775808 : Int64) = 0)) (jm_ev d (jM_product, 41, [some (jm_R 21 0), some (jm_L l1), none, some (jm_L l3), none, some (jm_L (l1 * l3)), none], [], σ)) (jm_ev d (jM_product, 36, [some (jm_R 21 0), some (jm_L l1), none, some (jm_L l3), none, some (jm_L (l1 * l3)), none], [], σ))))) (none)) := (jm_un_eq [0, 36, 41] d 23 (jM_product, 0, [some (jm_R 21 0), some (jm_L l1), none, some (jm_L l3), none, none, none], [], σ)).trans rfl
theorem gM_product_36 (d : Nat) (σ : jm_S) (l1 l3 l5 : Int64) : jm_ev d (jM_product, 36, [some (jm_R 21 0), some (jm_L l1), none, some (jm_L l3), none, some (jm_L l5), none], [], σ) = jm_ev d (jM_product, 41, [some (jm_R 21 0), some (jm_L l1), none, some (jm_L l3), none, some (jm_L l5), none], [], jm_wi σ 21 0 19 (1 : Int32)) := (jm_un_eq [0, 36, 41] d 4 _).trans rfl
theorem gM_product_41 (d : Nat) (σ : jm_S) (l1 l3 l5 : Int64) : jm_ev d (jM_product, 41, [some (jm_R 21 0), some (jm_L l1), none, some (jm_L l3), none, some (jm_L l5), none], [], σ) = some (some (jm_L l5), σ) := (jm_un_eq [0, 36, 41] d 3 _).trans rfl
theorem gM_difference_0 (d : Nat) (σ : jm_S) (l1 l3 : Int64) : jm_call (d + 1) jM_difference [jm_R 21 0, jm_L l1, jm_L l3] σ = cond (decide (0 ≤ lg_cmp ((l1 ^^^ l3) &&& (l1 ^^^ (l1 - l3))) (0 : Int64))) (jm_ev d (jM_difference, 23, [some (jm_R 21 0), some (jm_L l1), none, some (jm_L l3), none, some (jm_L (l1 - l3)), none], [], σ)) (jm_ev d (jM_difference, 23, [some (jm_R 21 0), some (jm_L l1), none, some (jm_L l3), none, some (jm_L (l1 - l3)), none], [], jm_wi σ 21 0 19 (1 : Int32))) := (jm_un_eq [0, 23] d 18 (jM_difference, 0, [some (jm_R 21 0), some (jm_L l1), none, some (jm_L l3), none, none, none], [], σ)).trans rfl
theorem gM_difference_23 (d : Nat) (σ : jm_S) (l1 l3 l5 : Int64) : jm_ev d (jM_difference, 23, [some (jm_R 21 0), some (jm_L l1), none, some (jm_L l3), none, some (jm_L l5), none], [], σ) = some (some (jm_L l5), σ) := (jm_un_eq [0, 23] d 3 _).trans rfl
theorem gM_reckon_0 (d : Nat) (σ : jm_S) (r1 : Nat) (x2 x3 : Int32) : jm_call (d + 1) jM_reckon [jm_R 21 0, jm_R 25 r1, jm_I x2, jm_I x3] σ = jm_ev d (jM_reckon, 15, [some (jm_R 21 0), some (jm_R 25 r1), some (jm_I x2), some (jm_I x3), some (jm_I (1 : Int32)), none, none, none, none, none, none, none, none], [], jm_wj (jm_wi σ 21 0 19 (0 : Int32)) 28 0 0 (1 : Int64)) := (jm_un_eq [0, 15, 36, 45, 55, 67, 87, 103, 114, 134, 137, 139, 154] d 11 (jM_reckon, 0, [some (jm_R 21 0), some (jm_R 25 r1), some (jm_I x2), some (jm_I x3), none, none, none, none, none, none, none, none, none], [], σ)).trans rfl
theorem gM_reckon_15 (d : Nat) (σ : jm_S) (r1 : Nat) (x2 x3 x4 : Int32) (o5 o7 o9 o11 : Option jm_V) : jm_ev d (jM_reckon, 15, [some (jm_R 21 0), some (jm_R 25 r1), some (jm_I x2), some (jm_I x3), some (jm_I x4), o5, none, o7, none, o9, none, o11, none], [], σ) = cond (decide (x2 < x4)) (jm_ev d (jM_reckon, 154, [some (jm_R 21 0), some (jm_R 25 r1), some (jm_I x2), some (jm_I x3), some (jm_I x4), o5, none, o7, none, o9, none, o11, none], [], σ)) (cond (decide (¬ σ.1 21 0 19 = 0)) (jm_ev d (jM_reckon, 154, [some (jm_R 21 0), some (jm_R 25 r1), some (jm_I x2), some (jm_I x3), some (jm_I x4), o5, none, o7, none, o9, none, o11, none], [], σ)) ((jm_call d jM_spring [jm_R 25 r1, jm_I (x4 - (1 : Int32))] σ).bind fun q => jm_ev d (jm_psh (jM_reckon, 36, [some (jm_R 21 0), some (jm_R 25 r1), some (jm_I x2), some (jm_I x3), some (jm_I x4), o5, none, o7, none, o9, none, o11, none], [], σ) q))) := (jm_un_eq [0, 15, 36, 45, 55, 67, 87, 103, 114, 134, 137, 139, 154] d 12 _).trans rfl
theorem gM_reckon_36 (d : Nat) (σ : jm_S) (r1 : Nat) (x2 x3 x4 xs0 : Int32) (o5 o7 o9 o11 : Option jm_V) : jm_ev d (jM_reckon, 36, [some (jm_R 21 0), some (jm_R 25 r1), some (jm_I x2), some (jm_I x3), some (jm_I x4), o5, none, o7, none, o9, none, o11, none], [jm_I xs0], σ) = (jm_call d jM_spring [jm_R 25 r1, jm_I (x4 - (2 : Int32))] σ).bind fun q => jm_ev d (jm_psh (jM_reckon, 45, [some (jm_R 21 0), some (jm_R 25 r1), some (jm_I x2), some (jm_I x3), some (jm_I x4), o5, none, o7, none, o9, none, o11, none], [jm_L xs0.toInt64], σ) q) := (jm_un_eq [0, 15, 36, 45, 55, 67, 87, 103, 114, 134, 137, 139, 154] d 7 _).trans rfl
theorem gM_reckon_45 (d : Nat) (σ : jm_S) (r1 : Nat) (x2 x3 x4 xs0 : Int32) (ls1 : Int64) (o5 o7 o9 o11 : Option jm_V) : jm_ev d (jM_reckon, 45, [some (jm_R 21 0), some (jm_R 25 r1), some (jm_I x2), some (jm_I x3), some (jm_I x4), o5, none, o7, none, o9, none, o11, none], [jm_I xs0, jm_L ls1], σ) = (jm_call d jM_tie [jm_R 25 r1, jm_I (x4 - (1 : Int32))] σ).bind fun q => jm_ev d (jm_psh (jM_reckon, 55, [some (jm_R 21 0), some (jm_R 25 r1), some (jm_I x2), some (jm_I x3), some (jm_I x4), o5, none, o7, none, o9, none, o11, none], [jm_L (ls1 + xs0.toInt64)], σ) q) := (jm_un_eq [0, 15, 36, 45, 55, 67, 87, 103, 114, 134, 137, 139, 154] d 8 _).trans rfl
theorem gM_reckon_55 (d : Nat) (σ : jm_S) (r1 : Nat) (x2 x3 x4 xs0 : Int32) (ls1 : Int64) (o5 o7 o9 o11 : Option jm_V) : jm_ev d (jM_reckon, 55, [some (jm_R 21 0), some (jm_R 25 r1), some (jm_I x2), some (jm_I x3), some (jm_I x4), o5, none, o7, none, o9, none, o11, none], [jm_I xs0, jm_L ls1], σ) = (jm_call d jM_weight [jm_R 25 r1, jm_I (x4 - (1 : Int32))] σ).bind fun q => jm_ev d (jm_psh (jM_reckon, 67, [some (jm_R 21 0), some (jm_R 25 r1), some (jm_I x2), some (jm_I x3), some (jm_I x4), o5, none, o7, none, o9, none, o11, none], [jm_L x3.toInt64, jm_L (ls1 + xs0.toInt64)], σ) q) := (jm_un_eq [0, 15, 36, 45, 55, 67, 87, 103, 114, 134, 137, 139, 154] d 10 _).trans rfl
theorem gM_reckon_67 (d : Nat) (σ : jm_S) (r1 : Nat) (x2 x3 x4 xs0 : Int32) (ls1 ls2 : Int64) (o5 o7 o9 o11 : Option jm_V) : jm_ev d (jM_reckon, 67, [some (jm_R 21 0), some (jm_R 25 r1), some (jm_I x2), some (jm_I x3), some (jm_I x4), o5, none, o7, none, o9, none, o11, none], [jm_I xs0, jm_L ls1, jm_L ls2], σ) = cond (jm_in3 (x4 - (1 : Int32)) 7) ((jm_call d jM_product [jm_R 21 0, jm_L (ls2 - (ls1 * xs0.toInt64)), jm_L (σ.2 28 0 ((x4 - (1 : Int32)).toNatClampNeg))] σ).bind fun q => jm_ev d (jm_psh (jM_reckon, 87, [some (jm_R 21 0), some (jm_R 25 r1), some (jm_I x2), some (jm_I x3), some (jm_I x4), some (jm_L (ls2 - (ls1 * xs0.toInt64))), none, o7, none, o9, none, o11, none], [], σ) q)) (none) := (jm_un_eq [0, 15, 36, 45, 55, 67, 87, 103, 114, 134, 137, 139, 154] d 14 _).trans rfl
theorem gM_reckon_87 (d : Nat) (σ : jm_S) (r1 : Nat) (x2 x3 x4 : Int32) (l5 ls0 : Int64) (o7 o9 o11 : Option jm_V) : jm_ev d (jM_reckon, 87, [some (jm_R 21 0), some (jm_R 25 r1), some (jm_I x2), some (jm_I x3), some (jm_I x4), some (jm_L l5), none, o7, none, o9, none, o11, none], [jm_L ls0], σ) = cond (decide (x4 ≤ (1 : Int32))) (jm_ev d (jM_reckon, 139, [some (jm_R 21 0), some (jm_R 25 r1), some (jm_I x2), some (jm_I x3), some (jm_I x4), some (jm_L l5), none, some (jm_L ls0), none, o9, none, o11, none], [], σ)) ((jm_call d jM_spring [jm_R 25 r1, jm_I (x4 - (2 : Int32))] σ).bind fun q => jm_ev d (jm_psh (jM_reckon, 103, [some (jm_R 21 0), some (jm_R 25 r1), some (jm_I x2), some (jm_I x3), some (jm_I x4), some (jm_L l5), none, some (jm_L ls0), none, o9, none, o11, none], [], σ) q)) := (jm_un_eq [0, 15, 36, 45, 55, 67, 87, 103, 114, 134, 137, 139, 154] d 10 _).trans rfl
theorem gM_reckon_103 (d : Nat) (σ : jm_S) (r1 : Nat) (x2 x3 x4 xs0 : Int32) (l5 l7 : Int64) (o9 o11 : Option jm_V) : jm_ev d (jM_reckon, 103, [some (jm_R 21 0), some (jm_R 25 r1), some (jm_I x2), some (jm_I x3), some (jm_I x4), some (jm_L l5), none, some (jm_L l7), none, o9, none, o11, none], [jm_I xs0], σ) = (jm_call d jM_product [jm_R 21 0, jm_L xs0.toInt64, jm_L xs0.toInt64] σ).bind fun q => jm_ev d (jm_psh (jM_reckon, 114, [some (jm_R 21 0), some (jm_R 25 r1), some (jm_I x2), some (jm_I x3), some (jm_I x4), some (jm_L l5), none, some (jm_L l7), none, some (jm_L xs0.toInt64), none, o11, none], [], σ) q) := (jm_un_eq [0, 15, 36, 45, 55, 67, 87, 103, 114, 134, 137, 139, 154] d 7 _).trans rfl
theorem gM_reckon_114 (d : Nat) (σ : jm_S) (r1 : Nat) (x2 x3 x4 : Int32) (l5 l7 l9 ls0 : Int64) (o11 : Option jm_V) : jm_ev d (jM_reckon, 114, [some (jm_R 21 0), some (jm_R 25 r1), some (jm_I x2), some (jm_I x3), some (jm_I x4), some (jm_L l5), none, some (jm_L l7), none, some (jm_L l9), none, o11, none], [jm_L ls0], σ) = cond (jm_in3 (x4 - (2 : Int32)) 7) ((jm_call d jM_product [jm_R 21 0, jm_L ls0, jm_L (σ.2 28 0 ((x4 - (2 : Int32)).toNatClampNeg))] σ).bind fun q => jm_ev d (jm_psh (jM_reckon, 134, [some (jm_R 21 0), some (jm_R 25 r1), some (jm_I x2), some (jm_I x3), some (jm_I x4), some (jm_L l5), none, some (jm_L l7), none, some (jm_L l9), none, some (jm_L ls0), none], [jm_L l7, jm_R 21 0], σ) q)) (none) := (jm_un_eq [0, 15, 36, 45, 55, 67, 87, 103, 114, 134, 137, 139, 154] d 13 _).trans rfl
theorem gM_reckon_134 (d : Nat) (σ : jm_S) (r1 : Nat) (x2 x3 x4 : Int32) (l5 l7 l9 l11 ls0 ls1 : Int64) : jm_ev d (jM_reckon, 134, [some (jm_R 21 0), some (jm_R 25 r1), some (jm_I x2), some (jm_I x3), some (jm_I x4), some (jm_L l5), none, some (jm_L l7), none, some (jm_L l9), none, some (jm_L l11), none], [jm_L ls0, jm_L ls1, jm_R 21 0], σ) = (jm_call d jM_difference [jm_R 21 0, jm_L ls1, jm_L ls0] σ).bind fun q => jm_ev d (jm_psh (jM_reckon, 137, [some (jm_R 21 0), some (jm_R 25 r1), some (jm_I x2), some (jm_I x3), some (jm_I x4), some (jm_L l5), none, some (jm_L l7), none, some (jm_L l9), none, some (jm_L l11), none], [], σ) q) := (jm_un_eq [0, 15, 36, 45, 55, 67, 87, 103, 114, 134, 137, 139, 154] d 2 _).trans rfl
theorem gM_reckon_137 (d : Nat) (σ : jm_S) (r1 : Nat) (x2 x3 x4 : Int32) (l5 l7 l9 l11 ls0 : Int64) : jm_ev d (jM_reckon, 137, [some (jm_R 21 0), some (jm_R 25 r1), some (jm_I x2), some (jm_I x3), some (jm_I x4), some (jm_L l5), none, some (jm_L l7), none, some (jm_L l9), none, some (jm_L l11), none], [jm_L ls0], σ) = jm_ev d (jM_reckon, 139, [some (jm_R 21 0), some (jm_R 25 r1), some (jm_I x2), some (jm_I x3), some (jm_I x4), some (jm_L l5), none, some (jm_L ls0), none, some (jm_L l9), none, some (jm_L l11), none], [], σ) := (jm_un_eq [0, 15, 36, 45, 55, 67, 87, 103, 114, 134, 137, 139, 154] d 2 _).trans rfl
theorem gM_reckon_139 (d : Nat) (σ : jm_S) (r1 : Nat) (x2 x3 x4 : Int32) (l5 l7 : Int64) (o9 o11 : Option jm_V) : jm_ev d (jM_reckon, 139, [some (jm_R 21 0), some (jm_R 25 r1), some (jm_I x2), some (jm_I x3), some (jm_I x4), some (jm_L l5), none, some (jm_L l7), none, o9, none, o11, none], [], σ) = cond (jm_in3 x4 7) (jm_ev d (jM_reckon, 15, [some (jm_R 21 0), some (jm_R 25 r1), some (jm_I x2), some (jm_I x3), some (jm_I (x4 + (1 : Int32))), some (jm_L l5), none, some (jm_L l7), none, o9, none, o11, none], [], jm_wj σ 28 0 x4.toNatClampNeg l7)) (none) := (jm_un_eq [0, 15, 36, 45, 55, 67, 87, 103, 114, 134, 137, 139, 154] d 8 _).trans rfl
theorem gM_reckon_154 (d : Nat) (σ : jm_S) (r1 : Nat) (x2 x3 x4 : Int32) (o5 o7 o9 o11 : Option jm_V) : jm_ev d (jM_reckon, 154, [some (jm_R 21 0), some (jm_R 25 r1), some (jm_I x2), some (jm_I x3), some (jm_I x4), o5, none, o7, none, o9, none, o11, none], [], σ) = some (none, σ) := (jm_un_eq [0, 15, 36, 45, 55, 67, 87, 103, 114, 134, 137, 139, 154] d 2 _).trans rfl
theorem gM_belowOf_0 (d : Nat) (σ : jm_S) (r1 : Nat) (x2 : Int32) : jm_call (d + 1) jM_belowOf [jm_R 21 0, jm_R 25 r1, jm_I x2] σ = (jm_call d jM_reckon [jm_R 21 0, jm_R 25 r1, jm_I (σ.1 25 r1 0), jm_I x2] σ).bind fun q => jm_ev d (jm_psh (jM_belowOf, 9, [some (jm_R 21 0), some (jm_R 25 r1), some (jm_I x2), none, none, none, none], [], σ) q) := (jm_un_eq [0, 9, 17, 66, 81, 93] d 8 (jM_belowOf, 0, [some (jm_R 21 0), some (jm_R 25 r1), some (jm_I x2), none, none, none, none], [], σ)).trans rfl
theorem gM_belowOf_9 (d : Nat) (σ : jm_S) (r1 : Nat) (x2 : Int32) : jm_ev d (jM_belowOf, 9, [some (jm_R 21 0), some (jm_R 25 r1), some (jm_I x2), none, none, none, none], [], σ) = jm_ev d (jM_belowOf, 17, [some (jm_R 21 0), some (jm_R 25 r1), some (jm_I x2), some (jm_I (0 : Int32)), some (jm_I (0 : Int32)), some (jm_I (1 : Int32)), none], [], σ) := (jm_un_eq [0, 9, 17, 66, 81, 93] d 7 _).trans rfl
theorem gM_belowOf_17 (d : Nat) (σ : jm_S) (r1 : Nat) (x2 x3 x4 x5 : Int32) (o6 : Option jm_V) : jm_ev d (jM_belowOf, 17, [some (jm_R 21 0), some (jm_R 25 r1), some (jm_I x2), some (jm_I x3), some (jm_I x4), some (jm_I x5), o6], [], σ) = cond (decide (σ.1 25 r1 0 < x5)) (jm_ev d (jM_belowOf, 93, [some (jm_R 21 0), some (jm_R 25 r1), some (jm_I x2), some (jm_I x3), some (jm_I x4), some (jm_I x5), o6], [], σ)) (cond (decide (¬ σ.1 21 0 19 = 0)) (jm_ev d (jM_belowOf, 93, [some (jm_R 21 0), some (jm_R 25 r1), some (jm_I x2), some (jm_I x3), some (jm_I x4), some (jm_I x5), o6], [], σ)) (cond (jm_in3 x5 7) (cond (decide (¬ lg_cmp (σ.2 28 0 x5.toNatClampNeg) (0 : Int64) = 0)) (cond (jm_in3 x5 7) (cond (decide (0 ≤ lg_cmp (σ.2 28 0 x5.toNatClampNeg) (0 : Int64))) (jm_ev d (jM_belowOf, 66, [some (jm_R 21 0), some (jm_R 25 r1), some (jm_I x2), some (jm_I x3), some (jm_I x4), some (jm_I x5), o6], [jm_I (0 : Int32)], σ)) (jm_ev d (jM_belowOf, 66, [some (jm_R 21 0), some (jm_R 25 r1), some (jm_I x2), some (jm_I x3), some (jm_I x4), some (jm_I x5), o6], [jm_I (1 : Int32)], σ))) (none)) (jm_ev d (jM_belowOf, 66, [some (jm_R 21 0), some (jm_R 25 r1), some (jm_I x2), some (jm_I x3), some (jm_I x4), some (jm_I x5), o6], [jm_I x4], σ))) (none))) := (jm_un_eq [0, 9, 17, 66, 81, 93] d 25 _).trans rfl
theorem gM_belowOf_66 (d : Nat) (σ : jm_S) (r1 : Nat) (x2 x3 x4 x5 xs0 : Int32) (o6 : Option jm_V) : jm_ev d (jM_belowOf, 66, [some (jm_R 21 0), some (jm_R 25 r1), some (jm_I x2), some (jm_I x3), some (jm_I x4), some (jm_I x5), o6], [jm_I xs0], σ) = cond (decide (xs0 = x4)) (jm_ev d (jM_belowOf, 81, [some (jm_R 21 0), some (jm_R 25 r1), some (jm_I x2), some (jm_I x3), some (jm_I x4), some (jm_I x5), some (jm_I xs0)], [jm_I (0 : Int32), jm_I x3], σ)) (jm_ev d (jM_belowOf, 81, [some (jm_R 21 0), some (jm_R 25 r1), some (jm_I x2), some (jm_I x3), some (jm_I x4), some (jm_I x5), some (jm_I xs0)], [jm_I (1 : Int32), jm_I x3], σ)) := (jm_un_eq [0, 9, 17, 66, 81, 93] d 8 _).trans rfl
theorem gM_belowOf_81 (d : Nat) (σ : jm_S) (r1 : Nat) (x2 x3 x4 x5 x6 xs0 xs1 : Int32) : jm_ev d (jM_belowOf, 81, [some (jm_R 21 0), some (jm_R 25 r1), some (jm_I x2), some (jm_I x3), some (jm_I x4), some (jm_I x5), some (jm_I x6)], [jm_I xs0, jm_I xs1], σ) = jm_ev d (jM_belowOf, 17, [some (jm_R 21 0), some (jm_R 25 r1), some (jm_I x2), some (jm_I (xs1 + xs0)), some (jm_I x6), some (jm_I (x5 + (1 : Int32))), some (jm_I x6)], [], σ) := (jm_un_eq [0, 9, 17, 66, 81, 93] d 7 _).trans rfl
theorem gM_belowOf_93 (d : Nat) (σ : jm_S) (r1 : Nat) (x2 x3 x4 x5 : Int32) (o6 : Option jm_V) : jm_ev d (jM_belowOf, 93, [some (jm_R 21 0), some (jm_R 25 r1), some (jm_I x2), some (jm_I x3), some (jm_I x4), some (jm_I x5), o6], [], σ) = some (some (jm_I x3), σ) := (jm_un_eq [0, 9, 17, 66, 81, 93] d 3 _).trans rfl
theorem gM_boxOf_0 (d : Nat) (σ : jm_S) (r1 : Nat) (x2 : Int32) : jm_call (d + 1) jM_boxOf [jm_R 21 0, jm_R 25 r1, jm_I x2] σ = (jm_call d jM_belowOf [jm_R 21 0, jm_R 25 r1, jm_I (200 : Int32)] σ).bind fun q => jm_ev d (jm_psh (jM_boxOf, 8, [some (jm_R 21 0), some (jm_R 25 r1), some (jm_I x2), none, none, none, none, none], [], σ) q) := (jm_un_eq [0, 8, 21, 32, 57, 86] d 5 (jM_boxOf, 0, [some (jm_R 21 0), some (jm_R 25 r1), some (jm_I x2), none, none, none, none, none], [], σ)).trans rfl
theorem gM_boxOf_8 (d : Nat) (σ : jm_S) (r1 : Nat) (x2 xs0 : Int32) : jm_ev d (jM_boxOf, 8, [some (jm_R 21 0), some (jm_R 25 r1), some (jm_I x2), none, none, none, none, none], [jm_I xs0], σ) = cond (decide (¬ σ.1 21 0 19 = 0)) (jm_ev d (jM_boxOf, 21, [some (jm_R 21 0), some (jm_R 25 r1), some (jm_I x2), some (jm_I xs0), none, none, none, none], [], σ)) (cond (decide (x2 < xs0)) (jm_ev d (jM_boxOf, 32, [some (jm_R 21 0), some (jm_R 25 r1), some (jm_I x2), some (jm_I xs0), some (jm_I (0 : Int32)), some (jm_I (200 : Int32)), none, none], [], σ)) (jm_ev d (jM_boxOf, 21, [some (jm_R 21 0), some (jm_R 25 r1), some (jm_I x2), some (jm_I xs0), none, none, none, none], [], σ))) := (jm_un_eq [0, 8, 21, 32, 57, 86] d 12 _).trans rfl
theorem gM_boxOf_21 (d : Nat) (σ : jm_S) (r1 : Nat) (x2 x3 : Int32) : jm_ev d (jM_boxOf, 21, [some (jm_R 21 0), some (jm_R 25 r1), some (jm_I x2), some (jm_I x3), none, none, none, none], [], σ) = some (some (jm_I (-1000000 : Int32)), σ) := (jm_un_eq [0, 8, 21, 32, 57, 86] d 3 _).trans rfl
theorem gM_boxOf_32 (d : Nat) (σ : jm_S) (r1 : Nat) (x2 x3 x4 x5 : Int32) (o6 o7 : Option jm_V) : jm_ev d (jM_boxOf, 32, [some (jm_R 21 0), some (jm_R 25 r1), some (jm_I x2), some (jm_I x3), some (jm_I x4), some (jm_I x5), o6, o7], [], σ) = cond (decide (x5 - x4 ≤ (1 : Int32))) (some (some (jm_I x4), σ)) ((jm_call d jM_belowOf [jm_R 21 0, jm_R 25 r1, jm_I ((x4 + x5) / (2 : Int32))] σ).bind fun q => jm_ev d (jm_psh (jM_boxOf, 57, [some (jm_R 21 0), some (jm_R 25 r1), some (jm_I x2), some (jm_I x3), some (jm_I x4), some (jm_I x5), some (jm_I ((x4 + x5) / (2 : Int32))), o7], [], σ) q)) := (jm_un_eq [0, 8, 21, 32, 57, 86] d 16 _).trans rfl
theorem gM_boxOf_57 (d : Nat) (σ : jm_S) (r1 : Nat) (x2 x3 x4 x5 x6 xs0 : Int32) (o7 : Option jm_V) : jm_ev d (jM_boxOf, 57, [some (jm_R 21 0), some (jm_R 25 r1), some (jm_I x2), some (jm_I x3), some (jm_I x4), some (jm_I x5), some (jm_I x6), o7], [jm_I xs0], σ) = cond (decide (σ.1 21 0 19 = 0)) (cond (decide (x2 < xs0)) (jm_ev d (jM_boxOf, 86, [some (jm_R 21 0), some (jm_R 25 r1), some (jm_I x2), some (jm_I x3), some (jm_I x4), some (jm_I x6), some (jm_I x6), some (jm_I xs0)], [], σ)) (jm_ev d (jM_boxOf, 86, [some (jm_R 21 0), some (jm_R 25 r1), some (jm_I x2), some (jm_I x3), some (jm_I x6), some (jm_I x5), some (jm_I x6), some (jm_I xs0)], [], σ))) (some (some (jm_I (-1000000 : Int32)), σ)) := (jm_un_eq [0, 8, 21, 32, 57, 86] d 11 _).trans rfl
theorem gM_boxOf_86 (d : Nat) (σ : jm_S) (r1 : Nat) (x2 x3 x4 x5 x6 x7 : Int32) : jm_ev d (jM_boxOf, 86, [some (jm_R 21 0), some (jm_R 25 r1), some (jm_I x2), some (jm_I x3), some (jm_I x4), some (jm_I x5), some (jm_I x6), some (jm_I x7)], [], σ) = jm_ev d (jM_boxOf, 32, [some (jm_R 21 0), some (jm_R 25 r1), some (jm_I x2), some (jm_I x3), some (jm_I x4), some (jm_I x5), some (jm_I x6), some (jm_I x7)], [], σ) := (jm_un_eq [0, 8, 21, 32, 57, 86] d 2 _).trans rfl
theorem gM_layBoxes_0 (d : Nat) (σ : jm_S) (r1 : Nat) (x2 : Int32) : jm_call (d + 1) jM_layBoxes [jm_R 21 0, jm_R 25 r1, jm_I x2] σ = jm_ev d (jM_layBoxes, 7, [some (jm_R 21 0), some (jm_R 25 r1), some (jm_I x2), some (jm_I (0 : Int32))], [], jm_wi σ 21 0 19 (0 : Int32)) := (jm_un_eq [0, 7, 30, 37] d 6 (jM_layBoxes, 0, [some (jm_R 21 0), some (jm_R 25 r1), some (jm_I x2), none], [], σ)).trans rfl
theorem gM_layBoxes_7 (d : Nat) (σ : jm_S) (r1 : Nat) (x2 x3 : Int32) : jm_ev d (jM_layBoxes, 7, [some (jm_R 21 0), some (jm_R 25 r1), some (jm_I x2), some (jm_I x3)], [], σ) = cond (decide (x2 ≤ x3)) (jm_ev d (jM_layBoxes, 37, [some (jm_R 21 0), some (jm_R 25 r1), some (jm_I x2), some (jm_I x3)], [], σ)) (cond (decide (¬ σ.1 21 0 19 = 0)) (jm_ev d (jM_layBoxes, 37, [some (jm_R 21 0), some (jm_R 25 r1), some (jm_I x2), some (jm_I x3)], [], σ)) ((jm_call d jM_boxOf [jm_R 21 0, jm_R 25 r1, jm_I x3] σ).bind fun q => jm_ev d (jm_psh (jM_layBoxes, 30, [some (jm_R 21 0), some (jm_R 25 r1), some (jm_I x2), some (jm_I x3)], [jm_I x3, jm_R 29 0], σ) q))) := (jm_un_eq [0, 7, 30, 37] d 14 _).trans rfl
theorem gM_layBoxes_30 (d : Nat) (σ : jm_S) (r1 : Nat) (x2 x3 xs0 xs1 : Int32) : jm_ev d (jM_layBoxes, 30, [some (jm_R 21 0), some (jm_R 25 r1), some (jm_I x2), some (jm_I x3)], [jm_I xs0, jm_I xs1, jm_R 29 0], σ) = cond (jm_in3 xs1 6) (jm_ev d (jM_layBoxes, 7, [some (jm_R 21 0), some (jm_R 25 r1), some (jm_I x2), some (jm_I (x3 + (1 : Int32)))], [], jm_wi σ 29 0 xs1.toNatClampNeg xs0)) (none) := (jm_un_eq [0, 7, 30, 37] d 4 _).trans rfl
theorem gM_layBoxes_37 (d : Nat) (σ : jm_S) (r1 : Nat) (x2 x3 : Int32) : jm_ev d (jM_layBoxes, 37, [some (jm_R 21 0), some (jm_R 25 r1), some (jm_I x2), some (jm_I x3)], [], σ) = some (none, σ) := (jm_un_eq [0, 7, 30, 37] d 2 _).trans rfl
theorem gM_layThen_0 (d : Nat) (σ : jm_S) : jm_call (d + 1) jM_layThen [jm_R 21 0] σ = jm_ev d (jM_layThen, 2, [some (jm_R 21 0), some (jm_I (0 : Int32))], [], σ) := (jm_un_eq [0, 2] d 3 (jM_layThen, 0, [some (jm_R 21 0), none], [], σ)).trans rfl
theorem gM_layThen_2 (d : Nat) (σ : jm_S) (x1 : Int32) : jm_ev d (jM_layThen, 2, [some (jm_R 21 0), some (jm_I x1)], [], σ) = cond (decide ((26 : Int32) ≤ x1)) (some (none, σ)) (cond (jm_in3 x1 26) (cond (jm_in3 x1 26) (jm_ev d (jM_layThen, 2, [some (jm_R 21 0), some (jm_I (x1 + (1 : Int32)))], [], jm_wi σ 25 2 x1.toNatClampNeg (σ.1 25 0 x1.toNatClampNeg))) (none)) (none)) := (jm_un_eq [0, 2] d 14 _).trans rfl
theorem gM_keep_0 (d : Nat) (σ : jm_S) : jm_call (d + 1) jM_keep [jm_R 21 0] σ = cond (decide (¬ σ.1 21 0 9 = (24 : Int32))) (jm_ev d (jM_keep, 49, [some (jm_R 21 0), none], [], σ)) (jm_ev d (jM_keep, 11, [some (jm_R 21 0), some (jm_I (0 : Int32))], [], σ)) := (jm_un_eq [0, 11, 49, 51] d 7 (jM_keep, 0, [some (jm_R 21 0), none], [], σ)).trans rfl
theorem gM_keep_11 (d : Nat) (σ : jm_S) (x1 : Int32) : jm_ev d (jM_keep, 11, [some (jm_R 21 0), some (jm_I x1)], [], σ) = cond (decide ((598 : Int32) ≤ x1)) (jm_ev d (jM_keep, 49, [some (jm_R 21 0), some (jm_I x1)], [], jm_wi σ 21 0 9 ((σ.1 21 0 9) - (1 : Int32)))) (cond (jm_in3 (x1 + (26 : Int32)) 624) (cond (jm_in3 x1 624) (jm_ev d (jM_keep, 11, [some (jm_R 21 0), some (jm_I (x1 + (1 : Int32)))], [], jm_wi σ 26 0 x1.toNatClampNeg (σ.1 26 0 ((x1 + (26 : Int32)).toNatClampNeg)))) (none)) (none)) := (jm_un_eq [0, 11, 49, 51] d 16 _).trans rfl
theorem gM_keep_49 (d : Nat) (σ : jm_S) (o1 : Option jm_V) : jm_ev d (jM_keep, 49, [some (jm_R 21 0), o1], [], σ) = jm_ev d (jM_keep, 51, [some (jm_R 21 0), some (jm_I (0 : Int32))], [], σ) := (jm_un_eq [0, 11, 49, 51] d 3 _).trans rfl
theorem gM_keep_51 (d : Nat) (σ : jm_S) (x1 : Int32) : jm_ev d (jM_keep, 51, [some (jm_R 21 0), some (jm_I x1)], [], σ) = cond (decide ((26 : Int32) ≤ x1)) (some (none, jm_wi σ 21 0 9 ((σ.1 21 0 9) + (1 : Int32)))) (cond (jm_in3 x1 26) (cond (jm_in3 (((26 : Int32) * (σ.1 21 0 9)) + x1) 624) (jm_ev d (jM_keep, 51, [some (jm_R 21 0), some (jm_I (x1 + (1 : Int32)))], [], jm_wi σ 26 0 ((((26 : Int32) * (σ.1 21 0 9)) + x1).toNatClampNeg) (σ.1 25 0 x1.toNatClampNeg))) (none)) (none)) := (jm_un_eq [0, 11, 49, 51] d 19 _).trans rfl
theorem gM_change_0 (d : Nat) (σ : jm_S) (x1 x2 x3 : Int32) : jm_call (d + 1) jM_change [jm_R 21 0, jm_I x1, jm_I x2, jm_I x3] σ = cond (decide (¬ x2 = 0)) (jm_ev d (jM_change, 21, [some (jm_R 21 0), some (jm_I x1), some (jm_I x2), some (jm_I x3), none, none], [], jm_wi σ 21 0 0 (0 : Int32))) ((jm_call d jM_in [jm_L x3.toInt64, jm_L (1 : Int64), jm_L (5 : Int64)] (jm_wi σ 21 0 0 (0 : Int32))).bind fun q => jm_ev d (jm_psh (jM_change, 18, [some (jm_R 21 0), some (jm_I x1), some (jm_I x2), some (jm_I x3), none, none], [], jm_wi σ 21 0 0 (0 : Int32)) q)) := (jm_un_eq [0, 18, 21, 35, 38, 52, 55, 59, 60, 67, 75, 82, 93] d 11 (jM_change, 0, [some (jm_R 21 0), some (jm_I x1), some (jm_I x2), some (jm_I x3), none, none], [], σ)).trans rfl
theorem gM_change_18 (d : Nat) (σ : jm_S) (x1 x2 x3 xs0 : Int32) : jm_ev d (jM_change, 18, [some (jm_R 21 0), some (jm_I x1), some (jm_I x2), some (jm_I x3), none, none], [jm_I xs0], σ) = cond (decide (¬ xs0 = 0)) (jm_ev d (jM_change, 55, [some (jm_R 21 0), some (jm_I x1), some (jm_I x2), some (jm_I x3), none, none], [], σ)) (jm_ev d (jM_change, 21, [some (jm_R 21 0), some (jm_I x1), some (jm_I x2), some (jm_I x3), none, none], [], σ)) := (jm_un_eq [0, 18, 21, 35, 38, 52, 55, 59, 60, 67, 75, 82, 93] d 2 _).trans rfl
theorem gM_change_21 (d : Nat) (σ : jm_S) (x1 x2 x3 : Int32) : jm_ev d (jM_change, 21, [some (jm_R 21 0), some (jm_I x1), some (jm_I x2), some (jm_I x3), none, none], [], σ) = cond (decide (¬ x2 = (1 : Int32))) (jm_ev d (jM_change, 38, [some (jm_R 21 0), some (jm_I x1), some (jm_I x2), some (jm_I x3), none, none], [], σ)) ((jm_call d jM_in [jm_L x3.toInt64, jm_L (0 : Int64), jm_L (40 : Int64)] σ).bind fun q => jm_ev d (jm_psh (jM_change, 35, [some (jm_R 21 0), some (jm_I x1), some (jm_I x2), some (jm_I x3), none, none], [], σ) q)) := (jm_un_eq [0, 18, 21, 35, 38, 52, 55, 59, 60, 67, 75, 82, 93] d 9 _).trans rfl
theorem gM_change_35 (d : Nat) (σ : jm_S) (x1 x2 x3 xs0 : Int32) : jm_ev d (jM_change, 35, [some (jm_R 21 0), some (jm_I x1), some (jm_I x2), some (jm_I x3), none, none], [jm_I xs0], σ) = cond (decide (¬ xs0 = 0)) (jm_ev d (jM_change, 55, [some (jm_R 21 0), some (jm_I x1), some (jm_I x2), some (jm_I x3), none, none], [], σ)) (jm_ev d (jM_change, 38, [some (jm_R 21 0), some (jm_I x1), some (jm_I x2), some (jm_I x3), none, none], [], σ)) := (jm_un_eq [0, 18, 21, 35, 38, 52, 55, 59, 60, 67, 75, 82, 93] d 2 _).trans rfl
theorem gM_change_38 (d : Nat) (σ : jm_S) (x1 x2 x3 : Int32) : jm_ev d (jM_change, 38, [some (jm_R 21 0), some (jm_I x1), some (jm_I x2), some (jm_I x3), none, none], [], σ) = cond (decide (¬ x2 = (2 : Int32))) (jm_ev d (jM_change, 59, [some (jm_R 21 0), some (jm_I x1), some (jm_I x2), some (jm_I x3), none, none], [], σ)) ((jm_call d jM_in [jm_L x3.toInt64, jm_L (0 : Int64), jm_L (9 : Int64)] σ).bind fun q => jm_ev d (jm_psh (jM_change, 52, [some (jm_R 21 0), some (jm_I x1), some (jm_I x2), some (jm_I x3), none, none], [], σ) q)) := (jm_un_eq [0, 18, 21, 35, 38, 52, 55, 59, 60, 67, 75, 82, 93] d 9 _).trans rfl
theorem gM_change_52 (d : Nat) (σ : jm_S) (x1 x2 x3 xs0 : Int32) : jm_ev d (jM_change, 52, [some (jm_R 21 0), some (jm_I x1), some (jm_I x2), some (jm_I x3), none, none], [jm_I xs0], σ) = cond (decide (xs0 = 0)) (jm_ev d (jM_change, 59, [some (jm_R 21 0), some (jm_I x1), some (jm_I x2), some (jm_I x3), none, none], [], σ)) (jm_ev d (jM_change, 55, [some (jm_R 21 0), some (jm_I x1), some (jm_I x2), some (jm_I x3), none, none], [], σ)) := (jm_un_eq [0, 18, 21, 35, 38, 52, 55, 59, 60, 67, 75, 82, 93] d 2 _).trans rfl
theorem gM_change_55 (d : Nat) (σ : jm_S) (x1 x2 x3 : Int32) : jm_ev d (jM_change, 55, [some (jm_R 21 0), some (jm_I x1), some (jm_I x2), some (jm_I x3), none, none], [], σ) = jm_ev d (jM_change, 60, [some (jm_R 21 0), some (jm_I x1), some (jm_I x2), some (jm_I x3), none, none], [jm_I (1 : Int32)], σ) := (jm_un_eq [0, 18, 21, 35, 38, 52, 55, 59, 60, 67, 75, 82, 93] d 3 _).trans rfl
theorem gM_change_59 (d : Nat) (σ : jm_S) (x1 x2 x3 : Int32) : jm_ev d (jM_change, 59, [some (jm_R 21 0), some (jm_I x1), some (jm_I x2), some (jm_I x3), none, none], [], σ) = jm_ev d (jM_change, 60, [some (jm_R 21 0), some (jm_I x1), some (jm_I x2), some (jm_I x3), none, none], [jm_I (0 : Int32)], σ) := (jm_un_eq [0, 18, 21, 35, 38, 52, 55, 59, 60, 67, 75, 82, 93] d 2 _).trans rfl
theorem gM_change_60 (d : Nat) (σ : jm_S) (x1 x2 x3 xs0 : Int32) : jm_ev d (jM_change, 60, [some (jm_R 21 0), some (jm_I x1), some (jm_I x2), some (jm_I x3), none, none], [jm_I xs0], σ) = (jm_call d jM_isDisc [jm_R 21 0, jm_I x1] σ).bind fun q => jm_ev d (jm_psh (jM_change, 67, [some (jm_R 21 0), some (jm_I x1), some (jm_I x2), some (jm_I x3), some (jm_I xs0), none], [], σ) q) := (jm_un_eq [0, 18, 21, 35, 38, 52, 55, 59, 60, 67, 75, 82, 93] d 5 _).trans rfl
theorem gM_change_67 (d : Nat) (σ : jm_S) (x1 x2 x3 x4 xs0 : Int32) : jm_ev d (jM_change, 67, [some (jm_R 21 0), some (jm_I x1), some (jm_I x2), some (jm_I x3), some (jm_I x4), none], [jm_I xs0], σ) = cond (decide (xs0 = 0)) (jm_ev d (jM_change, 75, [some (jm_R 21 0), some (jm_I x1), some (jm_I x2), some (jm_I x3), some (jm_I x4), none], [], σ)) (cond (decide (¬ x4 = 0)) ((jm_call d jM_keep [jm_R 21 0] σ).bind fun q => jm_ev d (jm_psh (jM_change, 82, [some (jm_R 21 0), some (jm_I x1), some (jm_I x2), some (jm_I x3), some (jm_I x4), none], [], σ) q)) (jm_ev d (jM_change, 75, [some (jm_R 21 0), some (jm_I x1), some (jm_I x2), some (jm_I x3), some (jm_I x4), none], [], σ))) := (jm_un_eq [0, 18, 21, 35, 38, 52, 55, 59, 60, 67, 75, 82, 93] d 6 _).trans rfl
theorem gM_change_75 (d : Nat) (σ : jm_S) (x1 x2 x3 x4 : Int32) : jm_ev d (jM_change, 75, [some (jm_R 21 0), some (jm_I x1), some (jm_I x2), some (jm_I x3), some (jm_I x4), none], [], σ) = some (some (jm_I (-1000001 : Int32)), σ) := (jm_un_eq [0, 18, 21, 35, 38, 52, 55, 59, 60, 67, 75, 82, 93] d 3 _).trans rfl
theorem gM_change_82 (d : Nat) (σ : jm_S) (x1 x2 x3 x4 : Int32) : jm_ev d (jM_change, 82, [some (jm_R 21 0), some (jm_I x1), some (jm_I x2), some (jm_I x3), some (jm_I x4), none], [], σ) = (jm_call d jM_of [jm_R 25 0, jm_I x1, jm_I ((1 : Int32) + x2)] σ).bind fun q => jm_ev d (jm_psh (jM_change, 93, [some (jm_R 21 0), some (jm_I x1), some (jm_I x2), some (jm_I x3), some (jm_I x4), none], [], σ) q) := (jm_un_eq [0, 18, 21, 35, 38, 52, 55, 59, 60, 67, 75, 82, 93] d 8 _).trans rfl
theorem gM_change_93 (d : Nat) (σ : jm_S) (x1 x2 x3 x4 xs0 : Int32) : jm_ev d (jM_change, 93, [some (jm_R 21 0), some (jm_I x1), some (jm_I x2), some (jm_I x3), some (jm_I x4), none], [jm_I xs0], σ) = cond (jm_in3 ((((2 : Int32) + ((4 : Int32) * x1)) + (1 : Int32)) + x2) 26) (some (some (jm_I xs0), jm_wi σ 25 0 (((((2 : Int32) + ((4 : Int32) * x1)) + (1 : Int32)) + x2).toNatClampNeg) x3)) (none) := (jm_un_eq [0, 18, 21, 35, 38, 52, 55, 59, 60, 67, 75, 82, 93] d 17 _).trans rfl
theorem gM_become_0 (d : Nat) (σ : jm_S) (x1 x2 : Int32) : jm_call (d + 1) jM_become [jm_R 21 0, jm_I x1, jm_I x2] σ = (jm_call d jM_isDisc [jm_R 21 0, jm_I x1] (jm_wi σ 21 0 0 (0 : Int32))).bind fun q => jm_ev d (jm_psh (jM_become, 10, [some (jm_R 21 0), some (jm_I x1), some (jm_I x2), none], [], jm_wi σ 21 0 0 (0 : Int32)) q) := (jm_un_eq [0, 10, 22, 25, 37, 50] d 7 (jM_become, 0, [some (jm_R 21 0), some (jm_I x1), some (jm_I x2), none], [], σ)).trans rfl
theorem gM_become_10 (d : Nat) (σ : jm_S) (x1 x2 xs0 : Int32) : jm_ev d (jM_become, 10, [some (jm_R 21 0), some (jm_I x1), some (jm_I x2), none], [jm_I xs0], σ) = cond (decide (xs0 = 0)) (jm_ev d (jM_become, 25, [some (jm_R 21 0), some (jm_I x1), some (jm_I x2), none], [], σ)) ((jm_call d jM_in [jm_L x2.toInt64, jm_L (1 : Int64), jm_L (5 : Int64)] σ).bind fun q => jm_ev d (jm_psh (jM_become, 22, [some (jm_R 21 0), some (jm_I x1), some (jm_I x2), none], [], σ) q)) := (jm_un_eq [0, 10, 22, 25, 37, 50] d 7 _).trans rfl
theorem gM_become_22 (d : Nat) (σ : jm_S) (x1 x2 xs0 : Int32) : jm_ev d (jM_become, 22, [some (jm_R 21 0), some (jm_I x1), some (jm_I x2), none], [jm_I xs0], σ) = cond (decide (¬ xs0 = 0)) ((jm_call d jM_of [jm_R 25 0, jm_I x1, jm_I (0 : Int32)] σ).bind fun q => jm_ev d (jm_psh (jM_become, 37, [some (jm_R 21 0), some (jm_I x1), some (jm_I x2), none], [], σ) q)) (jm_ev d (jM_become, 25, [some (jm_R 21 0), some (jm_I x1), some (jm_I x2), none], [], σ)) := (jm_un_eq [0, 10, 22, 25, 37, 50] d 7 _).trans rfl
theorem gM_become_25 (d : Nat) (σ : jm_S) (x1 x2 : Int32) : jm_ev d (jM_become, 25, [some (jm_R 21 0), some (jm_I x1), some (jm_I x2), none], [], σ) = some (some (jm_I (-1000001 : Int32)), σ) := (jm_un_eq [0, 10, 22, 25, 37, 50] d 3 _).trans rfl
theorem gM_become_37 (d : Nat) (σ : jm_S) (x1 x2 xs0 : Int32) : jm_ev d (jM_become, 37, [some (jm_R 21 0), some (jm_I x1), some (jm_I x2), none], [jm_I xs0], σ) = cond (decide (¬ xs0 = x2)) ((jm_call d jM_keep [jm_R 21 0] σ).bind fun q => jm_ev d (jm_psh (jM_become, 50, [some (jm_R 21 0), some (jm_I x1), some (jm_I x2), some (jm_I xs0)], [], σ) q)) (some (some (jm_I (-1000002 : Int32)), σ)) := (jm_un_eq [0, 10, 22, 25, 37, 50] d 7 _).trans rfl
theorem gM_become_50 (d : Nat) (σ : jm_S) (x1 x2 x3 : Int32) : jm_ev d (jM_become, 50, [some (jm_R 21 0), some (jm_I x1), some (jm_I x2), some (jm_I x3)], [], σ) = cond (jm_in3 ((2 : Int32) + ((4 : Int32) * x1)) 26) (some (some (jm_I x3), jm_wi σ 25 0 (((2 : Int32) + ((4 : Int32) * x1)).toNatClampNeg) x2)) (none) := (jm_un_eq [0, 10, 22, 25, 37, 50] d 12 _).trans rfl
theorem gM_mark_0 (d : Nat) (σ : jm_S) (x1 : Int32) : jm_call (d + 1) jM_mark [jm_R 21 0, jm_I x1] σ = (jm_call d jM_isThere [jm_R 21 0] (jm_wi σ 21 0 0 (0 : Int32))).bind fun q => jm_ev d (jm_psh (jM_mark, 9, [some (jm_R 21 0), some (jm_I x1), none], [], jm_wi σ 21 0 0 (0 : Int32)) q) := (jm_un_eq [0, 9, 24, 34] d 6 (jM_mark, 0, [some (jm_R 21 0), some (jm_I x1), none], [], σ)).trans rfl
theorem gM_mark_9 (d : Nat) (σ : jm_S) (x1 xs0 : Int32) : jm_ev d (jM_mark, 9, [some (jm_R 21 0), some (jm_I x1), none], [jm_I xs0], σ) = cond (decide (¬ xs0 = 0)) ((jm_call d jM_in [jm_L x1.toInt64, jm_L (0 : Int64), jm_L (200 : Int64)] σ).bind fun q => jm_ev d (jm_psh (jM_mark, 24, [some (jm_R 21 0), some (jm_I x1), none], [], σ) q)) (some (some (jm_I (-1000002 : Int32)), σ)) := (jm_un_eq [0, 9, 24, 34] d 7 _).trans rfl
theorem gM_mark_24 (d : Nat) (σ : jm_S) (x1 xs0 : Int32) : jm_ev d (jM_mark, 24, [some (jm_R 21 0), some (jm_I x1), none], [jm_I xs0], σ) = cond (decide (¬ xs0 = 0)) ((jm_call d jM_keep [jm_R 21 0] σ).bind fun q => jm_ev d (jm_psh (jM_mark, 34, [some (jm_R 21 0), some (jm_I x1), none], [], σ) q)) (some (some (jm_I (-1000001 : Int32)), σ)) := (jm_un_eq [0, 9, 24, 34] d 4 _).trans rfl
theorem gM_mark_34 (d : Nat) (σ : jm_S) (x1 : Int32) : jm_ev d (jM_mark, 34, [some (jm_R 21 0), some (jm_I x1), none], [], σ) = some (some (jm_I (σ.1 25 0 1)), jm_wi σ 25 0 1 x1) := (jm_un_eq [0, 9, 24, 34] d 13 _).trans rfl
theorem gM_swap_0 (d : Nat) (σ : jm_S) (x1 x2 : Int32) : jm_call (d + 1) jM_swap [jm_R 21 0, jm_I x1, jm_I x2] σ = (jm_call d jM_isDisc [jm_R 21 0, jm_I x1] (jm_wi σ 21 0 0 (0 : Int32))).bind fun q => jm_ev d (jm_psh (jM_swap, 10, [some (jm_R 21 0), some (jm_I x1), some (jm_I x2), none, none], [], jm_wi σ 21 0 0 (0 : Int32)) q) := (jm_un_eq [0, 10, 18, 21, 36, 38, 52, 74, 109] d 7 (jM_swap, 0, [some (jm_R 21 0), some (jm_I x1), some (jm_I x2), none, none], [], σ)).trans rfl
theorem gM_swap_10 (d : Nat) (σ : jm_S) (x1 x2 xs0 : Int32) : jm_ev d (jM_swap, 10, [some (jm_R 21 0), some (jm_I x1), some (jm_I x2), none, none], [jm_I xs0], σ) = cond (decide (xs0 = 0)) (jm_ev d (jM_swap, 21, [some (jm_R 21 0), some (jm_I x1), some (jm_I x2), none, none], [], σ)) ((jm_call d jM_isDisc [jm_R 21 0, jm_I x2] σ).bind fun q => jm_ev d (jm_psh (jM_swap, 18, [some (jm_R 21 0), some (jm_I x1), some (jm_I x2), none, none], [], σ) q)) := (jm_un_eq [0, 10, 18, 21, 36, 38, 52, 74, 109] d 5 _).trans rfl
theorem gM_swap_18 (d : Nat) (σ : jm_S) (x1 x2 xs0 : Int32) : jm_ev d (jM_swap, 18, [some (jm_R 21 0), some (jm_I x1), some (jm_I x2), none, none], [jm_I xs0], σ) = cond (decide (¬ xs0 = 0)) (cond (decide (¬ x1 = x2)) ((jm_call d jM_keep [jm_R 21 0] σ).bind fun q => jm_ev d (jm_psh (jM_swap, 36, [some (jm_R 21 0), some (jm_I x1), some (jm_I x2), none, none], [], σ) q)) (some (some (jm_I (-1000002 : Int32)), σ))) (jm_ev d (jM_swap, 21, [some (jm_R 21 0), some (jm_I x1), some (jm_I x2), none, none], [], σ)) := (jm_un_eq [0, 10, 18, 21, 36, 38, 52, 74, 109] d 7 _).trans rfl
theorem gM_swap_21 (d : Nat) (σ : jm_S) (x1 x2 : Int32) : jm_ev d (jM_swap, 21, [some (jm_R 21 0), some (jm_I x1), some (jm_I x2), none, none], [], σ) = some (some (jm_I (-1000001 : Int32)), σ) := (jm_un_eq [0, 10, 18, 21, 36, 38, 52, 74, 109] d 3 _).trans rfl
theorem gM_swap_36 (d : Nat) (σ : jm_S) (x1 x2 : Int32) : jm_ev d (jM_swap, 36, [some (jm_R 21 0), some (jm_I x1), some (jm_I x2), none, none], [], σ) = jm_ev d (jM_swap, 38, [some (jm_R 21 0), some (jm_I x1), some (jm_I x2), some (jm_I (0 : Int32)), none], [], σ) := (jm_un_eq [0, 10, 18, 21, 36, 38, 52, 74, 109] d 3 _).trans rfl
theorem gM_swap_38 (d : Nat) (σ : jm_S) (x1 x2 x3 : Int32) (o4 : Option jm_V) : jm_ev d (jM_swap, 38, [some (jm_R 21 0), some (jm_I x1), some (jm_I x2), some (jm_I x3), o4], [], σ) = cond (decide ((4 : Int32) ≤ x3)) (cond (decide (x2 ≤ x1)) (jm_ev d (jM_swap, 109, [some (jm_R 21 0), some (jm_I x1), some (jm_I x2), some (jm_I x3), o4], [jm_I (x1 - x2)], σ)) (jm_ev d (jM_swap, 109, [some (jm_R 21 0), some (jm_I x1), some (jm_I x2), some (jm_I x3), o4], [jm_I (x2 - x1)], σ))) ((jm_call d jM_of [jm_R 25 0, jm_I x1, jm_I x3] σ).bind fun q => jm_ev d (jm_psh (jM_swap, 52, [some (jm_R 21 0), some (jm_I x1), some (jm_I x2), some (jm_I x3), o4], [], σ) q)) := (jm_un_eq [0, 10, 18, 21, 36, 38, 52, 74, 109] d 11 _).trans rfl
theorem gM_swap_52 (d : Nat) (σ : jm_S) (x1 x2 x3 xs0 : Int32) (o4 : Option jm_V) : jm_ev d (jM_swap, 52, [some (jm_R 21 0), some (jm_I x1), some (jm_I x2), some (jm_I x3), o4], [jm_I xs0], σ) = (jm_call d jM_of [jm_R 25 0, jm_I x2, jm_I x3] σ).bind fun q => jm_ev d (jm_psh (jM_swap, 74, [some (jm_R 21 0), some (jm_I x1), some (jm_I x2), some (jm_I x3), some (jm_I xs0)], [jm_I (((2 : Int32) + ((4 : Int32) * x1)) + x3), jm_R 25 0], σ) q) := (jm_un_eq [0, 10, 18, 21, 36, 38, 52, 74, 109] d 16 _).trans rfl
theorem gM_swap_74 (d : Nat) (σ : jm_S) (x1 x2 x3 x4 xs0 xs1 : Int32) : jm_ev d (jM_swap, 74, [some (jm_R 21 0), some (jm_I x1), some (jm_I x2), some (jm_I x3), some (jm_I x4)], [jm_I xs0, jm_I xs1, jm_R 25 0], σ) = cond (jm_in3 xs1 26) (cond (jm_in3 (((2 : Int32) + ((4 : Int32) * x2)) + x3) 26) (jm_ev d (jM_swap, 38, [some (jm_R 21 0), some (jm_I x1), some (jm_I x2), some (jm_I (x3 + (1 : Int32))), some (jm_I x4)], [], jm_wi (jm_wi σ 25 0 xs1.toNatClampNeg xs0) 25 0 ((((2 : Int32) + ((4 : Int32) * x2)) + x3).toNatClampNeg) x4)) (none)) (none) := (jm_un_eq [0, 10, 18, 21, 36, 38, 52, 74, 109] d 15 _).trans rfl
theorem gM_swap_109 (d : Nat) (σ : jm_S) (x1 x2 x3 xs0 : Int32) (o4 : Option jm_V) : jm_ev d (jM_swap, 109, [some (jm_R 21 0), some (jm_I x1), some (jm_I x2), some (jm_I x3), o4], [jm_I xs0], σ) = some (some (jm_I (xs0 + (1 : Int32))), σ) := (jm_un_eq [0, 10, 18, 21, 36, 38, 52, 74, 109] d 4 _).trans rfl
theorem gM_undo_0 (d : Nat) (σ : jm_S) : jm_call (d + 1) jM_undo [jm_R 21 0] σ = cond (decide (¬ σ.1 21 0 9 = 0)) (jm_ev d (jM_undo, 27, [some (jm_R 21 0), some (jm_I (0 : Int32))], [], jm_wi (jm_wi σ 21 0 0 (0 : Int32)) 21 0 9 ((σ.1 21 0 9) - (1 : Int32)))) (some (some (jm_I (-1000002 : Int32)), jm_wi σ 21 0 0 (0 : Int32))) := (jm_un_eq [0, 27] d 15 (jM_undo, 0, [some (jm_R 21 0), none], [], σ)).trans rfl
theorem gM_undo_27 (d : Nat) (σ : jm_S) (x1 : Int32) : jm_ev d (jM_undo, 27, [some (jm_R 21 0), some (jm_I x1)], [], σ) = cond (decide ((26 : Int32) ≤ x1)) (some (some (jm_I (σ.1 21 0 9)), σ)) (cond (jm_in3 (((26 : Int32) * (σ.1 21 0 9)) + x1) 624) (cond (jm_in3 x1 26) (jm_ev d (jM_undo, 27, [some (jm_R 21 0), some (jm_I (x1 + (1 : Int32)))], [], jm_wi σ 25 0 x1.toNatClampNeg (σ.1 26 0 ((((26 : Int32) * (σ.1 21 0 9)) + x1).toNatClampNeg)))) (none)) (none)) := (jm_un_eq [0, 27] d 19 _).trans rfl
theorem gM_disc_0 (d : Nat) (σ : jm_S) (x1 x2 : Int32) : jm_call (d + 1) jM_disc [jm_R 21 0, jm_I x1, jm_I x2] σ = (jm_call d jM_isDisc [jm_R 21 0, jm_I x1] (jm_wi σ 21 0 0 (0 : Int32))).bind fun q => jm_ev d (jm_psh (jM_disc, 10, [some (jm_R 21 0), some (jm_I x1), some (jm_I x2)], [], jm_wi σ 21 0 0 (0 : Int32)) q) := (jm_un_eq [0, 10, 71, 80, 89, 98, 107] d 7 (jM_disc, 0, [some (jm_R 21 0), some (jm_I x1), some (jm_I x2)], [], σ)).trans rfl
theorem gM_disc_10 (d : Nat) (σ : jm_S) (x1 x2 xs0 : Int32) : jm_ev d (jM_disc, 10, [some (jm_R 21 0), some (jm_I x1), some (jm_I x2)], [jm_I xs0], σ) = cond (decide (¬ xs0 = 0)) (cond (decide (x2.toInt = 0)) ((jm_call d jM_of [jm_R 25 0, jm_I x1, jm_I ((1 : Int32) + x2)] σ).bind fun q => jm_ev d (jm_psh (jM_disc, 71, [some (jm_R 21 0), some (jm_I x1), some (jm_I x2)], [], σ) q)) (cond (decide (x2.toInt = 1)) ((jm_call d jM_of [jm_R 25 0, jm_I x1, jm_I ((1 : Int32) + x2)] σ).bind fun q => jm_ev d (jm_psh (jM_disc, 71, [some (jm_R 21 0), some (jm_I x1), some (jm_I x2)], [], σ) q)) (cond (decide (x2.toInt = 2)) ((jm_call d jM_of [jm_R 25 0, jm_I x1, jm_I ((1 : Int32) + x2)] σ).bind fun q => jm_ev d (jm_psh (jM_disc, 71, [some (jm_R 21 0), some (jm_I x1), some (jm_I x2)], [], σ) q)) (cond (decide (x2.toInt = 3)) ((jm_call d jM_ratio [jm_R 25 0, jm_I x1] σ).bind fun q => jm_ev d (jm_psh (jM_disc, 80, [some (jm_R 21 0), some (jm_I x1), some (jm_I x2)], [], σ) q)) (cond (decide (x2.toInt = 4)) ((jm_call d jM_weight [jm_R 25 0, jm_I x1] σ).bind fun q => jm_ev d (jm_psh (jM_disc, 89, [some (jm_R 21 0), some (jm_I x1), some (jm_I x2)], [], σ) q)) (cond (decide (x2.toInt = 5)) ((jm_call d jM_spring [jm_R 25 0, jm_I x1] σ).bind fun q => jm_ev d (jm_psh (jM_disc, 98, [some (jm_R 21 0), some (jm_I x1), some (jm_I x2)], [], σ) q)) (cond (decide (x2.toInt = 6)) ((jm_call d jM_tie [jm_R 25 0, jm_I x1] σ).bind fun q => jm_ev d (jm_psh (jM_disc, 107, [some (jm_R 21 0), some (jm_I x1), some (jm_I x2)], [], σ) q)) (some (some (jm_I (-1000001 : Int32)), σ))))))))) (some (some (jm_I (-1000001 : Int32)), σ)) := (jm_un_eq [0, 10, 71, 80, 89, 98, 107] d 11 _).trans rfl
theorem gM_disc_71 (d : Nat) (σ : jm_S) (x1 x2 xs0 : Int32) : jm_ev d (jM_disc, 71, [some (jm_R 21 0), some (jm_I x1), some (jm_I x2)], [jm_I xs0], σ) = some (some (jm_I xs0), σ) := (jm_un_eq [0, 10, 71, 80, 89, 98, 107] d 2 _).trans rfl
theorem gM_disc_80 (d : Nat) (σ : jm_S) (x1 x2 xs0 : Int32) : jm_ev d (jM_disc, 80, [some (jm_R 21 0), some (jm_I x1), some (jm_I x2)], [jm_I xs0], σ) = some (some (jm_I xs0), σ) := (jm_un_eq [0, 10, 71, 80, 89, 98, 107] d 2 _).trans rfl
theorem gM_disc_89 (d : Nat) (σ : jm_S) (x1 x2 xs0 : Int32) : jm_ev d (jM_disc, 89, [some (jm_R 21 0), some (jm_I x1), some (jm_I x2)], [jm_I xs0], σ) = some (some (jm_I xs0), σ) := (jm_un_eq [0, 10, 71, 80, 89, 98, 107] d 2 _).trans rfl
theorem gM_disc_98 (d : Nat) (σ : jm_S) (x1 x2 xs0 : Int32) : jm_ev d (jM_disc, 98, [some (jm_R 21 0), some (jm_I x1), some (jm_I x2)], [jm_I xs0], σ) = some (some (jm_I xs0), σ) := (jm_un_eq [0, 10, 71, 80, 89, 98, 107] d 2 _).trans rfl
theorem gM_disc_107 (d : Nat) (σ : jm_S) (x1 x2 xs0 : Int32) : jm_ev d (jM_disc, 107, [some (jm_R 21 0), some (jm_I x1), some (jm_I x2)], [jm_I xs0], σ) = some (some (jm_I xs0), σ) := (jm_un_eq [0, 10, 71, 80, 89, 98, 107] d 2 _).trans rfl
theorem gM_unless_0 (d : Nat) (σ : jm_S) (x1 : Int32) : jm_call (d + 1) jM_unless [jm_R 21 0, jm_I x1] σ = cond (decide (σ.1 21 0 19 = 0)) (jm_ev d (jM_unless, 22, [some (jm_R 21 0), some (jm_I x1)], [jm_I x1], jm_wi σ 21 0 1 (0 : Int32))) ((jm_call d jM_finding [jm_R 21 0, jm_I (6 : Int32)] (jm_wi σ 21 0 1 (0 : Int32))).bind fun q => jm_ev d (jm_psh (jM_unless, 18, [some (jm_R 21 0), some (jm_I x1)], [], jm_wi σ 21 0 1 (0 : Int32)) q)) := (jm_un_eq [0, 18, 22] d 10 (jM_unless, 0, [some (jm_R 21 0), some (jm_I x1)], [], σ)).trans rfl
theorem gM_unless_18 (d : Nat) (σ : jm_S) (x1 xs0 : Int32) : jm_ev d (jM_unless, 18, [some (jm_R 21 0), some (jm_I x1)], [jm_I xs0], σ) = jm_ev d (jM_unless, 22, [some (jm_R 21 0), some (jm_I x1)], [jm_I xs0], σ) := (jm_un_eq [0, 18, 22] d 2 _).trans rfl
theorem gM_unless_22 (d : Nat) (σ : jm_S) (x1 xs0 : Int32) : jm_ev d (jM_unless, 22, [some (jm_R 21 0), some (jm_I x1)], [jm_I xs0], σ) = some (some (jm_I xs0), σ) := (jm_un_eq [0, 18, 22] d 2 _).trans rfl
theorem gM_determinant_0 (d : Nat) (σ : jm_S) (x1 x2 : Int32) : jm_call (d + 1) jM_determinant [jm_R 21 0, jm_I x1, jm_I x2] σ = (jm_call d jM_isThere [jm_R 21 0] (jm_wi σ 21 0 0 (0 : Int32))).bind fun q => jm_ev d (jm_psh (jM_determinant, 9, [some (jm_R 21 0), some (jm_I x1), some (jm_I x2)], [], jm_wi σ 21 0 0 (0 : Int32)) q) := (jm_un_eq [0, 9, 29, 41, 44, 58, 76, 86] d 6 (jM_determinant, 0, [some (jm_R 21 0), some (jm_I x1), some (jm_I x2)], [], σ)).trans rfl
theorem gM_determinant_9 (d : Nat) (σ : jm_S) (x1 x2 xs0 : Int32) : jm_ev d (jM_determinant, 9, [some (jm_R 21 0), some (jm_I x1), some (jm_I x2)], [jm_I xs0], σ) = cond (decide (¬ xs0 = 0)) ((jm_call d jM_in [jm_L x1.toInt64, jm_L (0 : Int64), jm_L ((σ.1 25 0 0).toInt64)] σ).bind fun q => jm_ev d (jm_psh (jM_determinant, 29, [some (jm_R 21 0), some (jm_I x1), some (jm_I x2)], [], σ) q)) (some (some (jm_L (-1000002 : Int64)), σ)) := (jm_un_eq [0, 9, 29, 41, 44, 58, 76, 86] d 11 _).trans rfl
theorem gM_determinant_29 (d : Nat) (σ : jm_S) (x1 x2 xs0 : Int32) : jm_ev d (jM_determinant, 29, [some (jm_R 21 0), some (jm_I x1), some (jm_I x2)], [jm_I xs0], σ) = cond (decide (xs0 = 0)) (jm_ev d (jM_determinant, 44, [some (jm_R 21 0), some (jm_I x1), some (jm_I x2)], [], σ)) ((jm_call d jM_in [jm_L x2.toInt64, jm_L (0 : Int64), jm_L (200 : Int64)] σ).bind fun q => jm_ev d (jm_psh (jM_determinant, 41, [some (jm_R 21 0), some (jm_I x1), some (jm_I x2)], [], σ) q)) := (jm_un_eq [0, 9, 29, 41, 44, 58, 76, 86] d 7 _).trans rfl
theorem gM_determinant_41 (d : Nat) (σ : jm_S) (x1 x2 xs0 : Int32) : jm_ev d (jM_determinant, 41, [some (jm_R 21 0), some (jm_I x1), some (jm_I x2)], [jm_I xs0], σ) = cond (decide (¬ xs0 = 0)) ((jm_call d jM_reckon [jm_R 21 0, jm_R 25 0, jm_I x1, jm_I x2] σ).bind fun q => jm_ev d (jm_psh (jM_determinant, 58, [some (jm_R 21 0), some (jm_I x1), some (jm_I x2)], [], σ) q)) (jm_ev d (jM_determinant, 44, [some (jm_R 21 0), some (jm_I x1), some (jm_I x2)], [], σ)) := (jm_un_eq [0, 9, 29, 41, 44, 58, 76, 86] d 8 _).trans rfl
theorem gM_determinant_44 (d : Nat) (σ : jm_S) (x1 x2 : Int32) : jm_ev d (jM_determinant, 44, [some (jm_R 21 0), some (jm_I x1), some (jm_I x2)], [], σ) = some (some (jm_L (-1000001 : Int64)), σ) := (jm_un_eq [0, 9, 29, 41, 44, 58, 76, 86] d 3 _).trans rfl
theorem gM_determinant_58 (d : Nat) (σ : jm_S) (x1 x2 : Int32) : jm_ev d (jM_determinant, 58, [some (jm_R 21 0), some (jm_I x1), some (jm_I x2)], [], σ) = cond (decide (σ.1 21 0 19 = 0)) (cond (jm_in3 x1 7) (jm_ev d (jM_determinant, 86, [some (jm_R 21 0), some (jm_I x1), some (jm_I x2)], [jm_L (σ.2 28 0 x1.toNatClampNeg)], jm_wi σ 21 0 1 (0 : Int32))) (none)) ((jm_call d jM_finding [jm_R 21 0, jm_I (6 : Int32)] (jm_wi σ 21 0 1 (0 : Int32))).bind fun q => jm_ev d (jm_psh (jM_determinant, 76, [some (jm_R 21 0), some (jm_I x1), some (jm_I x2)], [], jm_wi σ 21 0 1 (0 : Int32)) q)) := (jm_un_eq [0, 9, 29, 41, 44, 58, 76, 86] d 11 _).trans rfl
theorem gM_determinant_76 (d : Nat) (σ : jm_S) (x1 x2 xs0 : Int32) : jm_ev d (jM_determinant, 76, [some (jm_R 21 0), some (jm_I x1), some (jm_I x2)], [jm_I xs0], σ) = jm_ev d (jM_determinant, 86, [some (jm_R 21 0), some (jm_I x1), some (jm_I x2)], [jm_L xs0.toInt64], σ) := (jm_un_eq [0, 9, 29, 41, 44, 58, 76, 86] d 3 _).trans rfl
theorem gM_determinant_86 (d : Nat) (σ : jm_S) (x1 x2 : Int32) (ls0 : Int64) : jm_ev d (jM_determinant, 86, [some (jm_R 21 0), some (jm_I x1), some (jm_I x2)], [jm_L ls0], σ) = some (some (jm_L ls0), σ) := (jm_un_eq [0, 9, 29, 41, 44, 58, 76, 86] d 2 _).trans rfl
theorem gM_below_0 (d : Nat) (σ : jm_S) (x1 : Int32) : jm_call (d + 1) jM_below [jm_R 21 0, jm_I x1] σ = (jm_call d jM_isThere [jm_R 21 0] (jm_wi σ 21 0 0 (0 : Int32))).bind fun q => jm_ev d (jm_psh (jM_below, 9, [some (jm_R 21 0), some (jm_I x1)], [], jm_wi σ 21 0 0 (0 : Int32)) q) := (jm_un_eq [0, 9, 24, 40, 43] d 6 (jM_below, 0, [some (jm_R 21 0), some (jm_I x1)], [], σ)).trans rfl
theorem gM_below_9 (d : Nat) (σ : jm_S) (x1 xs0 : Int32) : jm_ev d (jM_below, 9, [some (jm_R 21 0), some (jm_I x1)], [jm_I xs0], σ) = cond (decide (¬ xs0 = 0)) ((jm_call d jM_in [jm_L x1.toInt64, jm_L (0 : Int64), jm_L (200 : Int64)] σ).bind fun q => jm_ev d (jm_psh (jM_below, 24, [some (jm_R 21 0), some (jm_I x1)], [], σ) q)) (some (some (jm_I (-1000002 : Int32)), σ)) := (jm_un_eq [0, 9, 24, 40, 43] d 7 _).trans rfl
theorem gM_below_24 (d : Nat) (σ : jm_S) (x1 xs0 : Int32) : jm_ev d (jM_below, 24, [some (jm_R 21 0), some (jm_I x1)], [jm_I xs0], σ) = cond (decide (¬ xs0 = 0)) ((jm_call d jM_belowOf [jm_R 21 0, jm_R 25 0, jm_I x1] σ).bind fun q => jm_ev d (jm_psh (jM_below, 40, [some (jm_R 21 0), some (jm_I x1)], [jm_R 21 0], σ) q)) (some (some (jm_I (-1000001 : Int32)), σ)) := (jm_un_eq [0, 9, 24, 40, 43] d 8 _).trans rfl
theorem gM_below_40 (d : Nat) (σ : jm_S) (x1 xs0 : Int32) : jm_ev d (jM_below, 40, [some (jm_R 21 0), some (jm_I x1)], [jm_I xs0, jm_R 21 0], σ) = (jm_call d jM_unless [jm_R 21 0, jm_I xs0] σ).bind fun q => jm_ev d (jm_psh (jM_below, 43, [some (jm_R 21 0), some (jm_I x1)], [], σ) q) := (jm_un_eq [0, 9, 24, 40, 43] d 2 _).trans rfl
theorem gM_below_43 (d : Nat) (σ : jm_S) (x1 xs0 : Int32) : jm_ev d (jM_below, 43, [some (jm_R 21 0), some (jm_I x1)], [jm_I xs0], σ) = some (some (jm_I xs0), σ) := (jm_un_eq [0, 9, 24, 40, 43] d 2 _).trans rfl
theorem gM_box_0 (d : Nat) (σ : jm_S) (x1 : Int32) : jm_call (d + 1) jM_box [jm_R 21 0, jm_I x1] σ = (jm_call d jM_isDisc [jm_R 21 0, jm_I x1] (jm_wi σ 21 0 0 (0 : Int32))).bind fun q => jm_ev d (jm_psh (jM_box, 10, [some (jm_R 21 0), some (jm_I x1)], [], jm_wi σ 21 0 0 (0 : Int32)) q) := (jm_un_eq [0, 10, 26, 29] d 7 (jM_box, 0, [some (jm_R 21 0), some (jm_I x1)], [], σ)).trans rfl
theorem gM_box_10 (d : Nat) (σ : jm_S) (x1 xs0 : Int32) : jm_ev d (jM_box, 10, [some (jm_R 21 0), some (jm_I x1)], [jm_I xs0], σ) = cond (decide (¬ xs0 = 0)) ((jm_call d jM_boxOf [jm_R 21 0, jm_R 25 0, jm_I x1] σ).bind fun q => jm_ev d (jm_psh (jM_box, 26, [some (jm_R 21 0), some (jm_I x1)], [jm_R 21 0], σ) q)) (some (some (jm_I (-1000001 : Int32)), σ)) := (jm_un_eq [0, 10, 26, 29] d 8 _).trans rfl
theorem gM_box_26 (d : Nat) (σ : jm_S) (x1 xs0 : Int32) : jm_ev d (jM_box, 26, [some (jm_R 21 0), some (jm_I x1)], [jm_I xs0, jm_R 21 0], σ) = (jm_call d jM_unless [jm_R 21 0, jm_I xs0] σ).bind fun q => jm_ev d (jm_psh (jM_box, 29, [some (jm_R 21 0), some (jm_I x1)], [], σ) q) := (jm_un_eq [0, 10, 26, 29] d 2 _).trans rfl
theorem gM_box_29 (d : Nat) (σ : jm_S) (x1 xs0 : Int32) : jm_ev d (jM_box, 29, [some (jm_R 21 0), some (jm_I x1)], [jm_I xs0], σ) = some (some (jm_I xs0), σ) := (jm_un_eq [0, 10, 26, 29] d 2 _).trans rfl
theorem gM_widest_0 (d : Nat) (σ : jm_S) (x1 : Int32) : jm_call (d + 1) jM_widest [jm_R 21 0, jm_I x1] σ = (jm_call d jM_isThere [jm_R 21 0] (jm_wi σ 21 0 0 (0 : Int32))).bind fun q => jm_ev d (jm_psh (jM_widest, 9, [some (jm_R 21 0), some (jm_I x1), none, none, none], [], jm_wi σ 21 0 0 (0 : Int32)) q) := (jm_un_eq [0, 9, 22, 42, 51, 122, 143, 149, 159, 162] d 6 (jM_widest, 0, [some (jm_R 21 0), some (jm_I x1), none, none, none], [], σ)).trans rfl
theorem gM_widest_9 (d : Nat) (σ : jm_S) (x1 xs0 : Int32) : jm_ev d (jM_widest, 9, [some (jm_R 21 0), some (jm_I x1), none, none, none], [jm_I xs0], σ) = cond (decide (¬ xs0 = 0)) ((jm_call d jM_in [jm_L x1.toInt64, jm_L (0 : Int64), jm_L (1 : Int64)] σ).bind fun q => jm_ev d (jm_psh (jM_widest, 22, [some (jm_R 21 0), some (jm_I x1), none, none, none], [], σ) q)) (some (some (jm_I (-1000002 : Int32)), σ)) := (jm_un_eq [0, 9, 22, 42, 51, 122, 143, 149, 159, 162] d 7 _).trans rfl
theorem gM_widest_22 (d : Nat) (σ : jm_S) (x1 xs0 : Int32) : jm_ev d (jM_widest, 22, [some (jm_R 21 0), some (jm_I x1), none, none, none], [jm_I xs0], σ) = cond (decide (¬ xs0 = 0)) ((jm_call d jM_layBoxes [jm_R 21 0, jm_R 25 0, jm_I (σ.1 25 0 0)] σ).bind fun q => jm_ev d (jm_psh (jM_widest, 42, [some (jm_R 21 0), some (jm_I x1), none, none, none], [], σ) q)) (some (some (jm_I (-1000001 : Int32)), σ)) := (jm_un_eq [0, 9, 22, 42, 51, 122, 143, 149, 159, 162] d 10 _).trans rfl
theorem gM_widest_42 (d : Nat) (σ : jm_S) (x1 : Int32) : jm_ev d (jM_widest, 42, [some (jm_R 21 0), some (jm_I x1), none, none, none], [], σ) = jm_ev d (jM_widest, 51, [some (jm_R 21 0), some (jm_I x1), some (jm_I (-1000000 : Int32)), some (jm_I (-1000000 : Int32)), some (jm_I (1 : Int32))], [], σ) := (jm_un_eq [0, 9, 22, 42, 51, 122, 143, 149, 159, 162] d 7 _).trans rfl
theorem gM_widest_51 (d : Nat) (σ : jm_S) (x1 x2 x3 x4 : Int32) : jm_ev d (jM_widest, 51, [some (jm_R 21 0), some (jm_I x1), some (jm_I x2), some (jm_I x3), some (jm_I x4)], [], σ) = cond (decide (σ.1 25 0 0 ≤ x4)) (jm_ev d (jM_widest, 149, [some (jm_R 21 0), some (jm_I x1), some (jm_I x2), some (jm_I x3), some (jm_I x4)], [], σ)) (cond (decide (¬ σ.1 21 0 19 = 0)) (jm_ev d (jM_widest, 149, [some (jm_R 21 0), some (jm_I x1), some (jm_I x2), some (jm_I x3), some (jm_I x4)], [], σ)) (cond (jm_in3 x4 6) (cond (decide (σ.1 29 0 x4.toNatClampNeg = (-1000000 : Int32))) (jm_ev d (jM_widest, 143, [some (jm_R 21 0), some (jm_I x1), some (jm_I x2), some (jm_I x3), some (jm_I x4)], [], σ)) (cond (jm_in3 (x4 - (1 : Int32)) 6) (cond (decide (σ.1 29 0 ((x4 - (1 : Int32)).toNatClampNeg) = (-1000000 : Int32))) (jm_ev d (jM_widest, 143, [some (jm_R 21 0), some (jm_I x1), some (jm_I x2), some (jm_I x3), some (jm_I x4)], [], σ)) (cond (decide (x2 = (-1000000 : Int32))) (jm_ev d (jM_widest, 122, [some (jm_R 21 0), some (jm_I x1), some (jm_I x2), some (jm_I x3), some (jm_I x4)], [], σ)) (cond (jm_in3 x4 6) (cond (jm_in3 (x4 - (1 : Int32)) 6) (cond (decide ((σ.1 29 0 x4.toNatClampNeg) - (σ.1 29 0 ((x4 - (1 : Int32)).toNatClampNeg)) ≤ x3)) (jm_ev d (jM_widest, 143, [some (jm_R 21 0), some (jm_I x1), some (jm_I x2), some (jm_I x3), some (jm_I x4)], [], σ)) (jm_ev d (jM_widest, 122, [some (jm_R 21 0), some (jm_I x1), some (jm_I x2), some (jm_I x3), some (jm_I x4)], [], σ))) (none)) (none)))) (none))) (none))) := (jm_un_eq [0, 9, 22, 42, 51, 122, 143, 149, 159, 162] d 40 _).trans rfl
theorem gM_widest_122 (d : Nat) (σ : jm_S) (x1 x2 x3 x4 : Int32) : jm_ev d (jM_widest, 122, [some (jm_R 21 0), some (jm_I x1), some (jm_I x2), some (jm_I x3), some (jm_I x4)], [], σ) = cond (jm_in3 x4 6) (cond (jm_in3 (x4 - (1 : Int32)) 6) (jm_ev d (jM_widest, 143, [some (jm_R 21 0), some (jm_I x1), some (jm_I x4), some (jm_I ((σ.1 29 0 x4.toNatClampNeg) - (σ.1 29 0 ((x4 - (1 : Int32)).toNatClampNeg)))), some (jm_I x4)], [], σ)) (none)) (none) := (jm_un_eq [0, 9, 22, 42, 51, 122, 143, 149, 159, 162] d 15 _).trans rfl
theorem gM_widest_143 (d : Nat) (σ : jm_S) (x1 x2 x3 x4 : Int32) : jm_ev d (jM_widest, 143, [some (jm_R 21 0), some (jm_I x1), some (jm_I x2), some (jm_I x3), some (jm_I x4)], [], σ) = jm_ev d (jM_widest, 51, [some (jm_R 21 0), some (jm_I x1), some (jm_I x2), some (jm_I x3), some (jm_I (x4 + (1 : Int32)))], [], σ) := (jm_un_eq [0, 9, 22, 42, 51, 122, 143, 149, 159, 162] d 3 _).trans rfl
theorem gM_widest_149 (d : Nat) (σ : jm_S) (x1 x2 x3 x4 : Int32) : jm_ev d (jM_widest, 149, [some (jm_R 21 0), some (jm_I x1), some (jm_I x2), some (jm_I x3), some (jm_I x4)], [], σ) = cond (decide (¬ x1 = 0)) (jm_ev d (jM_widest, 159, [some (jm_R 21 0), some (jm_I x1), some (jm_I x2), some (jm_I x3), some (jm_I x4)], [jm_I x3, jm_R 21 0], σ)) (jm_ev d (jM_widest, 159, [some (jm_R 21 0), some (jm_I x1), some (jm_I x2), some (jm_I x3), some (jm_I x4)], [jm_I x2, jm_R 21 0], σ)) := (jm_un_eq [0, 9, 22, 42, 51, 122, 143, 149, 159, 162] d 6 _).trans rfl
theorem gM_widest_159 (d : Nat) (σ : jm_S) (x1 x2 x3 x4 xs0 : Int32) : jm_ev d (jM_widest, 159, [some (jm_R 21 0), some (jm_I x1), some (jm_I x2), some (jm_I x3), some (jm_I x4)], [jm_I xs0, jm_R 21 0], σ) = (jm_call d jM_unless [jm_R 21 0, jm_I xs0] σ).bind fun q => jm_ev d (jm_psh (jM_widest, 162, [some (jm_R 21 0), some (jm_I x1), some (jm_I x2), some (jm_I x3), some (jm_I x4)], [], σ) q) := (jm_un_eq [0, 9, 22, 42, 51, 122, 143, 149, 159, 162] d 2 _).trans rfl
theorem gM_widest_162 (d : Nat) (σ : jm_S) (x1 x2 x3 x4 xs0 : Int32) : jm_ev d (jM_widest, 162, [some (jm_R 21 0), some (jm_I x1), some (jm_I x2), some (jm_I x3), some (jm_I x4)], [jm_I xs0], σ) = some (some (jm_I xs0), σ) := (jm_un_eq [0, 9, 22, 42, 51, 122, 143, 149, 159, 162] d 2 _).trans rfl
theorem gM_isClear_0 (d : Nat) (σ : jm_S) (x1 x2 : Int32) : jm_call (d + 1) jM_isClear [jm_R 21 0, jm_I x1, jm_I x2] σ = jm_ev d (jM_isClear, 5, [some (jm_R 21 0), some (jm_I x1), some (jm_I x2), some (jm_I (1 : Int32)), some (jm_I (0 : Int32))], [], σ) := (jm_un_eq [0, 5, 58, 62, 63] d 5 (jM_isClear, 0, [some (jm_R 21 0), some (jm_I x1), some (jm_I x2), none, none], [], σ)).trans rfl
theorem gM_isClear_5 (d : Nat) (σ : jm_S) (x1 x2 x3 x4 : Int32) : jm_ev d (jM_isClear, 5, [some (jm_R 21 0), some (jm_I x1), some (jm_I x2), some (jm_I x3), some (jm_I x4)], [], σ) = cond (decide (σ.1 25 0 0 ≤ x4)) (cond (jm_b01 x3) (some (some (jm_I x3), σ)) none) (cond (decide (x3 = 0)) (jm_ev d (jM_isClear, 62, [some (jm_R 21 0), some (jm_I x1), some (jm_I x2), some (jm_I x3), some (jm_I x4)], [], σ)) (cond (jm_in3 x4 6) (cond (decide (σ.1 29 0 x4.toNatClampNeg = (-1000000 : Int32))) (jm_ev d (jM_isClear, 58, [some (jm_R 21 0), some (jm_I x1), some (jm_I x2), some (jm_I x3), some (jm_I x4)], [], σ)) (cond (jm_in3 x4 6) (cond (decide (x2 < x1 - (σ.1 29 0 x4.toNatClampNeg))) (jm_ev d (jM_isClear, 58, [some (jm_R 21 0), some (jm_I x1), some (jm_I x2), some (jm_I x3), some (jm_I x4)], [], σ)) (cond (jm_in3 x4 6) (cond (decide ((σ.1 29 0 x4.toNatClampNeg) - x1 ≤ x2)) (jm_ev d (jM_isClear, 62, [some (jm_R 21 0), some (jm_I x1), some (jm_I x2), some (jm_I x3), some (jm_I x4)], [], σ)) (jm_ev d (jM_isClear, 58, [some (jm_R 21 0), some (jm_I x1), some (jm_I x2), some (jm_I x3), some (jm_I x4)], [], σ))) (none))) (none))) (none))) := (jm_un_eq [0, 5, 58, 62, 63] d 31 _).trans rfl
theorem gM_isClear_58 (d : Nat) (σ : jm_S) (x1 x2 x3 x4 : Int32) : jm_ev d (jM_isClear, 58, [some (jm_R 21 0), some (jm_I x1), some (jm_I x2), some (jm_I x3), some (jm_I x4)], [], σ) = jm_ev d (jM_isClear, 63, [some (jm_R 21 0), some (jm_I x1), some (jm_I x2), some (jm_I x3), some (jm_I x4)], [jm_I (1 : Int32)], σ) := (jm_un_eq [0, 5, 58, 62, 63] d 3 _).trans rfl
theorem gM_isClear_62 (d : Nat) (σ : jm_S) (x1 x2 x3 x4 : Int32) : jm_ev d (jM_isClear, 62, [some (jm_R 21 0), some (jm_I x1), some (jm_I x2), some (jm_I x3), some (jm_I x4)], [], σ) = jm_ev d (jM_isClear, 63, [some (jm_R 21 0), some (jm_I x1), some (jm_I x2), some (jm_I x3), some (jm_I x4)], [jm_I (0 : Int32)], σ) := (jm_un_eq [0, 5, 58, 62, 63] d 2 _).trans rfl
theorem gM_isClear_63 (d : Nat) (σ : jm_S) (x1 x2 x3 x4 xs0 : Int32) : jm_ev d (jM_isClear, 63, [some (jm_R 21 0), some (jm_I x1), some (jm_I x2), some (jm_I x3), some (jm_I x4)], [jm_I xs0], σ) = jm_ev d (jM_isClear, 5, [some (jm_R 21 0), some (jm_I x1), some (jm_I x2), some (jm_I xs0), some (jm_I (x4 + (1 : Int32)))], [], σ) := (jm_un_eq [0, 5, 58, 62, 63] d 4 _).trans rfl
theorem gM_clear_0 (d : Nat) (σ : jm_S) (x1 x2 : Int32) : jm_call (d + 1) jM_clear [jm_R 21 0, jm_I x1, jm_I x2] σ = (jm_call d jM_isThere [jm_R 21 0] (jm_wi σ 21 0 0 (0 : Int32))).bind fun q => jm_ev d (jm_psh (jM_clear, 9, [some (jm_R 21 0), some (jm_I x1), some (jm_I x2), none, none], [], jm_wi σ 21 0 0 (0 : Int32)) q) := (jm_un_eq [0, 9, 24, 36, 39, 56, 64, 84, 93, 100, 105] d 6 (jM_clear, 0, [some (jm_R 21 0), some (jm_I x1), some (jm_I x2), none, none], [], σ)).trans rfl
theorem gM_clear_9 (d : Nat) (σ : jm_S) (x1 x2 xs0 : Int32) : jm_ev d (jM_clear, 9, [some (jm_R 21 0), some (jm_I x1), some (jm_I x2), none, none], [jm_I xs0], σ) = cond (decide (¬ xs0 = 0)) ((jm_call d jM_in [jm_L x1.toInt64, jm_L (0 : Int64), jm_L (200 : Int64)] σ).bind fun q => jm_ev d (jm_psh (jM_clear, 24, [some (jm_R 21 0), some (jm_I x1), some (jm_I x2), none, none], [], σ) q)) (some (some (jm_I (-1000002 : Int32)), σ)) := (jm_un_eq [0, 9, 24, 36, 39, 56, 64, 84, 93, 100, 105] d 7 _).trans rfl
theorem gM_clear_24 (d : Nat) (σ : jm_S) (x1 x2 xs0 : Int32) : jm_ev d (jM_clear, 24, [some (jm_R 21 0), some (jm_I x1), some (jm_I x2), none, none], [jm_I xs0], σ) = cond (decide (xs0 = 0)) (jm_ev d (jM_clear, 39, [some (jm_R 21 0), some (jm_I x1), some (jm_I x2), none, none], [], σ)) ((jm_call d jM_in [jm_L x2.toInt64, jm_L (0 : Int64), jm_L (9 : Int64)] σ).bind fun q => jm_ev d (jm_psh (jM_clear, 36, [some (jm_R 21 0), some (jm_I x1), some (jm_I x2), none, none], [], σ) q)) := (jm_un_eq [0, 9, 24, 36, 39, 56, 64, 84, 93, 100, 105] d 7 _).trans rfl
theorem gM_clear_36 (d : Nat) (σ : jm_S) (x1 x2 xs0 : Int32) : jm_ev d (jM_clear, 36, [some (jm_R 21 0), some (jm_I x1), some (jm_I x2), none, none], [jm_I xs0], σ) = cond (decide (¬ xs0 = 0)) ((jm_call d jM_layBoxes [jm_R 21 0, jm_R 25 0, jm_I (σ.1 25 0 0)] σ).bind fun q => jm_ev d (jm_psh (jM_clear, 56, [some (jm_R 21 0), some (jm_I x1), some (jm_I x2), none, none], [], σ) q)) (jm_ev d (jM_clear, 39, [some (jm_R 21 0), some (jm_I x1), some (jm_I x2), none, none], [], σ)) := (jm_un_eq [0, 9, 24, 36, 39, 56, 64, 84, 93, 100, 105] d 10 _).trans rfl
theorem gM_clear_39 (d : Nat) (σ : jm_S) (x1 x2 : Int32) : jm_ev d (jM_clear, 39, [some (jm_R 21 0), some (jm_I x1), some (jm_I x2), none, none], [], σ) = some (some (jm_I (-1000001 : Int32)), σ) := (jm_un_eq [0, 9, 24, 36, 39, 56, 64, 84, 93, 100, 105] d 3 _).trans rfl
theorem gM_clear_56 (d : Nat) (σ : jm_S) (x1 x2 : Int32) : jm_ev d (jM_clear, 56, [some (jm_R 21 0), some (jm_I x1), some (jm_I x2), none, none], [], σ) = jm_ev d (jM_clear, 64, [some (jm_R 21 0), some (jm_I x1), some (jm_I x2), some (jm_I (-1000000 : Int32)), some (jm_I (200 : Int32))], [], σ) := (jm_un_eq [0, 9, 24, 36, 39, 56, 64, 84, 93, 100, 105] d 5 _).trans rfl
theorem gM_clear_64 (d : Nat) (σ : jm_S) (x1 x2 x3 x4 : Int32) : jm_ev d (jM_clear, 64, [some (jm_R 21 0), some (jm_I x1), some (jm_I x2), some (jm_I x3), some (jm_I x4)], [], σ) = cond (decide (x4 < x1)) (jm_ev d (jM_clear, 100, [some (jm_R 21 0), some (jm_I x1), some (jm_I x2), some (jm_I x3), some (jm_I x4)], [], σ)) (cond (decide (¬ σ.1 21 0 19 = 0)) (jm_ev d (jM_clear, 100, [some (jm_R 21 0), some (jm_I x1), some (jm_I x2), some (jm_I x3), some (jm_I x4)], [], σ)) ((jm_call d jM_isClear [jm_R 21 0, jm_I x4, jm_I x2] σ).bind fun q => jm_ev d (jm_psh (jM_clear, 84, [some (jm_R 21 0), some (jm_I x1), some (jm_I x2), some (jm_I x3), some (jm_I x4)], [], σ) q))) := (jm_un_eq [0, 9, 24, 36, 39, 56, 64, 84, 93, 100, 105] d 11 _).trans rfl
theorem gM_clear_84 (d : Nat) (σ : jm_S) (x1 x2 x3 x4 xs0 : Int32) : jm_ev d (jM_clear, 84, [some (jm_R 21 0), some (jm_I x1), some (jm_I x2), some (jm_I x3), some (jm_I x4)], [jm_I xs0], σ) = cond (decide (xs0 = 0)) (jm_ev d (jM_clear, 93, [some (jm_R 21 0), some (jm_I x1), some (jm_I x2), some (jm_I x3), some (jm_I x4)], [jm_I x3], σ)) (jm_ev d (jM_clear, 93, [some (jm_R 21 0), some (jm_I x1), some (jm_I x2), some (jm_I x3), some (jm_I x4)], [jm_I x4], σ)) := (jm_un_eq [0, 9, 24, 36, 39, 56, 64, 84, 93, 100, 105] d 4 _).trans rfl
theorem gM_clear_93 (d : Nat) (σ : jm_S) (x1 x2 x3 x4 xs0 : Int32) : jm_ev d (jM_clear, 93, [some (jm_R 21 0), some (jm_I x1), some (jm_I x2), some (jm_I x3), some (jm_I x4)], [jm_I xs0], σ) = jm_ev d (jM_clear, 64, [some (jm_R 21 0), some (jm_I x1), some (jm_I x2), some (jm_I xs0), some (jm_I (x4 + (-1 : Int32)))], [], σ) := (jm_un_eq [0, 9, 24, 36, 39, 56, 64, 84, 93, 100, 105] d 4 _).trans rfl
theorem gM_clear_100 (d : Nat) (σ : jm_S) (x1 x2 x3 x4 : Int32) : jm_ev d (jM_clear, 100, [some (jm_R 21 0), some (jm_I x1), some (jm_I x2), some (jm_I x3), some (jm_I x4)], [], σ) = (jm_call d jM_unless [jm_R 21 0, jm_I x3] σ).bind fun q => jm_ev d (jm_psh (jM_clear, 105, [some (jm_R 21 0), some (jm_I x1), some (jm_I x2), some (jm_I x3), some (jm_I x4)], [], σ) q) := (jm_un_eq [0, 9, 24, 36, 39, 56, 64, 84, 93, 100, 105] d 4 _).trans rfl
theorem gM_clear_105 (d : Nat) (σ : jm_S) (x1 x2 x3 x4 xs0 : Int32) : jm_ev d (jM_clear, 105, [some (jm_R 21 0), some (jm_I x1), some (jm_I x2), some (jm_I x3), some (jm_I x4)], [jm_I xs0], σ) = some (some (jm_I xs0), σ) := (jm_un_eq [0, 9, 24, 36, 39, 56, 64, 84, 93, 100, 105] d 2 _).trans rfl
theorem gM_stiffer_0 (d : Nat) (σ : jm_S) (x1 x2 : Int32) : jm_call (d + 1) jM_stiffer [jm_R 21 0, jm_I x1, jm_I x2] σ = (jm_call d jM_in [jm_L x1.toInt64, jm_L (0 : Int64), jm_L (((σ.1 25 0 0) - (2 : Int32)).toInt64)] (jm_wi σ 21 0 0 (0 : Int32))).bind fun q => jm_ev d (jm_psh (jM_stiffer, 20, [some (jm_R 21 0), some (jm_I x1), some (jm_I x2), none, none], [], jm_wi σ 21 0 0 (0 : Int32)) q) := (jm_un_eq [0, 20, 32, 35, 40, 50, 80, 95, 100, 113] d 15 (jM_stiffer, 0, [some (jm_R 21 0), some (jm_I x1), some (jm_I x2), none, none], [], σ)).trans rfl
theorem gM_stiffer_20 (d : Nat) (σ : jm_S) (x1 x2 xs0 : Int32) : jm_ev d (jM_stiffer, 20, [some (jm_R 21 0), some (jm_I x1), some (jm_I x2), none, none], [jm_I xs0], σ) = cond (decide (xs0 = 0)) (jm_ev d (jM_stiffer, 35, [some (jm_R 21 0), some (jm_I x1), some (jm_I x2), none, none], [], σ)) ((jm_call d jM_in [jm_L x2.toInt64, jm_L (0 : Int64), jm_L (6 : Int64)] σ).bind fun q => jm_ev d (jm_psh (jM_stiffer, 32, [some (jm_R 21 0), some (jm_I x1), some (jm_I x2), none, none], [], σ) q)) := (jm_un_eq [0, 20, 32, 35, 40, 50, 80, 95, 100, 113] d 7 _).trans rfl
theorem gM_stiffer_32 (d : Nat) (σ : jm_S) (x1 x2 xs0 : Int32) : jm_ev d (jM_stiffer, 32, [some (jm_R 21 0), some (jm_I x1), some (jm_I x2), none, none], [jm_I xs0], σ) = cond (decide (¬ xs0 = 0)) (jm_ev d (jM_stiffer, 40, [some (jm_R 21 0), some (jm_I x1), some (jm_I x2), some (jm_I (0 : Int32)), none], [], σ)) (jm_ev d (jM_stiffer, 35, [some (jm_R 21 0), some (jm_I x1), some (jm_I x2), none, none], [], σ)) := (jm_un_eq [0, 20, 32, 35, 40, 50, 80, 95, 100, 113] d 4 _).trans rfl
theorem gM_stiffer_35 (d : Nat) (σ : jm_S) (x1 x2 : Int32) : jm_ev d (jM_stiffer, 35, [some (jm_R 21 0), some (jm_I x1), some (jm_I x2), none, none], [], σ) = some (some (jm_I (-1000001 : Int32)), σ) := (jm_un_eq [0, 20, 32, 35, 40, 50, 80, 95, 100, 113] d 3 _).trans rfl
theorem gM_stiffer_40 (d : Nat) (σ : jm_S) (x1 x2 x3 : Int32) (o4 : Option jm_V) : jm_ev d (jM_stiffer, 40, [some (jm_R 21 0), some (jm_I x1), some (jm_I x2), some (jm_I x3), o4], [], σ) = cond (decide ((60 : Int32) < x3)) ((jm_call d jM_unless [jm_R 21 0, jm_I (-1000000 : Int32)] σ).bind fun q => jm_ev d (jm_psh (jM_stiffer, 113, [some (jm_R 21 0), some (jm_I x1), some (jm_I x2), some (jm_I x3), o4], [], σ) q)) ((jm_call d jM_layThen [jm_R 21 0] σ).bind fun q => jm_ev d (jm_psh (jM_stiffer, 50, [some (jm_R 21 0), some (jm_I x1), some (jm_I x2), some (jm_I x3), o4], [], σ) q)) := (jm_un_eq [0, 20, 32, 35, 40, 50, 80, 95, 100, 113] d 7 _).trans rfl
theorem gM_stiffer_50 (d : Nat) (σ : jm_S) (x1 x2 x3 : Int32) (o4 : Option jm_V) : jm_ev d (jM_stiffer, 50, [some (jm_R 21 0), some (jm_I x1), some (jm_I x2), some (jm_I x3), o4], [], σ) = cond (jm_in3 (((2 : Int32) + ((4 : Int32) * x1)) + (2 : Int32)) 26) (cond (jm_in3 (((2 : Int32) + ((4 : Int32) * x1)) + (2 : Int32)) 26) ((jm_call d jM_belowOf [jm_R 21 0, jm_R 25 2, jm_I (σ.1 25 0 1)] (jm_wi σ 25 2 ((((2 : Int32) + ((4 : Int32) * x1)) + (2 : Int32)).toNatClampNeg) ((σ.1 25 2 ((((2 : Int32) + ((4 : Int32) * x1)) + (2 : Int32)).toNatClampNeg)) + x3))).bind fun q => jm_ev d (jm_psh (jM_stiffer, 80, [some (jm_R 21 0), some (jm_I x1), some (jm_I x2), some (jm_I x3), o4], [], jm_wi σ 25 2 ((((2 : Int32) + ((4 : Int32) * x1)) + (2 : Int32)).toNatClampNeg) ((σ.1 25 2 ((((2 : Int32) + ((4 : Int32) * x1)) + (2 : Int32)).toNatClampNeg)) + x3)) q)) (none)) (none) := (jm_un_eq [0, 20, 32, 35, 40, 50, 80, 95, 100, 113] d 23 _).trans rfl
theorem gM_stiffer_80 (d : Nat) (σ : jm_S) (x1 x2 x3 xs0 : Int32) (o4 : Option jm_V) : jm_ev d (jM_stiffer, 80, [some (jm_R 21 0), some (jm_I x1), some (jm_I x2), some (jm_I x3), o4], [jm_I xs0], σ) = cond (decide (¬ σ.1 21 0 19 = 0)) (jm_ev d (jM_stiffer, 95, [some (jm_R 21 0), some (jm_I x1), some (jm_I x2), some (jm_I x3), some (jm_I xs0)], [], σ)) (cond (decide (x2 < xs0)) (jm_ev d (jM_stiffer, 40, [some (jm_R 21 0), some (jm_I x1), some (jm_I x2), some (jm_I (x3 + (1 : Int32))), some (jm_I xs0)], [], σ)) (jm_ev d (jM_stiffer, 95, [some (jm_R 21 0), some (jm_I x1), some (jm_I x2), some (jm_I x3), some (jm_I xs0)], [], σ))) := (jm_un_eq [0, 20, 32, 35, 40, 50, 80, 95, 100, 113] d 10 _).trans rfl
theorem gM_stiffer_95 (d : Nat) (σ : jm_S) (x1 x2 x3 x4 : Int32) : jm_ev d (jM_stiffer, 95, [some (jm_R 21 0), some (jm_I x1), some (jm_I x2), some (jm_I x3), some (jm_I x4)], [], σ) = (jm_call d jM_unless [jm_R 21 0, jm_I x3] σ).bind fun q => jm_ev d (jm_psh (jM_stiffer, 100, [some (jm_R 21 0), some (jm_I x1), some (jm_I x2), some (jm_I x3), some (jm_I x4)], [], σ) q) := (jm_un_eq [0, 20, 32, 35, 40, 50, 80, 95, 100, 113] d 4 _).trans rfl
theorem gM_stiffer_100 (d : Nat) (σ : jm_S) (x1 x2 x3 x4 xs0 : Int32) : jm_ev d (jM_stiffer, 100, [some (jm_R 21 0), some (jm_I x1), some (jm_I x2), some (jm_I x3), some (jm_I x4)], [jm_I xs0], σ) = some (some (jm_I xs0), σ) := (jm_un_eq [0, 20, 32, 35, 40, 50, 80, 95, 100, 113] d 2 _).trans rfl
theorem gM_stiffer_113 (d : Nat) (σ : jm_S) (x1 x2 x3 xs0 : Int32) (o4 : Option jm_V) : jm_ev d (jM_stiffer, 113, [some (jm_R 21 0), some (jm_I x1), some (jm_I x2), some (jm_I x3), o4], [jm_I xs0], σ) = some (some (jm_I xs0), σ) := (jm_un_eq [0, 20, 32, 35, 40, 50, 80, 95, 100, 113] d 2 _).trans rfl
theorem gM_sets_0 (d : Nat) (σ : jm_S) (x1 x2 : Int32) : jm_call (d + 1) jM_sets [jm_R 21 0, jm_I x1, jm_I x2] σ = (jm_call d jM_isThere [jm_R 21 0] (jm_wi σ 21 0 0 (0 : Int32))).bind fun q => jm_ev d (jm_psh (jM_sets, 9, [some (jm_R 21 0), some (jm_I x1), some (jm_I x2), none, none, none, none, none, none], [], jm_wi σ 21 0 0 (0 : Int32)) q) := (jm_un_eq [0, 9, 24, 36, 39, 53, 72, 92, 105, 109, 138, 150, 176] d 6 (jM_sets, 0, [some (jm_R 21 0), some (jm_I x1), some (jm_I x2), none, none, none, none, none, none], [], σ)).trans rfl
theorem gM_sets_9 (d : Nat) (σ : jm_S) (x1 x2 xs0 : Int32) : jm_ev d (jM_sets, 9, [some (jm_R 21 0), some (jm_I x1), some (jm_I x2), none, none, none, none, none, none], [jm_I xs0], σ) = cond (decide (¬ xs0 = 0)) ((jm_call d jM_in [jm_L x1.toInt64, jm_L (0 : Int64), jm_L (99 : Int64)] σ).bind fun q => jm_ev d (jm_psh (jM_sets, 24, [some (jm_R 21 0), some (jm_I x1), some (jm_I x2), none, none, none, none, none, none], [], σ) q)) (some (some (jm_I (-1000002 : Int32)), σ)) := (jm_un_eq [0, 9, 24, 36, 39, 53, 72, 92, 105, 109, 138, 150, 176] d 7 _).trans rfl
theorem gM_sets_24 (d : Nat) (σ : jm_S) (x1 x2 xs0 : Int32) : jm_ev d (jM_sets, 24, [some (jm_R 21 0), some (jm_I x1), some (jm_I x2), none, none, none, none, none, none], [jm_I xs0], σ) = cond (decide (xs0 = 0)) (jm_ev d (jM_sets, 39, [some (jm_R 21 0), some (jm_I x1), some (jm_I x2), none, none, none, none, none, none], [], σ)) ((jm_call d jM_in [jm_L x2.toInt64, jm_L (0 : Int64), jm_L (2 : Int64)] σ).bind fun q => jm_ev d (jm_psh (jM_sets, 36, [some (jm_R 21 0), some (jm_I x1), some (jm_I x2), none, none, none, none, none, none], [], σ) q)) := (jm_un_eq [0, 9, 24, 36, 39, 53, 72, 92, 105, 109, 138, 150, 176] d 7 _).trans rfl
theorem gM_sets_36 (d : Nat) (σ : jm_S) (x1 x2 xs0 : Int32) : jm_ev d (jM_sets, 36, [some (jm_R 21 0), some (jm_I x1), some (jm_I x2), none, none, none, none, none, none], [jm_I xs0], σ) = cond (decide (¬ xs0 = 0)) (jm_ev d (jM_sets, 53, [some (jm_R 21 0), some (jm_I x1), some (jm_I x2), some (jm_I (0 : Int32)), some (jm_I (0 : Int32)), some (jm_I (0 : Int32)), some (jm_I (0 : Int32)), none, none], [], σ)) (jm_ev d (jM_sets, 39, [some (jm_R 21 0), some (jm_I x1), some (jm_I x2), none, none, none, none, none, none], [], σ)) := (jm_un_eq [0, 9, 24, 36, 39, 53, 72, 92, 105, 109, 138, 150, 176] d 10 _).trans rfl
theorem gM_sets_39 (d : Nat) (σ : jm_S) (x1 x2 : Int32) : jm_ev d (jM_sets, 39, [some (jm_R 21 0), some (jm_I x1), some (jm_I x2), none, none, none, none, none, none], [], σ) = some (some (jm_I (-1000001 : Int32)), σ) := (jm_un_eq [0, 9, 24, 36, 39, 53, 72, 92, 105, 109, 138, 150, 176] d 3 _).trans rfl
theorem gM_sets_53 (d : Nat) (σ : jm_S) (x1 x2 x3 x4 x5 x6 : Int32) (o7 o8 : Option jm_V) : jm_ev d (jM_sets, 53, [some (jm_R 21 0), some (jm_I x1), some (jm_I x2), some (jm_I x3), some (jm_I x4), some (jm_I x5), some (jm_I x6), o7, o8], [], σ) = cond (decide ((1 : Int32) <<< ((σ.1 25 0 0) &&& 31) ≤ x6)) (cond (decide (¬ x2 = 0)) (cond (decide (¬ x2 = (1 : Int32))) (jm_ev d (jM_sets, 176, [some (jm_R 21 0), some (jm_I x1), some (jm_I x2), some (jm_I x3), some (jm_I x4), some (jm_I x5), some (jm_I x6), o7, o8], [jm_I x5], σ)) (jm_ev d (jM_sets, 176, [some (jm_R 21 0), some (jm_I x1), some (jm_I x2), some (jm_I x3), some (jm_I x4), some (jm_I x5), some (jm_I x6), o7, o8], [jm_I x4], σ))) (jm_ev d (jM_sets, 176, [some (jm_R 21 0), some (jm_I x1), some (jm_I x2), some (jm_I x3), some (jm_I x4), some (jm_I x5), some (jm_I x6), o7, o8], [jm_I x3], σ))) (jm_ev d (jM_sets, 72, [some (jm_R 21 0), some (jm_I x1), some (jm_I x2), some (jm_I x3), some (jm_I x4), some (jm_I x5), some (jm_I x6), some (jm_I (0 : Int32)), some (jm_I (0 : Int32))], [], σ)) := (jm_un_eq [0, 9, 24, 36, 39, 53, 72, 92, 105, 109, 138, 150, 176] d 16 _).trans rfl
theorem gM_sets_72 (d : Nat) (σ : jm_S) (x1 x2 x3 x4 x5 x6 x7 x8 : Int32) : jm_ev d (jM_sets, 72, [some (jm_R 21 0), some (jm_I x1), some (jm_I x2), some (jm_I x3), some (jm_I x4), some (jm_I x5), some (jm_I x6), some (jm_I x7), some (jm_I x8)], [], σ) = cond (decide (σ.1 25 0 0 ≤ x8)) (cond (decide (¬ x7 = x1)) (jm_ev d (jM_sets, 150, [some (jm_R 21 0), some (jm_I x1), some (jm_I x2), some (jm_I x3), some (jm_I x4), some (jm_I x5), some (jm_I x6), some (jm_I x7), some (jm_I x8)], [], σ)) (cond (decide (¬ x3 = 0)) (jm_ev d (jM_sets, 138, [some (jm_R 21 0), some (jm_I x1), some (jm_I x2), some (jm_I x3), some (jm_I x4), some (jm_I x5), some (jm_I x6), some (jm_I x7), some (jm_I x8)], [jm_I (x4 &&& x6)], σ)) (jm_ev d (jM_sets, 138, [some (jm_R 21 0), some (jm_I x1), some (jm_I x2), some (jm_I x3), some (jm_I x4), some (jm_I x5), some (jm_I x6), some (jm_I x7), some (jm_I x8)], [jm_I x6], σ)))) ((jm_call d jM_has [jm_I x6, jm_I x8] σ).bind fun q => jm_ev d (jm_psh (jM_sets, 92, [some (jm_R 21 0), some (jm_I x1), some (jm_I x2), some (jm_I x3), some (jm_I x4), some (jm_I x5), some (jm_I x6), some (jm_I x7), some (jm_I x8)], [jm_I x7], σ) q)) := (jm_un_eq [0, 9, 24, 36, 39, 53, 72, 92, 105, 109, 138, 150, 176] d 15 _).trans rfl
theorem gM_sets_92 (d : Nat) (σ : jm_S) (x1 x2 x3 x4 x5 x6 x7 x8 xs0 xs1 : Int32) : jm_ev d (jM_sets, 92, [some (jm_R 21 0), some (jm_I x1), some (jm_I x2), some (jm_I x3), some (jm_I x4), some (jm_I x5), some (jm_I x6), some (jm_I x7), some (jm_I x8)], [jm_I xs0, jm_I xs1], σ) = cond (decide (xs0 = 0)) (jm_ev d (jM_sets, 109, [some (jm_R 21 0), some (jm_I x1), some (jm_I x2), some (jm_I x3), some (jm_I x4), some (jm_I x5), some (jm_I x6), some (jm_I x7), some (jm_I x8)], [jm_I (0 : Int32), jm_I xs1], σ)) ((jm_call d jM_of [jm_R 25 0, jm_I x8, jm_I (1 : Int32)] σ).bind fun q => jm_ev d (jm_psh (jM_sets, 105, [some (jm_R 21 0), some (jm_I x1), some (jm_I x2), some (jm_I x3), some (jm_I x4), some (jm_I x5), some (jm_I x6), some (jm_I x7), some (jm_I x8)], [jm_I xs1], σ) q)) := (jm_un_eq [0, 9, 24, 36, 39, 53, 72, 92, 105, 109, 138, 150, 176] d 7 _).trans rfl
theorem gM_sets_105 (d : Nat) (σ : jm_S) (x1 x2 x3 x4 x5 x6 x7 x8 xs0 xs1 : Int32) : jm_ev d (jM_sets, 105, [some (jm_R 21 0), some (jm_I x1), some (jm_I x2), some (jm_I x3), some (jm_I x4), some (jm_I x5), some (jm_I x6), some (jm_I x7), some (jm_I x8)], [jm_I xs0, jm_I xs1], σ) = jm_ev d (jM_sets, 109, [some (jm_R 21 0), some (jm_I x1), some (jm_I x2), some (jm_I x3), some (jm_I x4), some (jm_I x5), some (jm_I x6), some (jm_I x7), some (jm_I x8)], [jm_I xs0, jm_I xs1], σ) := (jm_un_eq [0, 9, 24, 36, 39, 53, 72, 92, 105, 109, 138, 150, 176] d 2 _).trans rfl
theorem gM_sets_109 (d : Nat) (σ : jm_S) (x1 x2 x3 x4 x5 x6 x7 x8 xs0 xs1 : Int32) : jm_ev d (jM_sets, 109, [some (jm_R 21 0), some (jm_I x1), some (jm_I x2), some (jm_I x3), some (jm_I x4), some (jm_I x5), some (jm_I x6), some (jm_I x7), some (jm_I x8)], [jm_I xs0, jm_I xs1], σ) = jm_ev d (jM_sets, 72, [some (jm_R 21 0), some (jm_I x1), some (jm_I x2), some (jm_I x3), some (jm_I x4), some (jm_I x5), some (jm_I x6), some (jm_I (xs1 + xs0)), some (jm_I (x8 + (1 : Int32)))], [], σ) := (jm_un_eq [0, 9, 24, 36, 39, 53, 72, 92, 105, 109, 138, 150, 176] d 5 _).trans rfl
theorem gM_sets_138 (d : Nat) (σ : jm_S) (x1 x2 x3 x4 x5 x6 x7 x8 xs0 : Int32) : jm_ev d (jM_sets, 138, [some (jm_R 21 0), some (jm_I x1), some (jm_I x2), some (jm_I x3), some (jm_I x4), some (jm_I x5), some (jm_I x6), some (jm_I x7), some (jm_I x8)], [jm_I xs0], σ) = jm_ev d (jM_sets, 150, [some (jm_R 21 0), some (jm_I x1), some (jm_I x2), some (jm_I (x3 + (1 : Int32))), some (jm_I xs0), some (jm_I (x5 ||| x6)), some (jm_I x6), some (jm_I x7), some (jm_I x8)], [], σ) := (jm_un_eq [0, 9, 24, 36, 39, 53, 72, 92, 105, 109, 138, 150, 176] d 7 _).trans rfl
theorem gM_sets_150 (d : Nat) (σ : jm_S) (x1 x2 x3 x4 x5 x6 x7 x8 : Int32) : jm_ev d (jM_sets, 150, [some (jm_R 21 0), some (jm_I x1), some (jm_I x2), some (jm_I x3), some (jm_I x4), some (jm_I x5), some (jm_I x6), some (jm_I x7), some (jm_I x8)], [], σ) = jm_ev d (jM_sets, 53, [some (jm_R 21 0), some (jm_I x1), some (jm_I x2), some (jm_I x3), some (jm_I x4), some (jm_I x5), some (jm_I (x6 + (1 : Int32))), some (jm_I x7), some (jm_I x8)], [], σ) := (jm_un_eq [0, 9, 24, 36, 39, 53, 72, 92, 105, 109, 138, 150, 176] d 3 _).trans rfl
theorem gM_sets_176 (d : Nat) (σ : jm_S) (x1 x2 x3 x4 x5 x6 xs0 : Int32) (o7 o8 : Option jm_V) : jm_ev d (jM_sets, 176, [some (jm_R 21 0), some (jm_I x1), some (jm_I x2), some (jm_I x3), some (jm_I x4), some (jm_I x5), some (jm_I x6), o7, o8], [jm_I xs0], σ) = some (some (jm_I xs0), σ) := (jm_un_eq [0, 9, 24, 36, 39, 53, 72, 92, 105, 109, 138, 150, 176] d 2 _).trans rfl
theorem gM_together_0 (d : Nat) (σ : jm_S) (x1 : Int32) : jm_call (d + 1) jM_together [jm_R 21 0, jm_I x1] σ = jm_ev d (jM_together, 4, [some (jm_R 21 0), some (jm_I x1), some (jm_I (0 : Int32)), some (jm_I (0 : Int32))], [], σ) := (jm_un_eq [0, 4, 24] d 5 (jM_together, 0, [some (jm_R 21 0), some (jm_I x1), none, none], [], σ)).trans rfl
theorem gM_together_4 (d : Nat) (σ : jm_S) (x1 x2 x3 : Int32) : jm_ev d (jM_together, 4, [some (jm_R 21 0), some (jm_I x1), some (jm_I x2), some (jm_I x3)], [], σ) = cond (decide (σ.1 25 0 0 ≤ x3)) (some (some (jm_I x2), σ)) ((jm_call d jM_of [jm_R 25 0, jm_I x3, jm_I x1] σ).bind fun q => jm_ev d (jm_psh (jM_together, 24, [some (jm_R 21 0), some (jm_I x1), some (jm_I x2), some (jm_I x3)], [jm_I x2], σ) q)) := (jm_un_eq [0, 4, 24] d 13 _).trans rfl
theorem gM_together_24 (d : Nat) (σ : jm_S) (x1 x2 x3 xs0 xs1 : Int32) : jm_ev d (jM_together, 24, [some (jm_R 21 0), some (jm_I x1), some (jm_I x2), some (jm_I x3)], [jm_I xs0, jm_I xs1], σ) = jm_ev d (jM_together, 4, [some (jm_R 21 0), some (jm_I x1), some (jm_I (xs1 + xs0)), some (jm_I (x3 + (1 : Int32)))], [], σ) := (jm_un_eq [0, 4, 24] d 5 _).trans rfl
theorem gM_share_0 (d : Nat) (σ : jm_S) (x1 x2 : Int32) : jm_call (d + 1) jM_share [jm_R 21 0, jm_I x1, jm_I x2] σ = (jm_call d jM_isDisc [jm_R 21 0, jm_I x1] (jm_wi σ 21 0 0 (0 : Int32))).bind fun q => jm_ev d (jm_psh (jM_share, 10, [some (jm_R 21 0), some (jm_I x1), some (jm_I x2), none, none, none, none, none], [], jm_wi σ 21 0 0 (0 : Int32)) q) := (jm_un_eq [0, 10, 22, 25, 33, 43, 61, 85, 109, 116, 117, 144] d 7 (jM_share, 0, [some (jm_R 21 0), some (jm_I x1), some (jm_I x2), none, none, none, none, none], [], σ)).trans rfl
theorem gM_share_10 (d : Nat) (σ : jm_S) (x1 x2 xs0 : Int32) : jm_ev d (jM_share, 10, [some (jm_R 21 0), some (jm_I x1), some (jm_I x2), none, none, none, none, none], [jm_I xs0], σ) = cond (decide (xs0 = 0)) (jm_ev d (jM_share, 25, [some (jm_R 21 0), some (jm_I x1), some (jm_I x2), none, none, none, none, none], [], σ)) ((jm_call d jM_in [jm_L x2.toInt64, jm_L (0 : Int64), jm_L (999 : Int64)] σ).bind fun q => jm_ev d (jm_psh (jM_share, 22, [some (jm_R 21 0), some (jm_I x1), some (jm_I x2), none, none, none, none, none], [], σ) q)) := (jm_un_eq [0, 10, 22, 25, 33, 43, 61, 85, 109, 116, 117, 144] d 7 _).trans rfl
theorem gM_share_22 (d : Nat) (σ : jm_S) (x1 x2 xs0 : Int32) : jm_ev d (jM_share, 22, [some (jm_R 21 0), some (jm_I x1), some (jm_I x2), none, none, none, none, none], [jm_I xs0], σ) = cond (decide (¬ xs0 = 0)) ((jm_call d jM_together [jm_R 21 0, jm_I (2 : Int32)] σ).bind fun q => jm_ev d (jm_psh (jM_share, 33, [some (jm_R 21 0), some (jm_I x1), some (jm_I x2), none, none, none, none, none], [], σ) q)) (jm_ev d (jM_share, 25, [some (jm_R 21 0), some (jm_I x1), some (jm_I x2), none, none, none, none, none], [], σ)) := (jm_un_eq [0, 10, 22, 25, 33, 43, 61, 85, 109, 116, 117, 144] d 5 _).trans rfl
theorem gM_share_25 (d : Nat) (σ : jm_S) (x1 x2 : Int32) : jm_ev d (jM_share, 25, [some (jm_R 21 0), some (jm_I x1), some (jm_I x2), none, none, none, none, none], [], σ) = some (some (jm_I (-1000001 : Int32)), σ) := (jm_un_eq [0, 10, 22, 25, 33, 43, 61, 85, 109, 116, 117, 144] d 3 _).trans rfl
theorem gM_share_33 (d : Nat) (σ : jm_S) (x1 x2 xs0 : Int32) : jm_ev d (jM_share, 33, [some (jm_R 21 0), some (jm_I x1), some (jm_I x2), none, none, none, none, none], [jm_I xs0], σ) = (jm_call d jM_of [jm_R 25 0, jm_I x1, jm_I (2 : Int32)] σ).bind fun q => jm_ev d (jm_psh (jM_share, 43, [some (jm_R 21 0), some (jm_I x1), some (jm_I x2), some (jm_I xs0), none, none, none, none], [], σ) q) := (jm_un_eq [0, 10, 22, 25, 33, 43, 61, 85, 109, 116, 117, 144] d 7 _).trans rfl
theorem gM_share_43 (d : Nat) (σ : jm_S) (x1 x2 x3 xs0 : Int32) : jm_ev d (jM_share, 43, [some (jm_R 21 0), some (jm_I x1), some (jm_I x2), some (jm_I x3), none, none, none, none], [jm_I xs0], σ) = cond (decide (¬ xs0 = 0)) (jm_ev d (jM_share, 61, [some (jm_R 21 0), some (jm_I x1), some (jm_I x2), some (jm_I x3), some (jm_I xs0), some (jm_I x2), some (jm_I (0 : Int32)), some (jm_I (0 : Int32))], [], σ)) (some (some (jm_I (0 : Int32)), σ)) := (jm_un_eq [0, 10, 22, 25, 33, 43, 61, 85, 109, 116, 117, 144] d 10 _).trans rfl
theorem gM_share_61 (d : Nat) (σ : jm_S) (x1 x2 x3 x4 x5 x6 x7 : Int32) : jm_ev d (jM_share, 61, [some (jm_R 21 0), some (jm_I x1), some (jm_I x2), some (jm_I x3), some (jm_I x4), some (jm_I x5), some (jm_I x6), some (jm_I x7)], [], σ) = cond (decide (σ.1 25 0 0 ≤ x7)) (cond (decide (¬ x3 = 0)) (cond (decide (x5 ≤ x6)) (jm_ev d (jM_share, 144, [some (jm_R 21 0), some (jm_I x1), some (jm_I x2), some (jm_I x3), some (jm_I x4), some (jm_I x5), some (jm_I x6), some (jm_I x7)], [jm_I (0 : Int32), jm_I ((x2 * x4) / x3)], σ)) (jm_ev d (jM_share, 144, [some (jm_R 21 0), some (jm_I x1), some (jm_I x2), some (jm_I x3), some (jm_I x4), some (jm_I x5), some (jm_I x6), some (jm_I x7)], [jm_I (1 : Int32), jm_I ((x2 * x4) / x3)], σ))) (none)) ((jm_call d jM_of [jm_R 25 0, jm_I x7, jm_I (2 : Int32)] σ).bind fun q => jm_ev d (jm_psh (jM_share, 85, [some (jm_R 21 0), some (jm_I x1), some (jm_I x2), some (jm_I x3), some (jm_I x4), some (jm_I x5), some (jm_I x6), some (jm_I x7)], [jm_I x2, jm_I x5], σ) q)) := (jm_un_eq [0, 10, 22, 25, 33, 43, 61, 85, 109, 116, 117, 144] d 17 _).trans rfl
theorem gM_share_85 (d : Nat) (σ : jm_S) (x1 x2 x3 x4 x5 x6 x7 xs0 xs1 xs2 : Int32) : jm_ev d (jM_share, 85, [some (jm_R 21 0), some (jm_I x1), some (jm_I x2), some (jm_I x3), some (jm_I x4), some (jm_I x5), some (jm_I x6), some (jm_I x7)], [jm_I xs0, jm_I xs1, jm_I xs2], σ) = cond (decide (¬ x3 = 0)) (cond (decide (x1 ≤ x7)) (jm_ev d (jM_share, 116, [some (jm_R 21 0), some (jm_I x1), some (jm_I x2), some (jm_I x3), some (jm_I x4), some (jm_I (xs2 - ((xs1 * xs0) / x3))), some (jm_I x6), some (jm_I x7)], [jm_I x6], σ)) ((jm_call d jM_of [jm_R 25 0, jm_I x7, jm_I (2 : Int32)] σ).bind fun q => jm_ev d (jm_psh (jM_share, 109, [some (jm_R 21 0), some (jm_I x1), some (jm_I x2), some (jm_I x3), some (jm_I x4), some (jm_I (xs2 - ((xs1 * xs0) / x3))), some (jm_I x6), some (jm_I x7)], [jm_I x6], σ) q))) (none) := (jm_un_eq [0, 10, 22, 25, 33, 43, 61, 85, 109, 116, 117, 144] d 15 _).trans rfl
theorem gM_share_109 (d : Nat) (σ : jm_S) (x1 x2 x3 x4 x5 x6 x7 xs0 xs1 : Int32) : jm_ev d (jM_share, 109, [some (jm_R 21 0), some (jm_I x1), some (jm_I x2), some (jm_I x3), some (jm_I x4), some (jm_I x5), some (jm_I x6), some (jm_I x7)], [jm_I xs0, jm_I xs1], σ) = cond (decide (xs0 ≤ 0)) (jm_ev d (jM_share, 116, [some (jm_R 21 0), some (jm_I x1), some (jm_I x2), some (jm_I x3), some (jm_I x4), some (jm_I x5), some (jm_I x6), some (jm_I x7)], [jm_I xs1], σ)) (jm_ev d (jM_share, 117, [some (jm_R 21 0), some (jm_I x1), some (jm_I x2), some (jm_I x3), some (jm_I x4), some (jm_I x5), some (jm_I x6), some (jm_I x7)], [jm_I (1 : Int32), jm_I xs1], σ)) := (jm_un_eq [0, 10, 22, 25, 33, 43, 61, 85, 109, 116, 117, 144] d 4 _).trans rfl
theorem gM_share_116 (d : Nat) (σ : jm_S) (x1 x2 x3 x4 x5 x6 x7 xs0 : Int32) : jm_ev d (jM_share, 116, [some (jm_R 21 0), some (jm_I x1), some (jm_I x2), some (jm_I x3), some (jm_I x4), some (jm_I x5), some (jm_I x6), some (jm_I x7)], [jm_I xs0], σ) = jm_ev d (jM_share, 117, [some (jm_R 21 0), some (jm_I x1), some (jm_I x2), some (jm_I x3), some (jm_I x4), some (jm_I x5), some (jm_I x6), some (jm_I x7)], [jm_I (0 : Int32), jm_I xs0], σ) := (jm_un_eq [0, 10, 22, 25, 33, 43, 61, 85, 109, 116, 117, 144] d 2 _).trans rfl
theorem gM_share_117 (d : Nat) (σ : jm_S) (x1 x2 x3 x4 x5 x6 x7 xs0 xs1 : Int32) : jm_ev d (jM_share, 117, [some (jm_R 21 0), some (jm_I x1), some (jm_I x2), some (jm_I x3), some (jm_I x4), some (jm_I x5), some (jm_I x6), some (jm_I x7)], [jm_I xs0, jm_I xs1], σ) = jm_ev d (jM_share, 61, [some (jm_R 21 0), some (jm_I x1), some (jm_I x2), some (jm_I x3), some (jm_I x4), some (jm_I x5), some (jm_I (xs1 + xs0)), some (jm_I (x7 + (1 : Int32)))], [], σ) := (jm_un_eq [0, 10, 22, 25, 33, 43, 61, 85, 109, 116, 117, 144] d 5 _).trans rfl
theorem gM_share_144 (d : Nat) (σ : jm_S) (x1 x2 x3 x4 x5 x6 x7 xs0 xs1 : Int32) : jm_ev d (jM_share, 144, [some (jm_R 21 0), some (jm_I x1), some (jm_I x2), some (jm_I x3), some (jm_I x4), some (jm_I x5), some (jm_I x6), some (jm_I x7)], [jm_I xs0, jm_I xs1], σ) = some (some (jm_I (xs1 + xs0)), σ) := (jm_un_eq [0, 10, 22, 25, 33, 43, 61, 85, 109, 116, 117, 144] d 3 _).trans rfl
theorem gM_afterTurns_0 (d : Nat) (σ : jm_S) (x1 x2 x3 : Int32) : jm_call (d + 1) jM_afterTurns [jm_R 21 0, jm_I x1, jm_I x2, jm_I x3] σ = (jm_call d jM_layThen [jm_R 21 0] σ).bind fun q => jm_ev d (jm_psh (jM_afterTurns, 4, [some (jm_R 21 0), some (jm_I x1), some (jm_I x2), some (jm_I x3), none], [], σ) q) := (jm_un_eq [0, 4, 30, 56, 82, 96, 116] d 3 (jM_afterTurns, 0, [some (jm_R 21 0), some (jm_I x1), some (jm_I x2), some (jm_I x3), none], [], σ)).trans rfl
theorem gM_afterTurns_4 (d : Nat) (σ : jm_S) (x1 x2 x3 : Int32) : jm_ev d (jM_afterTurns, 4, [some (jm_R 21 0), some (jm_I x1), some (jm_I x2), some (jm_I x3), none], [], σ) = cond (decide (σ.1 25 0 0 ≤ x1)) (jm_ev d (jM_afterTurns, 30, [some (jm_R 21 0), some (jm_I x1), some (jm_I x2), some (jm_I x3), none], [], σ)) (cond (jm_in3 (((2 : Int32) + ((4 : Int32) * x1)) + (2 : Int32)) 26) (cond (jm_in3 (((2 : Int32) + ((4 : Int32) * x1)) + (2 : Int32)) 26) (jm_ev d (jM_afterTurns, 30, [some (jm_R 21 0), some (jm_I x1), some (jm_I x2), some (jm_I x3), none], [], jm_wi σ 25 2 ((((2 : Int32) + ((4 : Int32) * x1)) + (2 : Int32)).toNatClampNeg) ((σ.1 25 2 ((((2 : Int32) + ((4 : Int32) * x1)) + (2 : Int32)).toNatClampNeg)) + (5 : Int32)))) (none)) (none)) := (jm_un_eq [0, 4, 30, 56, 82, 96, 116] d 21 _).trans rfl
theorem gM_afterTurns_30 (d : Nat) (σ : jm_S) (x1 x2 x3 : Int32) : jm_ev d (jM_afterTurns, 30, [some (jm_R 21 0), some (jm_I x1), some (jm_I x2), some (jm_I x3), none], [], σ) = cond (decide (σ.1 25 0 0 ≤ x2)) (jm_ev d (jM_afterTurns, 56, [some (jm_R 21 0), some (jm_I x1), some (jm_I x2), some (jm_I x3), none], [], σ)) (cond (jm_in3 (((2 : Int32) + ((4 : Int32) * x2)) + (1 : Int32)) 26) (cond (jm_in3 (((2 : Int32) + ((4 : Int32) * x2)) + (1 : Int32)) 26) (jm_ev d (jM_afterTurns, 56, [some (jm_R 21 0), some (jm_I x1), some (jm_I x2), some (jm_I x3), none], [], jm_wi σ 25 2 ((((2 : Int32) + ((4 : Int32) * x2)) + (1 : Int32)).toNatClampNeg) ((σ.1 25 2 ((((2 : Int32) + ((4 : Int32) * x2)) + (1 : Int32)).toNatClampNeg)) + (1 : Int32)))) (none)) (none)) := (jm_un_eq [0, 4, 30, 56, 82, 96, 116] d 21 _).trans rfl
theorem gM_afterTurns_56 (d : Nat) (σ : jm_S) (x1 x2 x3 : Int32) : jm_ev d (jM_afterTurns, 56, [some (jm_R 21 0), some (jm_I x1), some (jm_I x2), some (jm_I x3), none], [], σ) = cond (decide (σ.1 25 0 0 ≤ x3)) (jm_ev d (jM_afterTurns, 82, [some (jm_R 21 0), some (jm_I x1), some (jm_I x2), some (jm_I x3), none], [], σ)) (cond (jm_in3 (((2 : Int32) + ((4 : Int32) * x3)) + (2 : Int32)) 26) (cond (jm_in3 (((2 : Int32) + ((4 : Int32) * x3)) + (2 : Int32)) 26) (jm_ev d (jM_afterTurns, 82, [some (jm_R 21 0), some (jm_I x1), some (jm_I x2), some (jm_I x3), none], [], jm_wi σ 25 2 ((((2 : Int32) + ((4 : Int32) * x3)) + (2 : Int32)).toNatClampNeg) ((σ.1 25 2 ((((2 : Int32) + ((4 : Int32) * x3)) + (2 : Int32)).toNatClampNeg)) + (5 : Int32)))) (none)) (none)) := (jm_un_eq [0, 4, 30, 56, 82, 96, 116] d 21 _).trans rfl
theorem gM_afterTurns_82 (d : Nat) (σ : jm_S) (x1 x2 x3 : Int32) : jm_ev d (jM_afterTurns, 82, [some (jm_R 21 0), some (jm_I x1), some (jm_I x2), some (jm_I x3), none], [], σ) = (jm_call d jM_belowOf [jm_R 21 0, jm_R 25 2, jm_I (σ.1 25 0 1)] σ).bind fun q => jm_ev d (jm_psh (jM_afterTurns, 96, [some (jm_R 21 0), some (jm_I x1), some (jm_I x2), some (jm_I x3), none], [], σ) q) := (jm_un_eq [0, 4, 30, 56, 82, 96, 116] d 9 _).trans rfl
theorem gM_afterTurns_96 (d : Nat) (σ : jm_S) (x1 x2 x3 xs0 : Int32) : jm_ev d (jM_afterTurns, 96, [some (jm_R 21 0), some (jm_I x1), some (jm_I x2), some (jm_I x3), none], [jm_I xs0], σ) = cond (decide (σ.1 21 0 19 = 0)) (jm_ev d (jM_afterTurns, 116, [some (jm_R 21 0), some (jm_I x1), some (jm_I x2), some (jm_I x3), some (jm_I xs0)], [jm_I xs0], σ)) (jm_ev d (jM_afterTurns, 116, [some (jm_R 21 0), some (jm_I x1), some (jm_I x2), some (jm_I x3), some (jm_I xs0)], [jm_I (σ.1 25 0 0)], σ)) := (jm_un_eq [0, 4, 30, 56, 82, 96, 116] d 10 _).trans rfl
theorem gM_afterTurns_116 (d : Nat) (σ : jm_S) (x1 x2 x3 x4 xs0 : Int32) : jm_ev d (jM_afterTurns, 116, [some (jm_R 21 0), some (jm_I x1), some (jm_I x2), some (jm_I x3), some (jm_I x4)], [jm_I xs0], σ) = some (some (jm_I xs0), σ) := (jm_un_eq [0, 4, 30, 56, 82, 96, 116] d 2 _).trans rfl
theorem gM_byTurns_0 (d : Nat) (σ : jm_S) (x1 : Int32) : jm_call (d + 1) jM_byTurns [jm_R 21 0, jm_I x1] σ = (jm_call d jM_isThere [jm_R 21 0] (jm_wi σ 21 0 0 (0 : Int32))).bind fun q => jm_ev d (jm_psh (jM_byTurns, 9, [some (jm_R 21 0), some (jm_I x1), none, none, none, none, none, none, none, none], [], jm_wi σ 21 0 0 (0 : Int32)) q) := (jm_un_eq [0, 9, 24, 49, 51, 64, 81, 83, 97, 114, 116, 130, 143, 159, 166, 188, 208, 214] d 6 (jM_byTurns, 0, [some (jm_R 21 0), some (jm_I x1), none, none, none, none, none, none, none, none], [], σ)).trans rfl
theorem gM_byTurns_9 (d : Nat) (σ : jm_S) (x1 xs0 : Int32) : jm_ev d (jM_byTurns, 9, [some (jm_R 21 0), some (jm_I x1), none, none, none, none, none, none, none, none], [jm_I xs0], σ) = cond (decide (¬ xs0 = 0)) ((jm_call d jM_in [jm_L x1.toInt64, jm_L (0 : Int64), jm_L (3 : Int64)] σ).bind fun q => jm_ev d (jm_psh (jM_byTurns, 24, [some (jm_R 21 0), some (jm_I x1), none, none, none, none, none, none, none, none], [], σ) q)) (some (some (jm_I (-1000002 : Int32)), σ)) := (jm_un_eq [0, 9, 24, 49, 51, 64, 81, 83, 97, 114, 116, 130, 143, 159, 166, 188, 208, 214] d 7 _).trans rfl
theorem gM_byTurns_24 (d : Nat) (σ : jm_S) (x1 xs0 : Int32) : jm_ev d (jM_byTurns, 24, [some (jm_R 21 0), some (jm_I x1), none, none, none, none, none, none, none, none], [jm_I xs0], σ) = cond (decide (¬ xs0 = 0)) (cond (decide (x1 ≤ 0)) (jm_ev d (jM_byTurns, 49, [some (jm_R 21 0), some (jm_I x1), some (jm_I (σ.1 25 0 0)), some (jm_I (-1000000 : Int32)), none, none, none, none, none, none], [jm_I (σ.1 25 0 0)], σ)) (jm_ev d (jM_byTurns, 49, [some (jm_R 21 0), some (jm_I x1), some (jm_I (σ.1 25 0 0)), some (jm_I (-1000000 : Int32)), none, none, none, none, none, none], [jm_I (0 : Int32)], σ))) (some (some (jm_I (-1000001 : Int32)), σ)) := (jm_un_eq [0, 9, 24, 49, 51, 64, 81, 83, 97, 114, 116, 130, 143, 159, 166, 188, 208, 214] d 13 _).trans rfl
theorem gM_byTurns_49 (d : Nat) (σ : jm_S) (x1 x2 x3 xs0 : Int32) : jm_ev d (jM_byTurns, 49, [some (jm_R 21 0), some (jm_I x1), some (jm_I x2), some (jm_I x3), none, none, none, none, none, none], [jm_I xs0], σ) = jm_ev d (jM_byTurns, 51, [some (jm_R 21 0), some (jm_I x1), some (jm_I x2), some (jm_I x3), some (jm_I xs0), none, none, none, none, none], [], σ) := (jm_un_eq [0, 9, 24, 49, 51, 64, 81, 83, 97, 114, 116, 130, 143, 159, 166, 188, 208, 214] d 2 _).trans rfl
theorem gM_byTurns_51 (d : Nat) (σ : jm_S) (x1 x2 x3 x4 : Int32) (o5 o6 o7 o8 o9 : Option jm_V) : jm_ev d (jM_byTurns, 51, [some (jm_R 21 0), some (jm_I x1), some (jm_I x2), some (jm_I x3), some (jm_I x4), o5, o6, o7, o8, o9], [], σ) = cond (decide (x1 ≤ 0)) (jm_ev d (jM_byTurns, 64, [some (jm_R 21 0), some (jm_I x1), some (jm_I x2), some (jm_I x3), some (jm_I x4), o5, o6, o7, o8, o9], [jm_I (x2 + (1 : Int32)), jm_I x4], σ)) (jm_ev d (jM_byTurns, 64, [some (jm_R 21 0), some (jm_I x1), some (jm_I x2), some (jm_I x3), some (jm_I x4), o5, o6, o7, o8, o9], [jm_I x2, jm_I x4], σ)) := (jm_un_eq [0, 9, 24, 49, 51, 64, 81, 83, 97, 114, 116, 130, 143, 159, 166, 188, 208, 214] d 7 _).trans rfl
theorem gM_byTurns_64 (d : Nat) (σ : jm_S) (x1 x2 x3 x4 xs0 xs1 : Int32) (o5 o6 o7 o8 o9 : Option jm_V) : jm_ev d (jM_byTurns, 64, [some (jm_R 21 0), some (jm_I x1), some (jm_I x2), some (jm_I x3), some (jm_I x4), o5, o6, o7, o8, o9], [jm_I xs0, jm_I xs1], σ) = cond (decide (xs0 ≤ xs1)) (some (some (jm_I x3), σ)) (cond (decide (x1 ≤ (1 : Int32))) (jm_ev d (jM_byTurns, 81, [some (jm_R 21 0), some (jm_I x1), some (jm_I x2), some (jm_I x3), some (jm_I x4), some (jm_I (-1000000 : Int32)), o6, o7, o8, o9], [jm_I x2], σ)) (jm_ev d (jM_byTurns, 81, [some (jm_R 21 0), some (jm_I x1), some (jm_I x2), some (jm_I x3), some (jm_I x4), some (jm_I (-1000000 : Int32)), o6, o7, o8, o9], [jm_I (0 : Int32)], σ))) := (jm_un_eq [0, 9, 24, 49, 51, 64, 81, 83, 97, 114, 116, 130, 143, 159, 166, 188, 208, 214] d 9 _).trans rfl
theorem gM_byTurns_81 (d : Nat) (σ : jm_S) (x1 x2 x3 x4 x5 xs0 : Int32) (o6 o7 o8 o9 : Option jm_V) : jm_ev d (jM_byTurns, 81, [some (jm_R 21 0), some (jm_I x1), some (jm_I x2), some (jm_I x3), some (jm_I x4), some (jm_I x5), o6, o7, o8, o9], [jm_I xs0], σ) = jm_ev d (jM_byTurns, 83, [some (jm_R 21 0), some (jm_I x1), some (jm_I x2), some (jm_I x3), some (jm_I x4), some (jm_I x5), some (jm_I xs0), o7, o8, o9], [], σ) := (jm_un_eq [0, 9, 24, 49, 51, 64, 81, 83, 97, 114, 116, 130, 143, 159, 166, 188, 208, 214] d 2 _).trans rfl
theorem gM_byTurns_83 (d : Nat) (σ : jm_S) (x1 x2 x3 x4 x5 x6 : Int32) (o7 o8 o9 : Option jm_V) : jm_ev d (jM_byTurns, 83, [some (jm_R 21 0), some (jm_I x1), some (jm_I x2), some (jm_I x3), some (jm_I x4), some (jm_I x5), some (jm_I x6), o7, o8, o9], [], σ) = cond (decide (x1 ≤ (1 : Int32))) (jm_ev d (jM_byTurns, 97, [some (jm_R 21 0), some (jm_I x1), some (jm_I x2), some (jm_I x3), some (jm_I x4), some (jm_I x5), some (jm_I x6), o7, o8, o9], [jm_I (x2 + (1 : Int32)), jm_I x6], σ)) (jm_ev d (jM_byTurns, 97, [some (jm_R 21 0), some (jm_I x1), some (jm_I x2), some (jm_I x3), some (jm_I x4), some (jm_I x5), some (jm_I x6), o7, o8, o9], [jm_I x2, jm_I x6], σ)) := (jm_un_eq [0, 9, 24, 49, 51, 64, 81, 83, 97, 114, 116, 130, 143, 159, 166, 188, 208, 214] d 8 _).trans rfl
theorem gM_byTurns_97 (d : Nat) (σ : jm_S) (x1 x2 x3 x4 x5 x6 xs0 xs1 : Int32) (o7 o8 o9 : Option jm_V) : jm_ev d (jM_byTurns, 97, [some (jm_R 21 0), some (jm_I x1), some (jm_I x2), some (jm_I x3), some (jm_I x4), some (jm_I x5), some (jm_I x6), o7, o8, o9], [jm_I xs0, jm_I xs1], σ) = cond (decide (xs0 ≤ xs1)) (cond (decide (x3 = (-1000000 : Int32))) (jm_ev d (jM_byTurns, 208, [some (jm_R 21 0), some (jm_I x1), some (jm_I x2), some (jm_I x3), some (jm_I x4), some (jm_I x5), some (jm_I x6), o7, o8, o9], [], σ)) (cond (decide (x3 ≤ x5)) (jm_ev d (jM_byTurns, 214, [some (jm_R 21 0), some (jm_I x1), some (jm_I x2), some (jm_I x3), some (jm_I x4), some (jm_I x5), some (jm_I x6), o7, o8, o9], [jm_I x3], σ)) (jm_ev d (jM_byTurns, 208, [some (jm_R 21 0), some (jm_I x1), some (jm_I x2), some (jm_I x3), some (jm_I x4), some (jm_I x5), some (jm_I x6), o7, o8, o9], [], σ)))) (cond (decide (x1 ≤ (2 : Int32))) (jm_ev d (jM_byTurns, 114, [some (jm_R 21 0), some (jm_I x1), some (jm_I x2), some (jm_I x3), some (jm_I x4), some (jm_I x5), some (jm_I x6), some (jm_I (-1000000 : Int32)), o8, o9], [jm_I x2], σ)) (jm_ev d (jM_byTurns, 114, [some (jm_R 21 0), some (jm_I x1), some (jm_I x2), some (jm_I x3), some (jm_I x4), some (jm_I x5), some (jm_I x6), some (jm_I (-1000000 : Int32)), o8, o9], [jm_I (0 : Int32)], σ))) := (jm_un_eq [0, 9, 24, 49, 51, 64, 81, 83, 97, 114, 116, 130, 143, 159, 166, 188, 208, 214] d 9 _).trans rfl
theorem gM_byTurns_114 (d : Nat) (σ : jm_S) (x1 x2 x3 x4 x5 x6 x7 xs0 : Int32) (o8 o9 : Option jm_V) : jm_ev d (jM_byTurns, 114, [some (jm_R 21 0), some (jm_I x1), some (jm_I x2), some (jm_I x3), some (jm_I x4), some (jm_I x5), some (jm_I x6), some (jm_I x7), o8, o9], [jm_I xs0], σ) = jm_ev d (jM_byTurns, 116, [some (jm_R 21 0), some (jm_I x1), some (jm_I x2), some (jm_I x3), some (jm_I x4), some (jm_I x5), some (jm_I x6), some (jm_I x7), some (jm_I xs0), o9], [], σ) := (jm_un_eq [0, 9, 24, 49, 51, 64, 81, 83, 97, 114, 116, 130, 143, 159, 166, 188, 208, 214] d 2 _).trans rfl
theorem gM_byTurns_116 (d : Nat) (σ : jm_S) (x1 x2 x3 x4 x5 x6 x7 x8 : Int32) (o9 : Option jm_V) : jm_ev d (jM_byTurns, 116, [some (jm_R 21 0), some (jm_I x1), some (jm_I x2), some (jm_I x3), some (jm_I x4), some (jm_I x5), some (jm_I x6), some (jm_I x7), some (jm_I x8), o9], [], σ) = cond (decide (x1 ≤ (2 : Int32))) (jm_ev d (jM_byTurns, 130, [some (jm_R 21 0), some (jm_I x1), some (jm_I x2), some (jm_I x3), some (jm_I x4), some (jm_I x5), some (jm_I x6), some (jm_I x7), some (jm_I x8), o9], [jm_I (x2 + (1 : Int32)), jm_I x8], σ)) (jm_ev d (jM_byTurns, 130, [some (jm_R 21 0), some (jm_I x1), some (jm_I x2), some (jm_I x3), some (jm_I x4), some (jm_I x5), some (jm_I x6), some (jm_I x7), some (jm_I x8), o9], [jm_I x2, jm_I x8], σ)) := (jm_un_eq [0, 9, 24, 49, 51, 64, 81, 83, 97, 114, 116, 130, 143, 159, 166, 188, 208, 214] d 8 _).trans rfl
theorem gM_byTurns_130 (d : Nat) (σ : jm_S) (x1 x2 x3 x4 x5 x6 x7 x8 xs0 xs1 : Int32) (o9 : Option jm_V) : jm_ev d (jM_byTurns, 130, [some (jm_R 21 0), some (jm_I x1), some (jm_I x2), some (jm_I x3), some (jm_I x4), some (jm_I x5), some (jm_I x6), some (jm_I x7), some (jm_I x8), o9], [jm_I xs0, jm_I xs1], σ) = cond (decide (xs0 ≤ xs1)) (cond (decide (x7 ≤ x5)) (jm_ev d (jM_byTurns, 188, [some (jm_R 21 0), some (jm_I x1), some (jm_I x2), some (jm_I x3), some (jm_I x4), some (jm_I x5), some (jm_I x6), some (jm_I x7), some (jm_I x8), o9], [jm_I x5], σ)) (jm_ev d (jM_byTurns, 188, [some (jm_R 21 0), some (jm_I x1), some (jm_I x2), some (jm_I x3), some (jm_I x4), some (jm_I x5), some (jm_I x6), some (jm_I x7), some (jm_I x8), o9], [jm_I x7], σ))) ((jm_call d jM_afterTurns [jm_R 21 0, jm_I x4, jm_I x6, jm_I x8] σ).bind fun q => jm_ev d (jm_psh (jM_byTurns, 143, [some (jm_R 21 0), some (jm_I x1), some (jm_I x2), some (jm_I x3), some (jm_I x4), some (jm_I x5), some (jm_I x6), some (jm_I x7), some (jm_I x8), o9], [], σ) q)) := (jm_un_eq [0, 9, 24, 49, 51, 64, 81, 83, 97, 114, 116, 130, 143, 159, 166, 188, 208, 214] d 7 _).trans rfl
theorem gM_byTurns_143 (d : Nat) (σ : jm_S) (x1 x2 x3 x4 x5 x6 x7 x8 xs0 : Int32) (o9 : Option jm_V) : jm_ev d (jM_byTurns, 143, [some (jm_R 21 0), some (jm_I x1), some (jm_I x2), some (jm_I x3), some (jm_I x4), some (jm_I x5), some (jm_I x6), some (jm_I x7), some (jm_I x8), o9], [jm_I xs0], σ) = cond (decide (x7 = (-1000000 : Int32))) (jm_ev d (jM_byTurns, 159, [some (jm_R 21 0), some (jm_I x1), some (jm_I x2), some (jm_I x3), some (jm_I x4), some (jm_I x5), some (jm_I x6), some (jm_I x7), some (jm_I x8), some (jm_I xs0)], [], σ)) (cond (decide (x7 ≤ xs0)) (jm_ev d (jM_byTurns, 166, [some (jm_R 21 0), some (jm_I x1), some (jm_I x2), some (jm_I x3), some (jm_I x4), some (jm_I x5), some (jm_I x6), some (jm_I x7), some (jm_I x8), some (jm_I xs0)], [jm_I x7], σ)) (jm_ev d (jM_byTurns, 159, [some (jm_R 21 0), some (jm_I x1), some (jm_I x2), some (jm_I x3), some (jm_I x4), some (jm_I x5), some (jm_I x6), some (jm_I x7), some (jm_I x8), some (jm_I xs0)], [], σ))) := (jm_un_eq [0, 9, 24, 49, 51, 64, 81, 83, 97, 114, 116, 130, 143, 159, 166, 188, 208, 214] d 9 _).trans rfl
theorem gM_byTurns_159 (d : Nat) (σ : jm_S) (x1 x2 x3 x4 x5 x6 x7 x8 x9 : Int32) : jm_ev d (jM_byTurns, 159, [some (jm_R 21 0), some (jm_I x1), some (jm_I x2), some (jm_I x3), some (jm_I x4), some (jm_I x5), some (jm_I x6), some (jm_I x7), some (jm_I x8), some (jm_I x9)], [], σ) = jm_ev d (jM_byTurns, 166, [some (jm_R 21 0), some (jm_I x1), some (jm_I x2), some (jm_I x3), some (jm_I x4), some (jm_I x5), some (jm_I x6), some (jm_I x7), some (jm_I x8), some (jm_I x9)], [jm_I x9], σ) := (jm_un_eq [0, 9, 24, 49, 51, 64, 81, 83, 97, 114, 116, 130, 143, 159, 166, 188, 208, 214] d 3 _).trans rfl
theorem gM_byTurns_166 (d : Nat) (σ : jm_S) (x1 x2 x3 x4 x5 x6 x7 x8 x9 xs0 : Int32) : jm_ev d (jM_byTurns, 166, [some (jm_R 21 0), some (jm_I x1), some (jm_I x2), some (jm_I x3), some (jm_I x4), some (jm_I x5), some (jm_I x6), some (jm_I x7), some (jm_I x8), some (jm_I x9)], [jm_I xs0], σ) = jm_ev d (jM_byTurns, 116, [some (jm_R 21 0), some (jm_I x1), some (jm_I x2), some (jm_I x3), some (jm_I x4), some (jm_I x5), some (jm_I x6), some (jm_I xs0), some (jm_I (x8 + (1 : Int32))), some (jm_I x9)], [], σ) := (jm_un_eq [0, 9, 24, 49, 51, 64, 81, 83, 97, 114, 116, 130, 143, 159, 166, 188, 208, 214] d 4 _).trans rfl
theorem gM_byTurns_188 (d : Nat) (σ : jm_S) (x1 x2 x3 x4 x5 x6 x7 x8 xs0 : Int32) (o9 : Option jm_V) : jm_ev d (jM_byTurns, 188, [some (jm_R 21 0), some (jm_I x1), some (jm_I x2), some (jm_I x3), some (jm_I x4), some (jm_I x5), some (jm_I x6), some (jm_I x7), some (jm_I x8), o9], [jm_I xs0], σ) = jm_ev d (jM_byTurns, 83, [some (jm_R 21 0), some (jm_I x1), some (jm_I x2), some (jm_I x3), some (jm_I x4), some (jm_I xs0), some (jm_I (x6 + (1 : Int32))), some (jm_I x7), some (jm_I x8), o9], [], σ) := (jm_un_eq [0, 9, 24, 49, 51, 64, 81, 83, 97, 114, 116, 130, 143, 159, 166, 188, 208, 214] d 4 _).trans rfl
theorem gM_byTurns_208 (d : Nat) (σ : jm_S) (x1 x2 x3 x4 x5 x6 : Int32) (o7 o8 o9 : Option jm_V) : jm_ev d (jM_byTurns, 208, [some (jm_R 21 0), some (jm_I x1), some (jm_I x2), some (jm_I x3), some (jm_I x4), some (jm_I x5), some (jm_I x6), o7, o8, o9], [], σ) = jm_ev d (jM_byTurns, 214, [some (jm_R 21 0), some (jm_I x1), some (jm_I x2), some (jm_I x3), some (jm_I x4), some (jm_I x5), some (jm_I x6), o7, o8, o9], [jm_I x5], σ) := (jm_un_eq [0, 9, 24, 49, 51, 64, 81, 83, 97, 114, 116, 130, 143, 159, 166, 188, 208, 214] d 3 _).trans rfl
theorem gM_byTurns_214 (d : Nat) (σ : jm_S) (x1 x2 x3 x4 x5 x6 xs0 : Int32) (o7 o8 o9 : Option jm_V) : jm_ev d (jM_byTurns, 214, [some (jm_R 21 0), some (jm_I x1), some (jm_I x2), some (jm_I x3), some (jm_I x4), some (jm_I x5), some (jm_I x6), o7, o8, o9], [jm_I xs0], σ) = jm_ev d (jM_byTurns, 51, [some (jm_R 21 0), some (jm_I x1), some (jm_I x2), some (jm_I xs0), some (jm_I (x4 + (1 : Int32))), some (jm_I x5), some (jm_I x6), o7, o8, o9], [], σ) := (jm_un_eq [0, 9, 24, 49, 51, 64, 81, 83, 97, 114, 116, 130, 143, 159, 166, 188, 208, 214] d 4 _).trans rfl
theorem gM_rowFound_0 (d : Nat) (σ : jm_S) (x1 x2 x3 : Int32) : jm_call (d + 1) jM_rowFound [jm_R 21 0, jm_I x1, jm_I x2, jm_I x3] σ = cond (jm_in3 x1 8) (cond (decide (0 ≤ σ.1 22 0 x1.toNatClampNeg)) (cond (decide (x2 < 0)) (jm_ev d (jM_rowFound, 35, [some (jm_R 21 0), some (jm_I x1), some (jm_I x2), some (jm_I x3)], [], σ)) (cond (jm_in3 x1 8) (cond (decide (lg_cmp (x2.toInt64 + x3.toInt64) ((σ.1 23 0 x1.toNatClampNeg).toInt64) ≤ 0)) (some (some (jm_I (0 : Int32)), jm_wi σ 21 0 1 (0 : Int32))) (jm_ev d (jM_rowFound, 35, [some (jm_R 21 0), some (jm_I x1), some (jm_I x2), some (jm_I x3)], [], σ))) (none))) ((jm_call d jM_finding [jm_R 21 0, jm_I (1 : Int32)] σ).bind fun q => jm_ev d (jm_psh (jM_rowFound, 14, [some (jm_R 21 0), some (jm_I x1), some (jm_I x2), some (jm_I x3)], [], σ) q))) (none) := (jm_un_eq [0, 14, 35, 40] d 25 (jM_rowFound, 0, [some (jm_R 21 0), some (jm_I x1), some (jm_I x2), some (jm_I x3)], [], σ)).trans rfl
theorem gM_rowFound_14 (d : Nat) (σ : jm_S) (x1 x2 x3 xs0 : Int32) : jm_ev d (jM_rowFound, 14, [some (jm_R 21 0), some (jm_I x1), some (jm_I x2), some (jm_I x3)], [jm_I xs0], σ) = some (some (jm_I xs0), σ) := (jm_un_eq [0, 14, 35, 40] d 2 _).trans rfl
theorem gM_rowFound_35 (d : Nat) (σ : jm_S) (x1 x2 x3 : Int32) : jm_ev d (jM_rowFound, 35, [some (jm_R 21 0), some (jm_I x1), some (jm_I x2), some (jm_I x3)], [], σ) = (jm_call d jM_finding [jm_R 21 0, jm_I (2 : Int32)] σ).bind fun q => jm_ev d (jm_psh (jM_rowFound, 40, [some (jm_R 21 0), some (jm_I x1), some (jm_I x2), some (jm_I x3)], [], σ) q) := (jm_un_eq [0, 14, 35, 40] d 4 _).trans rfl
theorem gM_rowFound_40 (d : Nat) (σ : jm_S) (x1 x2 x3 xs0 : Int32) : jm_ev d (jM_rowFound, 40, [some (jm_R 21 0), some (jm_I x1), some (jm_I x2), some (jm_I x3)], [jm_I xs0], σ) = some (some (jm_I xs0), σ) := (jm_un_eq [0, 14, 35, 40] d 2 _).trans rfl
theorem gM_isBoxedSo_0 (d : Nat) (σ : jm_S) (x1 x2 : Int32) : jm_call (d + 1) jM_isBoxedSo [jm_R 21 0, jm_I x1, jm_I x2] σ = (jm_call d jM_layBoxes [jm_R 21 0, jm_R 25 2, jm_I x2] σ).bind fun q => jm_ev d (jm_psh (jM_isBoxedSo, 9, [some (jm_R 21 0), some (jm_I x1), some (jm_I x2), none, none], [], σ) q) := (jm_un_eq [0, 9, 21, 25, 58, 75, 82] d 6 (jM_isBoxedSo, 0, [some (jm_R 21 0), some (jm_I x1), some (jm_I x2), none, none], [], σ)).trans rfl
theorem gM_isBoxedSo_9 (d : Nat) (σ : jm_S) (x1 x2 : Int32) : jm_ev d (jM_isBoxedSo, 9, [some (jm_R 21 0), some (jm_I x1), some (jm_I x2), none, none], [], σ) = cond (decide (¬ σ.1 21 0 19 = 0)) (jm_ev d (jM_isBoxedSo, 21, [some (jm_R 21 0), some (jm_I x1), some (jm_I x2), none, none], [jm_I (0 : Int32)], σ)) (jm_ev d (jM_isBoxedSo, 21, [some (jm_R 21 0), some (jm_I x1), some (jm_I x2), none, none], [jm_I (1 : Int32)], σ)) := (jm_un_eq [0, 9, 21, 25, 58, 75, 82] d 6 _).trans rfl
theorem gM_isBoxedSo_21 (d : Nat) (σ : jm_S) (x1 x2 xs0 : Int32) : jm_ev d (jM_isBoxedSo, 21, [some (jm_R 21 0), some (jm_I x1), some (jm_I x2), none, none], [jm_I xs0], σ) = jm_ev d (jM_isBoxedSo, 25, [some (jm_R 21 0), some (jm_I x1), some (jm_I x2), some (jm_I xs0), some (jm_I (0 : Int32))], [], σ) := (jm_un_eq [0, 9, 21, 25, 58, 75, 82] d 4 _).trans rfl
theorem gM_isBoxedSo_25 (d : Nat) (σ : jm_S) (x1 x2 x3 x4 : Int32) : jm_ev d (jM_isBoxedSo, 25, [some (jm_R 21 0), some (jm_I x1), some (jm_I x2), some (jm_I x3), some (jm_I x4)], [], σ) = cond (decide (x2 ≤ x4)) (jm_ev d (jM_isBoxedSo, 82, [some (jm_R 21 0), some (jm_I x1), some (jm_I x2), some (jm_I x3), some (jm_I x4)], [], σ)) (cond (decide (x3 = 0)) (jm_ev d (jM_isBoxedSo, 82, [some (jm_R 21 0), some (jm_I x1), some (jm_I x2), some (jm_I x3), some (jm_I x4)], [], σ)) (cond (jm_in3 x4 6) (cond (decide (¬ σ.1 29 0 x4.toNatClampNeg = (-1000000 : Int32))) (cond (jm_in3 x4 6) (jm_ev d (jM_isBoxedSo, 58, [some (jm_R 21 0), some (jm_I x1), some (jm_I x2), some (jm_I x3), some (jm_I x4)], [jm_I (σ.1 29 0 x4.toNatClampNeg)], σ)) (none)) (jm_ev d (jM_isBoxedSo, 58, [some (jm_R 21 0), some (jm_I x1), some (jm_I x2), some (jm_I x3), some (jm_I x4)], [jm_I (-1 : Int32)], σ))) (none))) := (jm_un_eq [0, 9, 21, 25, 58, 75, 82] d 16 _).trans rfl
theorem gM_isBoxedSo_58 (d : Nat) (σ : jm_S) (x1 x2 x3 x4 xs0 : Int32) : jm_ev d (jM_isBoxedSo, 58, [some (jm_R 21 0), some (jm_I x1), some (jm_I x2), some (jm_I x3), some (jm_I x4)], [jm_I xs0], σ) = cond (jm_in3 (x1 + x4) 320) (cond (decide (¬ xs0 = σ.1 24 0 ((x1 + x4).toNatClampNeg))) (jm_ev d (jM_isBoxedSo, 75, [some (jm_R 21 0), some (jm_I x1), some (jm_I x2), some (jm_I x3), some (jm_I x4)], [jm_I (0 : Int32)], σ)) (jm_ev d (jM_isBoxedSo, 75, [some (jm_R 21 0), some (jm_I x1), some (jm_I x2), some (jm_I x3), some (jm_I x4)], [jm_I (1 : Int32)], σ))) (none) := (jm_un_eq [0, 9, 21, 25, 58, 75, 82] d 10 _).trans rfl
theorem gM_isBoxedSo_75 (d : Nat) (σ : jm_S) (x1 x2 x3 x4 xs0 : Int32) : jm_ev d (jM_isBoxedSo, 75, [some (jm_R 21 0), some (jm_I x1), some (jm_I x2), some (jm_I x3), some (jm_I x4)], [jm_I xs0], σ) = jm_ev d (jM_isBoxedSo, 25, [some (jm_R 21 0), some (jm_I x1), some (jm_I x2), some (jm_I xs0), some (jm_I (x4 + (1 : Int32)))], [], σ) := (jm_un_eq [0, 9, 21, 25, 58, 75, 82] d 4 _).trans rfl
theorem gM_isBoxedSo_82 (d : Nat) (σ : jm_S) (x1 x2 x3 x4 : Int32) : jm_ev d (jM_isBoxedSo, 82, [some (jm_R 21 0), some (jm_I x1), some (jm_I x2), some (jm_I x3), some (jm_I x4)], [], σ) = cond (jm_b01 x3) (some (some (jm_I x3), σ)) none := (jm_un_eq [0, 9, 21, 25, 58, 75, 82] d 3 _).trans rfl
theorem gM_who_0 (d : Nat) (σ : jm_S) (x1 x2 x3 x4 x5 : Int32) : jm_call (d + 1) jM_who [jm_R 21 0, jm_I x1, jm_I x2, jm_I x3, jm_I x4, jm_I x5] σ = (jm_call d jM_isDisc [jm_R 21 0, jm_I x1] (jm_wi σ 21 0 0 (0 : Int32))).bind fun q => jm_ev d (jm_psh (jM_who, 10, [some (jm_R 21 0), some (jm_I x1), some (jm_I x2), some (jm_I x3), some (jm_I x4), some (jm_I x5), none, none, none, none, none], [], jm_wi σ 21 0 0 (0 : Int32)) q) := (jm_un_eq [0, 10, 22, 29, 46, 49, 61, 91, 93, 106, 113, 132, 149, 167, 182, 187, 215] d 7 (jM_who, 0, [some (jm_R 21 0), some (jm_I x1), some (jm_I x2), some (jm_I x3), some (jm_I x4), some (jm_I x5), none, none, none, none, none], [], σ)).trans rfl
theorem gM_who_10 (d : Nat) (σ : jm_S) (x1 x2 x3 x4 x5 xs0 : Int32) : jm_ev d (jM_who, 10, [some (jm_R 21 0), some (jm_I x1), some (jm_I x2), some (jm_I x3), some (jm_I x4), some (jm_I x5), none, none, none, none, none], [jm_I xs0], σ) = cond (decide (xs0 = 0)) (jm_ev d (jM_who, 49, [some (jm_R 21 0), some (jm_I x1), some (jm_I x2), some (jm_I x3), some (jm_I x4), some (jm_I x5), none, none, none, none, none], [], σ)) ((jm_call d jM_in [jm_L x2.toInt64, jm_L (0 : Int64), jm_L (3 : Int64)] σ).bind fun q => jm_ev d (jm_psh (jM_who, 22, [some (jm_R 21 0), some (jm_I x1), some (jm_I x2), some (jm_I x3), some (jm_I x4), some (jm_I x5), none, none, none, none, none], [], σ) q)) := (jm_un_eq [0, 10, 22, 29, 46, 49, 61, 91, 93, 106, 113, 132, 149, 167, 182, 187, 215] d 7 _).trans rfl
theorem gM_who_22 (d : Nat) (σ : jm_S) (x1 x2 x3 x4 x5 xs0 : Int32) : jm_ev d (jM_who, 22, [some (jm_R 21 0), some (jm_I x1), some (jm_I x2), some (jm_I x3), some (jm_I x4), some (jm_I x5), none, none, none, none, none], [jm_I xs0], σ) = cond (decide (xs0 = 0)) (jm_ev d (jM_who, 49, [some (jm_R 21 0), some (jm_I x1), some (jm_I x2), some (jm_I x3), some (jm_I x4), some (jm_I x5), none, none, none, none, none], [], σ)) ((jm_call d jM_isRow [jm_I x3] σ).bind fun q => jm_ev d (jm_psh (jM_who, 29, [some (jm_R 21 0), some (jm_I x1), some (jm_I x2), some (jm_I x3), some (jm_I x4), some (jm_I x5), none, none, none, none, none], [], σ) q)) := (jm_un_eq [0, 10, 22, 29, 46, 49, 61, 91, 93, 106, 113, 132, 149, 167, 182, 187, 215] d 4 _).trans rfl
theorem gM_who_29 (d : Nat) (σ : jm_S) (x1 x2 x3 x4 x5 xs0 : Int32) : jm_ev d (jM_who, 29, [some (jm_R 21 0), some (jm_I x1), some (jm_I x2), some (jm_I x3), some (jm_I x4), some (jm_I x5), none, none, none, none, none], [jm_I xs0], σ) = cond (decide (xs0 = 0)) (jm_ev d (jM_who, 49, [some (jm_R 21 0), some (jm_I x1), some (jm_I x2), some (jm_I x3), some (jm_I x4), some (jm_I x5), none, none, none, none, none], [], σ)) ((jm_call d jM_in [jm_L x5.toInt64, jm_L (1 : Int64), jm_L ((σ.1 25 0 0).toInt64)] σ).bind fun q => jm_ev d (jm_psh (jM_who, 46, [some (jm_R 21 0), some (jm_I x1), some (jm_I x2), some (jm_I x3), some (jm_I x4), some (jm_I x5), none, none, none, none, none], [], σ) q)) := (jm_un_eq [0, 10, 22, 29, 46, 49, 61, 91, 93, 106, 113, 132, 149, 167, 182, 187, 215] d 11 _).trans rfl
theorem gM_who_46 (d : Nat) (σ : jm_S) (x1 x2 x3 x4 x5 xs0 : Int32) : jm_ev d (jM_who, 46, [some (jm_R 21 0), some (jm_I x1), some (jm_I x2), some (jm_I x3), some (jm_I x4), some (jm_I x5), none, none, none, none, none], [jm_I xs0], σ) = cond (decide (¬ xs0 = 0)) ((jm_call d jM_rowFound [jm_R 21 0, jm_I x3, jm_I x4, jm_I x5] σ).bind fun q => jm_ev d (jm_psh (jM_who, 61, [some (jm_R 21 0), some (jm_I x1), some (jm_I x2), some (jm_I x3), some (jm_I x4), some (jm_I x5), none, none, none, none, none], [], σ) q)) (jm_ev d (jM_who, 49, [some (jm_R 21 0), some (jm_I x1), some (jm_I x2), some (jm_I x3), some (jm_I x4), some (jm_I x5), none, none, none, none, none], [], σ)) := (jm_un_eq [0, 10, 22, 29, 46, 49, 61, 91, 93, 106, 113, 132, 149, 167, 182, 187, 215] d 7 _).trans rfl
theorem gM_who_49 (d : Nat) (σ : jm_S) (x1 x2 x3 x4 x5 : Int32) : jm_ev d (jM_who, 49, [some (jm_R 21 0), some (jm_I x1), some (jm_I x2), some (jm_I x3), some (jm_I x4), some (jm_I x5), none, none, none, none, none], [], σ) = some (some (jm_I (-1000001 : Int32)), σ) := (jm_un_eq [0, 10, 22, 29, 46, 49, 61, 91, 93, 106, 113, 132, 149, 167, 182, 187, 215] d 3 _).trans rfl
theorem gM_who_61 (d : Nat) (σ : jm_S) (x1 x2 x3 x4 x5 xs0 : Int32) : jm_ev d (jM_who, 61, [some (jm_R 21 0), some (jm_I x1), some (jm_I x2), some (jm_I x3), some (jm_I x4), some (jm_I x5), none, none, none, none, none], [jm_I xs0], σ) = cond (decide (xs0 = 0)) (cond (decide (x2 ≤ (1 : Int32))) (jm_ev d (jM_who, 91, [some (jm_R 21 0), some (jm_I x1), some (jm_I x2), some (jm_I x3), some (jm_I x4), some (jm_I x5), some (jm_I xs0), some (jm_I (0 : Int32)), some (jm_I (0 : Int32)), some (jm_I (-1000000 : Int32)), none], [jm_I (1 : Int32)], σ)) (jm_ev d (jM_who, 91, [some (jm_R 21 0), some (jm_I x1), some (jm_I x2), some (jm_I x3), some (jm_I x4), some (jm_I x5), some (jm_I xs0), some (jm_I (0 : Int32)), some (jm_I (0 : Int32)), some (jm_I (-1000000 : Int32)), none], [jm_I (0 : Int32)], σ))) (some (some (jm_I xs0), σ)) := (jm_un_eq [0, 10, 22, 29, 46, 49, 61, 91, 93, 106, 113, 132, 149, 167, 182, 187, 215] d 15 _).trans rfl
theorem gM_who_91 (d : Nat) (σ : jm_S) (x1 x2 x3 x4 x5 x6 x7 x8 x9 xs0 : Int32) : jm_ev d (jM_who, 91, [some (jm_R 21 0), some (jm_I x1), some (jm_I x2), some (jm_I x3), some (jm_I x4), some (jm_I x5), some (jm_I x6), some (jm_I x7), some (jm_I x8), some (jm_I x9), none], [jm_I xs0], σ) = jm_ev d (jM_who, 93, [some (jm_R 21 0), some (jm_I x1), some (jm_I x2), some (jm_I x3), some (jm_I x4), some (jm_I x5), some (jm_I x6), some (jm_I x7), some (jm_I x8), some (jm_I x9), some (jm_I xs0)], [], σ) := (jm_un_eq [0, 10, 22, 29, 46, 49, 61, 91, 93, 106, 113, 132, 149, 167, 182, 187, 215] d 2 _).trans rfl
theorem gM_who_93 (d : Nat) (σ : jm_S) (x1 x2 x3 x4 x5 x6 x7 x8 x9 x10 : Int32) : jm_ev d (jM_who, 93, [some (jm_R 21 0), some (jm_I x1), some (jm_I x2), some (jm_I x3), some (jm_I x4), some (jm_I x5), some (jm_I x6), some (jm_I x7), some (jm_I x8), some (jm_I x9), some (jm_I x10)], [], σ) = cond (decide (x2 ≤ (1 : Int32))) (jm_ev d (jM_who, 106, [some (jm_R 21 0), some (jm_I x1), some (jm_I x2), some (jm_I x3), some (jm_I x4), some (jm_I x5), some (jm_I x6), some (jm_I x7), some (jm_I x8), some (jm_I x9), some (jm_I x10)], [jm_I (5 : Int32), jm_I x10], σ)) (jm_ev d (jM_who, 106, [some (jm_R 21 0), some (jm_I x1), some (jm_I x2), some (jm_I x3), some (jm_I x4), some (jm_I x5), some (jm_I x6), some (jm_I x7), some (jm_I x8), some (jm_I x9), some (jm_I x10)], [jm_I (40 : Int32), jm_I x10], σ)) := (jm_un_eq [0, 10, 22, 29, 46, 49, 61, 91, 93, 106, 113, 132, 149, 167, 182, 187, 215] d 7 _).trans rfl
theorem gM_who_106 (d : Nat) (σ : jm_S) (x1 x2 x3 x4 x5 x6 x7 x8 x9 x10 xs0 xs1 : Int32) : jm_ev d (jM_who, 106, [some (jm_R 21 0), some (jm_I x1), some (jm_I x2), some (jm_I x3), some (jm_I x4), some (jm_I x5), some (jm_I x6), some (jm_I x7), some (jm_I x8), some (jm_I x9), some (jm_I x10)], [jm_I xs0, jm_I xs1], σ) = cond (decide (xs0 < xs1)) (cond (decide ((2 : Int32) ≤ x2)) (cond (decide (¬ x2 = (2 : Int32))) (jm_ev d (jM_who, 215, [some (jm_R 21 0), some (jm_I x1), some (jm_I x2), some (jm_I x3), some (jm_I x4), some (jm_I x5), some (jm_I x6), some (jm_I x7), some (jm_I x8), some (jm_I x9), some (jm_I x10)], [jm_I x9], σ)) (jm_ev d (jM_who, 215, [some (jm_R 21 0), some (jm_I x1), some (jm_I x2), some (jm_I x3), some (jm_I x4), some (jm_I x5), some (jm_I x6), some (jm_I x7), some (jm_I x8), some (jm_I x9), some (jm_I x10)], [jm_I x8], σ))) (jm_ev d (jM_who, 215, [some (jm_R 21 0), some (jm_I x1), some (jm_I x2), some (jm_I x3), some (jm_I x4), some (jm_I x5), some (jm_I x6), some (jm_I x7), some (jm_I x8), some (jm_I x9), some (jm_I x10)], [jm_I x7], σ))) ((jm_call d jM_layThen [jm_R 21 0] σ).bind fun q => jm_ev d (jm_psh (jM_who, 113, [some (jm_R 21 0), some (jm_I x1), some (jm_I x2), some (jm_I x3), some (jm_I x4), some (jm_I x5), some (jm_I x6), some (jm_I x7), some (jm_I x8), some (jm_I x9), some (jm_I x10)], [], σ) q)) := (jm_un_eq [0, 10, 22, 29, 46, 49, 61, 91, 93, 106, 113, 132, 149, 167, 182, 187, 215] d 10 _).trans rfl
theorem gM_who_113 (d : Nat) (σ : jm_S) (x1 x2 x3 x4 x5 x6 x7 x8 x9 x10 : Int32) : jm_ev d (jM_who, 113, [some (jm_R 21 0), some (jm_I x1), some (jm_I x2), some (jm_I x3), some (jm_I x4), some (jm_I x5), some (jm_I x6), some (jm_I x7), some (jm_I x8), some (jm_I x9), some (jm_I x10)], [], σ) = cond (decide (x2 ≤ (1 : Int32))) (jm_ev d (jM_who, 132, [some (jm_R 21 0), some (jm_I x1), some (jm_I x2), some (jm_I x3), some (jm_I x4), some (jm_I x5), some (jm_I x6), some (jm_I x7), some (jm_I x8), some (jm_I x9), some (jm_I x10)], [jm_I x2, jm_I ((2 : Int32) + ((4 : Int32) * x1)), jm_R 25 2], σ)) (jm_ev d (jM_who, 132, [some (jm_R 21 0), some (jm_I x1), some (jm_I x2), some (jm_I x3), some (jm_I x4), some (jm_I x5), some (jm_I x6), some (jm_I x7), some (jm_I x8), some (jm_I x9), some (jm_I x10)], [jm_I (2 : Int32), jm_I ((2 : Int32) + ((4 : Int32) * x1)), jm_R 25 2], σ)) := (jm_un_eq [0, 10, 22, 29, 46, 49, 61, 91, 93, 106, 113, 132, 149, 167, 182, 187, 215] d 13 _).trans rfl
theorem gM_who_132 (d : Nat) (σ : jm_S) (x1 x2 x3 x4 x5 x6 x7 x8 x9 x10 xs0 xs1 : Int32) : jm_ev d (jM_who, 132, [some (jm_R 21 0), some (jm_I x1), some (jm_I x2), some (jm_I x3), some (jm_I x4), some (jm_I x5), some (jm_I x6), some (jm_I x7), some (jm_I x8), some (jm_I x9), some (jm_I x10)], [jm_I xs0, jm_I xs1, jm_R 25 2], σ) = cond (jm_in3 (xs1 + xs0) 26) ((jm_call d jM_isBoxedSo [jm_R 21 0, jm_I (((40 : Int32) * x3) + x4), jm_I x5] (jm_wi σ 25 2 ((xs1 + xs0).toNatClampNeg) x10)).bind fun q => jm_ev d (jm_psh (jM_who, 149, [some (jm_R 21 0), some (jm_I x1), some (jm_I x2), some (jm_I x3), some (jm_I x4), some (jm_I x5), some (jm_I x6), some (jm_I x7), some (jm_I x8), some (jm_I x9), some (jm_I x10)], [], jm_wi σ 25 2 ((xs1 + xs0).toNatClampNeg) x10) q)) (none) := (jm_un_eq [0, 10, 22, 29, 46, 49, 61, 91, 93, 106, 113, 132, 149, 167, 182, 187, 215] d 12 _).trans rfl
theorem gM_who_149 (d : Nat) (σ : jm_S) (x1 x2 x3 x4 x5 x6 x7 x8 x9 x10 xs0 : Int32) : jm_ev d (jM_who, 149, [some (jm_R 21 0), some (jm_I x1), some (jm_I x2), some (jm_I x3), some (jm_I x4), some (jm_I x5), some (jm_I x6), some (jm_I x7), some (jm_I x8), some (jm_I x9), some (jm_I x10)], [jm_I xs0], σ) = cond (decide (xs0 = 0)) (jm_ev d (jM_who, 187, [some (jm_R 21 0), some (jm_I x1), some (jm_I x2), some (jm_I x3), some (jm_I x4), some (jm_I x5), some (jm_I x6), some (jm_I x7), some (jm_I x8), some (jm_I x9), some (jm_I x10)], [], σ)) (cond (decide ((2 : Int32) ≤ x2)) (jm_ev d (jM_who, 167, [some (jm_R 21 0), some (jm_I x1), some (jm_I x2), some (jm_I x3), some (jm_I x4), some (jm_I x5), some (jm_I x6), some (jm_I x7), some (jm_I x8), some (jm_I x9), some (jm_I x10)], [jm_I (0 : Int32), jm_I x7], σ)) (jm_ev d (jM_who, 167, [some (jm_R 21 0), some (jm_I x1), some (jm_I x2), some (jm_I x3), some (jm_I x4), some (jm_I x5), some (jm_I x6), some (jm_I x7), some (jm_I x8), some (jm_I x9), some (jm_I x10)], [jm_I ((1 : Int32) <<< (x10 &&& 31)), jm_I x7], σ))) := (jm_un_eq [0, 10, 22, 29, 46, 49, 61, 91, 93, 106, 113, 132, 149, 167, 182, 187, 215] d 10 _).trans rfl
theorem gM_who_167 (d : Nat) (σ : jm_S) (x1 x2 x3 x4 x5 x6 x7 x8 x9 x10 xs0 xs1 : Int32) : jm_ev d (jM_who, 167, [some (jm_R 21 0), some (jm_I x1), some (jm_I x2), some (jm_I x3), some (jm_I x4), some (jm_I x5), some (jm_I x6), some (jm_I x7), some (jm_I x8), some (jm_I x9), some (jm_I x10)], [jm_I xs0, jm_I xs1], σ) = cond (decide (¬ x8 = 0)) (jm_ev d (jM_who, 182, [some (jm_R 21 0), some (jm_I x1), some (jm_I x2), some (jm_I x3), some (jm_I x4), some (jm_I x5), some (jm_I x6), some (jm_I (xs1 ||| xs0)), some (jm_I x8), some (jm_I x9), some (jm_I x10)], [jm_I x9], σ)) (jm_ev d (jM_who, 182, [some (jm_R 21 0), some (jm_I x1), some (jm_I x2), some (jm_I x3), some (jm_I x4), some (jm_I x5), some (jm_I x6), some (jm_I (xs1 ||| xs0)), some (jm_I x8), some (jm_I x9), some (jm_I x10)], [jm_I x10], σ)) := (jm_un_eq [0, 10, 22, 29, 46, 49, 61, 91, 93, 106, 113, 132, 149, 167, 182, 187, 215] d 7 _).trans rfl
theorem gM_who_182 (d : Nat) (σ : jm_S) (x1 x2 x3 x4 x5 x6 x7 x8 x9 x10 xs0 : Int32) : jm_ev d (jM_who, 182, [some (jm_R 21 0), some (jm_I x1), some (jm_I x2), some (jm_I x3), some (jm_I x4), some (jm_I x5), some (jm_I x6), some (jm_I x7), some (jm_I x8), some (jm_I x9), some (jm_I x10)], [jm_I xs0], σ) = jm_ev d (jM_who, 187, [some (jm_R 21 0), some (jm_I x1), some (jm_I x2), some (jm_I x3), some (jm_I x4), some (jm_I x5), some (jm_I x6), some (jm_I x7), some (jm_I (x8 + (1 : Int32))), some (jm_I xs0), some (jm_I x10)], [], σ) := (jm_un_eq [0, 10, 22, 29, 46, 49, 61, 91, 93, 106, 113, 132, 149, 167, 182, 187, 215] d 3 _).trans rfl
theorem gM_who_187 (d : Nat) (σ : jm_S) (x1 x2 x3 x4 x5 x6 x7 x8 x9 x10 : Int32) : jm_ev d (jM_who, 187, [some (jm_R 21 0), some (jm_I x1), some (jm_I x2), some (jm_I x3), some (jm_I x4), some (jm_I x5), some (jm_I x6), some (jm_I x7), some (jm_I x8), some (jm_I x9), some (jm_I x10)], [], σ) = jm_ev d (jM_who, 93, [some (jm_R 21 0), some (jm_I x1), some (jm_I x2), some (jm_I x3), some (jm_I x4), some (jm_I x5), some (jm_I x6), some (jm_I x7), some (jm_I x8), some (jm_I x9), some (jm_I (x10 + (1 : Int32)))], [], σ) := (jm_un_eq [0, 10, 22, 29, 46, 49, 61, 91, 93, 106, 113, 132, 149, 167, 182, 187, 215] d 3 _).trans rfl
theorem gM_who_215 (d : Nat) (σ : jm_S) (x1 x2 x3 x4 x5 x6 x7 x8 x9 x10 xs0 : Int32) : jm_ev d (jM_who, 215, [some (jm_R 21 0), some (jm_I x1), some (jm_I x2), some (jm_I x3), some (jm_I x4), some (jm_I x5), some (jm_I x6), some (jm_I x7), some (jm_I x8), some (jm_I x9), some (jm_I x10)], [jm_I xs0], σ) = some (some (jm_I xs0), σ) := (jm_un_eq [0, 10, 22, 29, 46, 49, 61, 91, 93, 106, 113, 132, 149, 167, 182, 187, 215] d 2 _).trans rfl
end
section
-- what each stretch of code does
theorem gM_broken_0 (d : Nat) (σ : jm_S) (x1 x2 x3 : Int32) : jm_call (d + 1) jM_broken [jm_R 21 0, jm_I x1, jm_I x2, jm_I x3] σ = (jm_call d jM_isThere [jm_R 21 0] (jm_wi σ 21 0 0 (0 : Int32))).bind fun q => jm_ev d (jm_psh (jM_broken, 9, [some (jm_R 21 0), some (jm_I x1), some (jm_I x2), some (jm_I x3), none, none, none, none, none, none, none, none, none, none, none], [], jm_wi σ 21 0 0 (0 : Int32)) q) := (jm_un_eq [0, 9, 25, 37, 47, 50, 73, 89, 92, 108, 122, 144, 164, 192, 214, 215, 232, 268] d 6 (jM_broken, 0, [some (jm_R 21 0), some (jm_I x1), some (jm_I x2), some (jm_I x3), none, none, none, none, none, none, none, none, none, none, none], [], σ)).trans rfl
theorem gM_broken_9 (d : Nat) (σ : jm_S) (x1 x2 x3 xs0 : Int32) : jm_ev d (jM_broken, 9, [some (jm_R 21 0), some (jm_I x1), some (jm_I x2), some (jm_I x3), none, none, none, none, none, none, none, none, none, none, none], [jm_I xs0], σ) = cond (decide (¬ xs0 = 0)) ((jm_call d jM_in [jm_L x1.toInt64, jm_L (0 : Int64), jm_L (6 : Int64)] σ).bind fun q => jm_ev d (jm_psh (jM_broken, 25, [some (jm_R 21 0), some (jm_I x1), some (jm_I x2), some (jm_I x3), none, none, none, none, none, none, none, none, none, none, none], [], σ) q)) (some (some (jm_L (-1000002 : Int64)), σ)) := (jm_un_eq [0, 9, 25, 37, 47, 50, 73, 89, 92, 108, 122, 144, 164, 192, 214, 215, 232, 268] d 7 _).trans rfl
theorem gM_broken_25 (d : Nat) (σ : jm_S) (x1 x2 x3 xs0 : Int32) : jm_ev d (jM_broken, 25, [some (jm_R 21 0), some (jm_I x1), some (jm_I x2), some (jm_I x3), none, none, none, none, none, none, none, none, none, none, none], [jm_I xs0], σ) = cond (decide (xs0 = 0)) (jm_ev d (jM_broken, 50, [some (jm_R 21 0), some (jm_I x1), some (jm_I x2), some (jm_I x3), none, none, none, none, none, none, none, none, none, none, none], [], σ)) ((jm_call d jM_in [jm_L x2.toInt64, jm_L (0 : Int64), jm_L (10 : Int64)] σ).bind fun q => jm_ev d (jm_psh (jM_broken, 37, [some (jm_R 21 0), some (jm_I x1), some (jm_I x2), some (jm_I x3), none, none, none, none, none, none, none, none, none, none, none], [], σ) q)) := (jm_un_eq [0, 9, 25, 37, 47, 50, 73, 89, 92, 108, 122, 144, 164, 192, 214, 215, 232, 268] d 7 _).trans rfl
theorem gM_broken_37 (d : Nat) (σ : jm_S) (x1 x2 x3 xs0 : Int32) : jm_ev d (jM_broken, 37, [some (jm_R 21 0), some (jm_I x1), some (jm_I x2), some (jm_I x3), none, none, none, none, none, none, none, none, none, none, none], [jm_I xs0], σ) = cond (decide (xs0 = 0)) (jm_ev d (jM_broken, 50, [some (jm_R 21 0), some (jm_I x1), some (jm_I x2), some (jm_I x3), none, none, none, none, none, none, none, none, none, none, none], [], σ)) ((jm_call d jM_in [jm_L x3.toInt64, jm_L (0 : Int64), jm_L (1 : Int64)] σ).bind fun q => jm_ev d (jm_psh (jM_broken, 47, [some (jm_R 21 0), some (jm_I x1), some (jm_I x2), some (jm_I x3), none, none, none, none, none, none, none, none, none, none, none], [], σ) q)) := (jm_un_eq [0, 9, 25, 37, 47, 50, 73, 89, 92, 108, 122, 144, 164, 192, 214, 215, 232, 268] d 7 _).trans rfl
theorem gM_broken_47 (d : Nat) (σ : jm_S) (x1 x2 x3 xs0 : Int32) : jm_ev d (jM_broken, 47, [some (jm_R 21 0), some (jm_I x1), some (jm_I x2), some (jm_I x3), none, none, none, none, none, none, none, none, none, none, none], [jm_I xs0], σ) = cond (decide (¬ xs0 = 0)) (jm_ev d (jM_broken, 73, [some (jm_R 21 0), some (jm_I x1), some (jm_I x2), some (jm_I x3), some (jm_I ((σ.1 25 0 0) - (1 : Int32))), some (jm_L (0 : Int64)), none, some (jm_L (0 : Int64)), none, some (jm_I (0 : Int32)), none, none, none, none, none], [], σ)) (jm_ev d (jM_broken, 50, [some (jm_R 21 0), some (jm_I x1), some (jm_I x2), some (jm_I x3), none, none, none, none, none, none, none, none, none, none, none], [], σ)) := (jm_un_eq [0, 9, 25, 37, 47, 50, 73, 89, 92, 108, 122, 144, 164, 192, 214, 215, 232, 268] d 15 _).trans rfl
theorem gM_broken_50 (d : Nat) (σ : jm_S) (x1 x2 x3 : Int32) : jm_ev d (jM_broken, 50, [some (jm_R 21 0), some (jm_I x1), some (jm_I x2), some (jm_I x3), none, none, none, none, none, none, none, none, none, none, none], [], σ) = some (some (jm_L (-1000001 : Int64)), σ) := (jm_un_eq [0, 9, 25, 37, 47, 50, 73, 89, 92, 108, 122, 144, 164, 192, 214, 215, 232, 268] d 3 _).trans rfl
theorem gM_broken_73 (d : Nat) (σ : jm_S) (x1 x2 x3 x4 x9 : Int32) (l5 l7 : Int64) (o10 o12 : Option jm_V) : jm_ev d (jM_broken, 73, [some (jm_R 21 0), some (jm_I x1), some (jm_I x2), some (jm_I x3), some (jm_I x4), some (jm_L l5), none, some (jm_L l7), none, some (jm_I x9), o10, none, o12, none, none], [], σ) = cond (decide ((1 : Int32) <<< (x4 &&& 31) ≤ x9)) (jm_ev d (jM_broken, 232, [some (jm_R 21 0), some (jm_I x1), some (jm_I x2), some (jm_I x3), some (jm_I x4), some (jm_L l5), none, some (jm_L l7), none, some (jm_L l5), none, some (jm_L l7), none, none, none], [], σ)) ((jm_call d jM_layThen [jm_R 21 0] σ).bind fun q => jm_ev d (jm_psh (jM_broken, 89, [some (jm_R 21 0), some (jm_I x1), some (jm_I x2), some (jm_I x3), some (jm_I x4), some (jm_L l5), none, some (jm_L l7), none, some (jm_I x9), some (jm_L (1 : Int64)), none, o12, none, none], [], σ) q)) := (jm_un_eq [0, 9, 25, 37, 47, 50, 73, 89, 92, 108, 122, 144, 164, 192, 214, 215, 232, 268] d 10 _).trans rfl
theorem gM_broken_89 (d : Nat) (σ : jm_S) (x1 x2 x3 x4 x9 : Int32) (l5 l7 l10 : Int64) (o12 : Option jm_V) : jm_ev d (jM_broken, 89, [some (jm_R 21 0), some (jm_I x1), some (jm_I x2), some (jm_I x3), some (jm_I x4), some (jm_L l5), none, some (jm_L l7), none, some (jm_I x9), some (jm_L l10), none, o12, none, none], [], σ) = jm_ev d (jM_broken, 92, [some (jm_R 21 0), some (jm_I x1), some (jm_I x2), some (jm_I x3), some (jm_I x4), some (jm_L l5), none, some (jm_L l7), none, some (jm_I x9), some (jm_L l10), none, some (jm_I (0 : Int32)), none, none], [], σ) := (jm_un_eq [0, 9, 25, 37, 47, 50, 73, 89, 92, 108, 122, 144, 164, 192, 214, 215, 232, 268] d 3 _).trans rfl
theorem gM_broken_92 (d : Nat) (σ : jm_S) (x1 x2 x3 x4 x9 x12 : Int32) (l5 l7 l10 : Int64) : jm_ev d (jM_broken, 92, [some (jm_R 21 0), some (jm_I x1), some (jm_I x2), some (jm_I x3), some (jm_I x4), some (jm_L l5), none, some (jm_L l7), none, some (jm_I x9), some (jm_L l10), none, some (jm_I x12), none, none], [], σ) = cond (decide (x4 ≤ x12)) ((jm_call d jM_belowOf [jm_R 21 0, jm_R 25 2, jm_I (σ.1 25 0 1)] σ).bind fun q => jm_ev d (jm_psh (jM_broken, 192, [some (jm_R 21 0), some (jm_I x1), some (jm_I x2), some (jm_I x3), some (jm_I x4), some (jm_L l5), none, some (jm_L (l7 + l10)), none, some (jm_I x9), some (jm_L l10), none, some (jm_I x12), none, none], [], σ) q)) ((jm_call d jM_has [jm_I x9, jm_I x12] σ).bind fun q => jm_ev d (jm_psh (jM_broken, 108, [some (jm_R 21 0), some (jm_I x1), some (jm_I x2), some (jm_I x3), some (jm_I x4), some (jm_L l5), none, some (jm_L l7), none, some (jm_I x9), some (jm_L l10), none, some (jm_I x12), none, none], [jm_L l10], σ) q)) := (jm_un_eq [0, 9, 25, 37, 47, 50, 73, 89, 92, 108, 122, 144, 164, 192, 214, 215, 232, 268] d 16 _).trans rfl
theorem gM_broken_108 (d : Nat) (σ : jm_S) (x1 x2 x3 x4 x9 x12 xs0 : Int32) (l5 l7 l10 ls1 : Int64) : jm_ev d (jM_broken, 108, [some (jm_R 21 0), some (jm_I x1), some (jm_I x2), some (jm_I x3), some (jm_I x4), some (jm_L l5), none, some (jm_L l7), none, some (jm_I x9), some (jm_L l10), none, some (jm_I x12), none, none], [jm_I xs0, jm_L ls1], σ) = cond (decide (xs0 = 0)) (jm_ev d (jM_broken, 122, [some (jm_R 21 0), some (jm_I x1), some (jm_I x2), some (jm_I x3), some (jm_I x4), some (jm_L l5), none, some (jm_L l7), none, some (jm_I x9), some (jm_L l10), none, some (jm_I x12), none, none], [jm_L ((10 : Int64) - x2.toInt64), jm_L ls1], σ)) (jm_ev d (jM_broken, 122, [some (jm_R 21 0), some (jm_I x1), some (jm_I x2), some (jm_I x3), some (jm_I x4), some (jm_L l5), none, some (jm_L l7), none, some (jm_I x9), some (jm_L l10), none, some (jm_I x12), none, none], [jm_L x2.toInt64, jm_L ls1], σ)) := (jm_un_eq [0, 9, 25, 37, 47, 50, 73, 89, 92, 108, 122, 144, 164, 192, 214, 215, 232, 268] d 6 _).trans rfl
theorem gM_broken_122 (d : Nat) (σ : jm_S) (x1 x2 x3 x4 x9 x12 : Int32) (l5 l7 l10 ls0 ls1 : Int64) : jm_ev d (jM_broken, 122, [some (jm_R 21 0), some (jm_I x1), some (jm_I x2), some (jm_I x3), some (jm_I x4), some (jm_L l5), none, some (jm_L l7), none, some (jm_I x9), some (jm_L l10), none, some (jm_I x12), none, none], [jm_L ls0, jm_L ls1], σ) = (jm_call d jM_has [jm_I x9, jm_I x12] σ).bind fun q => jm_ev d (jm_psh (jM_broken, 144, [some (jm_R 21 0), some (jm_I x1), some (jm_I x2), some (jm_I x3), some (jm_I x4), some (jm_L l5), none, some (jm_L l7), none, some (jm_I x9), some (jm_L (ls1 * ls0)), none, some (jm_I x12), none, none], [jm_I (((2 : Int32) + ((4 : Int32) * x12)) + (2 : Int32)), jm_R 25 2], σ) q) := (jm_un_eq [0, 9, 25, 37, 47, 50, 73, 89, 92, 108, 122, 144, 164, 192, 214, 215, 232, 268] d 15 _).trans rfl
theorem gM_broken_144 (d : Nat) (σ : jm_S) (x1 x2 x3 x4 x9 x12 xs0 xs1 : Int32) (l5 l7 l10 : Int64) : jm_ev d (jM_broken, 144, [some (jm_R 21 0), some (jm_I x1), some (jm_I x2), some (jm_I x3), some (jm_I x4), some (jm_L l5), none, some (jm_L l7), none, some (jm_I x9), some (jm_L l10), none, some (jm_I x12), none, none], [jm_I xs0, jm_I xs1, jm_R 25 2], σ) = cond (decide (xs0 = 0)) (cond (jm_in3 (((2 : Int32) + ((4 : Int32) * x12)) + (2 : Int32)) 26) (jm_ev d (jM_broken, 164, [some (jm_R 21 0), some (jm_I x1), some (jm_I x2), some (jm_I x3), some (jm_I x4), some (jm_L l5), none, some (jm_L l7), none, some (jm_I x9), some (jm_L l10), none, some (jm_I x12), none, none], [jm_I (σ.1 25 2 ((((2 : Int32) + ((4 : Int32) * x12)) + (2 : Int32)).toNatClampNeg)), jm_I xs1, jm_R 25 2], σ)) (none)) (jm_ev d (jM_broken, 164, [some (jm_R 21 0), some (jm_I x1), some (jm_I x2), some (jm_I x3), some (jm_I x4), some (jm_L l5), none, some (jm_L l7), none, some (jm_I x9), some (jm_L l10), none, some (jm_I x12), none, none], [jm_I (0 : Int32), jm_I xs1, jm_R 25 2], σ)) := (jm_un_eq [0, 9, 25, 37, 47, 50, 73, 89, 92, 108, 122, 144, 164, 192, 214, 215, 232, 268] d 12 _).trans rfl
theorem gM_broken_164 (d : Nat) (σ : jm_S) (x1 x2 x3 x4 x9 x12 xs0 xs1 : Int32) (l5 l7 l10 : Int64) : jm_ev d (jM_broken, 164, [some (jm_R 21 0), some (jm_I x1), some (jm_I x2), some (jm_I x3), some (jm_I x4), some (jm_L l5), none, some (jm_L l7), none, some (jm_I x9), some (jm_L l10), none, some (jm_I x12), none, none], [jm_I xs0, jm_I xs1, jm_R 25 2], σ) = cond (jm_in3 xs1 26) (jm_ev d (jM_broken, 92, [some (jm_R 21 0), some (jm_I x1), some (jm_I x2), some (jm_I x3), some (jm_I x4), some (jm_L l5), none, some (jm_L l7), none, some (jm_I x9), some (jm_L l10), none, some (jm_I (x12 + (1 : Int32))), none, none], [], jm_wi σ 25 2 xs1.toNatClampNeg xs0)) (none) := (jm_un_eq [0, 9, 25, 37, 47, 50, 73, 89, 92, 108, 122, 144, 164, 192, 214, 215, 232, 268] d 4 _).trans rfl
theorem gM_broken_192 (d : Nat) (σ : jm_S) (x1 x2 x3 x4 x9 x12 xs0 : Int32) (l5 l7 l10 : Int64) : jm_ev d (jM_broken, 192, [some (jm_R 21 0), some (jm_I x1), some (jm_I x2), some (jm_I x3), some (jm_I x4), some (jm_L l5), none, some (jm_L l7), none, some (jm_I x9), some (jm_L l10), none, some (jm_I x12), none, none], [jm_I xs0], σ) = cond (decide (¬ σ.1 21 0 19 = 0)) (jm_ev d (jM_broken, 214, [some (jm_R 21 0), some (jm_I x1), some (jm_I x2), some (jm_I x3), some (jm_I x4), some (jm_L l5), none, some (jm_L l7), none, some (jm_I x9), some (jm_L l10), none, some (jm_I xs0), none, none], [jm_L l5], σ)) (cond (decide (¬ xs0 = x1)) (jm_ev d (jM_broken, 214, [some (jm_R 21 0), some (jm_I x1), some (jm_I x2), some (jm_I x3), some (jm_I x4), some (jm_L l5), none, some (jm_L l7), none, some (jm_I x9), some (jm_L l10), none, some (jm_I xs0), none, none], [jm_L l5], σ)) (jm_ev d (jM_broken, 215, [some (jm_R 21 0), some (jm_I x1), some (jm_I x2), some (jm_I x3), some (jm_I x4), some (jm_L l5), none, some (jm_L l7), none, some (jm_I x9), some (jm_L l10), none, some (jm_I xs0), none, none], [jm_L l10, jm_L l5], σ))) := (jm_un_eq [0, 9, 25, 37, 47, 50, 73, 89, 92, 108, 122, 144, 164, 192, 214, 215, 232, 268] d 11 _).trans rfl
theorem gM_broken_214 (d : Nat) (σ : jm_S) (x1 x2 x3 x4 x9 x12 : Int32) (l5 l7 l10 ls0 : Int64) : jm_ev d (jM_broken, 214, [some (jm_R 21 0), some (jm_I x1), some (jm_I x2), some (jm_I x3), some (jm_I x4), some (jm_L l5), none, some (jm_L l7), none, some (jm_I x9), some (jm_L l10), none, some (jm_I x12), none, none], [jm_L ls0], σ) = jm_ev d (jM_broken, 215, [some (jm_R 21 0), some (jm_I x1), some (jm_I x2), some (jm_I x3), some (jm_I x4), some (jm_L l5), none, some (jm_L l7), none, some (jm_I x9), some (jm_L l10), none, some (jm_I x12), none, none], [jm_L (0 : Int64), jm_L ls0], σ) := (jm_un_eq [0, 9, 25, 37, 47, 50, 73, 89, 92, 108, 122, 144, 164, 192, 214, 215, 232, 268] d 2 _).trans rfl
theorem gM_broken_215 (d : Nat) (σ : jm_S) (x1 x2 x3 x4 x9 x12 : Int32) (l5 l7 l10 ls0 ls1 : Int64) : jm_ev d (jM_broken, 215, [some (jm_R 21 0), some (jm_I x1), some (jm_I x2), some (jm_I x3), some (jm_I x4), some (jm_L l5), none, some (jm_L l7), none, some (jm_I x9), some (jm_L l10), none, some (jm_I x12), none, none], [jm_L ls0, jm_L ls1], σ) = jm_ev d (jM_broken, 73, [some (jm_R 21 0), some (jm_I x1), some (jm_I x2), some (jm_I x3), some (jm_I x4), some (jm_L (ls1 + ls0)), none, some (jm_L l7), none, some (jm_I (x9 + (1 : Int32))), some (jm_L l10), none, some (jm_I x12), none, none], [], σ) := (jm_un_eq [0, 9, 25, 37, 47, 50, 73, 89, 92, 108, 122, 144, 164, 192, 214, 215, 232, 268] d 5 _).trans rfl
theorem gM_broken_232 (d : Nat) (σ : jm_S) (x1 x2 x3 x4 : Int32) (l5 l7 l9 l11 : Int64) (o13 : Option jm_V) : jm_ev d (jM_broken, 232, [some (jm_R 21 0), some (jm_I x1), some (jm_I x2), some (jm_I x3), some (jm_I x4), some (jm_L l5), none, some (jm_L l7), none, some (jm_L l9), none, some (jm_L l11), none, o13, none], [], σ) = cond (decide (lg_cmp l11 (0 : Int64) = 0)) (cond (decide (¬ x3 = 0)) (jm_ev d (jM_broken, 268, [some (jm_R 21 0), some (jm_I x1), some (jm_I x2), some (jm_I x3), some (jm_I x4), some (jm_L l5), none, some (jm_L l7), none, some (jm_L l9), none, some (jm_L l11), none, o13, none], [jm_L l7], σ)) (jm_ev d (jM_broken, 268, [some (jm_R 21 0), some (jm_I x1), some (jm_I x2), some (jm_I x3), some (jm_I x4), some (jm_L l5), none, some (jm_L l7), none, some (jm_L l9), none, some (jm_L l11), none, o13, none], [jm_L l5], σ))) (cond (decide (¬ l11 = 0)) (jm_ev d (jM_broken, 232, [some (jm_R 21 0), some (jm_I x1), some (jm_I x2), some (jm_I x3), some (jm_I x4), some (jm_L l5), none, some (jm_L l7), none, some (jm_L l11), none, some (jm_L (l9 - l9 / l11 * l11)), none, some (jm_L (l9 - l9 / l11 * l11)), none], [], σ)) (none)) := (jm_un_eq [0, 9, 25, 37, 47, 50, 73, 89, 92, 108, 122, 144, 164, 192, 214, 215, 232, 268] d 14 _).trans rfl
theorem gM_broken_268 (d : Nat) (σ : jm_S) (x1 x2 x3 x4 : Int32) (l5 l7 l9 l11 ls0 : Int64) (o13 : Option jm_V) : jm_ev d (jM_broken, 268, [some (jm_R 21 0), some (jm_I x1), some (jm_I x2), some (jm_I x3), some (jm_I x4), some (jm_L l5), none, some (jm_L l7), none, some (jm_L l9), none, some (jm_L l11), none, o13, none], [jm_L ls0], σ) = cond (decide (¬ l9 = 0)) (some (some (jm_L (ls0 / l9)), σ)) (none) := (jm_un_eq [0, 9, 25, 37, 47, 50, 73, 89, 92, 108, 122, 144, 164, 192, 214, 215, 232, 268] d 4 _).trans rfl
theorem gM_drawn_0 (d : Nat) (σ : jm_S) (x1 x2 x3 : Int32) : jm_call (d + 1) jM_drawn [jm_R 21 0, jm_I x1, jm_I x2, jm_I x3] σ = (jm_call d jM_isThere [jm_R 21 0] (jm_wi σ 21 0 0 (0 : Int32))).bind fun q => jm_ev d (jm_psh (jM_drawn, 9, [some (jm_R 21 0), some (jm_I x1), some (jm_I x2), some (jm_I x3), none, none, none, none, none, none, none], [], jm_wi σ 21 0 0 (0 : Int32)) q) := (jm_un_eq [0, 9, 24, 36, 46, 49, 56, 69, 87, 104, 160, 174, 191, 208, 228] d 6 (jM_drawn, 0, [some (jm_R 21 0), some (jm_I x1), some (jm_I x2), some (jm_I x3), none, none, none, none, none, none, none], [], σ)).trans rfl
theorem gM_drawn_9 (d : Nat) (σ : jm_S) (x1 x2 x3 xs0 : Int32) : jm_ev d (jM_drawn, 9, [some (jm_R 21 0), some (jm_I x1), some (jm_I x2), some (jm_I x3), none, none, none, none, none, none, none], [jm_I xs0], σ) = cond (decide (¬ xs0 = 0)) ((jm_call d jM_in [jm_L x1.toInt64, jm_L (0 : Int64), jm_L (40 : Int64)] σ).bind fun q => jm_ev d (jm_psh (jM_drawn, 24, [some (jm_R 21 0), some (jm_I x1), some (jm_I x2), some (jm_I x3), none, none, none, none, none, none, none], [], σ) q)) (some (some (jm_I (-1000002 : Int32)), σ)) := (jm_un_eq [0, 9, 24, 36, 46, 49, 56, 69, 87, 104, 160, 174, 191, 208, 228] d 7 _).trans rfl
theorem gM_drawn_24 (d : Nat) (σ : jm_S) (x1 x2 x3 xs0 : Int32) : jm_ev d (jM_drawn, 24, [some (jm_R 21 0), some (jm_I x1), some (jm_I x2), some (jm_I x3), none, none, none, none, none, none, none], [jm_I xs0], σ) = cond (decide (xs0 = 0)) (jm_ev d (jM_drawn, 49, [some (jm_R 21 0), some (jm_I x1), some (jm_I x2), some (jm_I x3), none, none, none, none, none, none, none], [], σ)) ((jm_call d jM_in [jm_L x2.toInt64, jm_L (1 : Int64), jm_L (999999 : Int64)] σ).bind fun q => jm_ev d (jm_psh (jM_drawn, 36, [some (jm_R 21 0), some (jm_I x1), some (jm_I x2), some (jm_I x3), none, none, none, none, none, none, none], [], σ) q)) := (jm_un_eq [0, 9, 24, 36, 46, 49, 56, 69, 87, 104, 160, 174, 191, 208, 228] d 7 _).trans rfl
theorem gM_drawn_36 (d : Nat) (σ : jm_S) (x1 x2 x3 xs0 : Int32) : jm_ev d (jM_drawn, 36, [some (jm_R 21 0), some (jm_I x1), some (jm_I x2), some (jm_I x3), none, none, none, none, none, none, none], [jm_I xs0], σ) = cond (decide (xs0 = 0)) (jm_ev d (jM_drawn, 49, [some (jm_R 21 0), some (jm_I x1), some (jm_I x2), some (jm_I x3), none, none, none, none, none, none, none], [], σ)) ((jm_call d jM_in [jm_L x3.toInt64, jm_L (0 : Int64), jm_L (1 : Int64)] σ).bind fun q => jm_ev d (jm_psh (jM_drawn, 46, [some (jm_R 21 0), some (jm_I x1), some (jm_I x2), some (jm_I x3), none, none, none, none, none, none, none], [], σ) q)) := (jm_un_eq [0, 9, 24, 36, 46, 49, 56, 69, 87, 104, 160, 174, 191, 208, 228] d 7 _).trans rfl
theorem gM_drawn_46 (d : Nat) (σ : jm_S) (x1 x2 x3 xs0 : Int32) : jm_ev d (jM_drawn, 46, [some (jm_R 21 0), some (jm_I x1), some (jm_I x2), some (jm_I x3), none, none, none, none, none, none, none], [jm_I xs0], σ) = cond (decide (¬ xs0 = 0)) ((jm_call d jM_layThen [jm_R 21 0] σ).bind fun q => jm_ev d (jm_psh (jM_drawn, 56, [some (jm_R 21 0), some (jm_I x1), some (jm_I x2), some (jm_I x3), none, none, none, none, none, none, none], [], σ) q)) (jm_ev d (jM_drawn, 49, [some (jm_R 21 0), some (jm_I x1), some (jm_I x2), some (jm_I x3), none, none, none, none, none, none, none], [], σ)) := (jm_un_eq [0, 9, 24, 36, 46, 49, 56, 69, 87, 104, 160, 174, 191, 208, 228] d 4 _).trans rfl
theorem gM_drawn_49 (d : Nat) (σ : jm_S) (x1 x2 x3 : Int32) : jm_ev d (jM_drawn, 49, [some (jm_R 21 0), some (jm_I x1), some (jm_I x2), some (jm_I x3), none, none, none, none, none, none, none], [], σ) = some (some (jm_I (-1000001 : Int32)), σ) := (jm_un_eq [0, 9, 24, 36, 46, 49, 56, 69, 87, 104, 160, 174, 191, 208, 228] d 3 _).trans rfl
theorem gM_drawn_56 (d : Nat) (σ : jm_S) (x1 x2 x3 : Int32) : jm_ev d (jM_drawn, 56, [some (jm_R 21 0), some (jm_I x1), some (jm_I x2), some (jm_I x3), none, none, none, none, none, none, none], [], σ) = jm_ev d (jM_drawn, 69, [some (jm_R 21 0), some (jm_I x1), some (jm_I x2), some (jm_I x3), some (jm_L x2.toInt64), none, some (jm_I (0 : Int32)), some (jm_I (0 : Int32)), some (jm_I (0 : Int32)), none, none], [], σ) := (jm_un_eq [0, 9, 24, 36, 46, 49, 56, 69, 87, 104, 160, 174, 191, 208, 228] d 10 _).trans rfl
theorem gM_drawn_69 (d : Nat) (σ : jm_S) (x1 x2 x3 x6 x7 x8 : Int32) (l4 : Int64) (o9 o10 : Option jm_V) : jm_ev d (jM_drawn, 69, [some (jm_R 21 0), some (jm_I x1), some (jm_I x2), some (jm_I x3), some (jm_L l4), none, some (jm_I x6), some (jm_I x7), some (jm_I x8), o9, o10], [], σ) = cond (decide (x1 ≤ x8)) (cond (decide (¬ x3 = 0)) (jm_ev d (jM_drawn, 228, [some (jm_R 21 0), some (jm_I x1), some (jm_I x2), some (jm_I x3), some (jm_L l4), none, some (jm_I x6), some (jm_I x7), some (jm_I x8), o9, o10], [jm_I x7], σ)) (jm_ev d (jM_drawn, 228, [some (jm_R 21 0), some (jm_I x1), some (jm_I x2), some (jm_I x3), some (jm_L l4), none, some (jm_I x6), some (jm_I x7), some (jm_I x8), o9, o10], [jm_I x6], σ))) (jm_ev d (jM_drawn, 87, [some (jm_R 21 0), some (jm_I x1), some (jm_I x2), some (jm_I x3), some (jm_L ((l4 * (16807 : Int64)) - (l4 * (16807 : Int64)) / (2147483647 : Int64) * (2147483647 : Int64))), none, some (jm_I x6), some (jm_I x7), some (jm_I x8), o9, o10], [], σ)) := (jm_un_eq [0, 9, 24, 36, 46, 49, 56, 69, 87, 104, 160, 174, 191, 208, 228] d 10 _).trans rfl
theorem gM_drawn_87 (d : Nat) (σ : jm_S) (x1 x2 x3 x6 x7 x8 : Int32) (l4 : Int64) (o9 o10 : Option jm_V) : jm_ev d (jM_drawn, 87, [some (jm_R 21 0), some (jm_I x1), some (jm_I x2), some (jm_I x3), some (jm_L l4), none, some (jm_I x6), some (jm_I x7), some (jm_I x8), o9, o10], [], σ) = cond (decide (¬ ((σ.1 25 2 0).toInt64) = 0)) (jm_ev d (jM_drawn, 104, [some (jm_R 21 0), some (jm_I x1), some (jm_I x2), some (jm_I x3), some (jm_L l4), none, some (jm_I x6), some (jm_I x7), some (jm_I x8), some (jm_I ((2 : Int32) + ((4 : Int32) * ((l4 - l4 / ((σ.1 25 2 0).toInt64) * ((σ.1 25 2 0).toInt64)).toInt32)))), o10], [], σ)) (none) := (jm_un_eq [0, 9, 24, 36, 46, 49, 56, 69, 87, 104, 160, 174, 191, 208, 228] d 14 _).trans rfl
theorem gM_drawn_104 (d : Nat) (σ : jm_S) (x1 x2 x3 x6 x7 x8 x9 : Int32) (l4 : Int64) (o10 : Option jm_V) : jm_ev d (jM_drawn, 104, [some (jm_R 21 0), some (jm_I x1), some (jm_I x2), some (jm_I x3), some (jm_L l4), none, some (jm_I x6), some (jm_I x7), some (jm_I x8), some (jm_I x9), o10], [], σ) = cond (decide (¬ lg_cmp (l4 - l4 / (3 : Int64) * (3 : Int64)) (0 : Int64) = 0)) (cond (jm_in3 (x9 + (1 : Int32)) 26) (jm_ev d (jM_drawn, 160, [some (jm_R 21 0), some (jm_I x1), some (jm_I x2), some (jm_I x3), some (jm_L l4), none, some (jm_I x6), some (jm_I x7), some (jm_I x8), some (jm_I x9), o10], [], jm_wi σ 25 2 ((x9 + (1 : Int32)).toNatClampNeg) ((1 : Int32) + (((l4 / (256 : Int64)) - (l4 / (256 : Int64)) / (5 : Int64) * (5 : Int64)).toInt32)))) (none)) (cond (jm_in3 (x9 + (2 : Int32)) 26) (jm_ev d (jM_drawn, 160, [some (jm_R 21 0), some (jm_I x1), some (jm_I x2), some (jm_I x3), some (jm_L l4), none, some (jm_I x6), some (jm_I x7), some (jm_I x8), some (jm_I x9), o10], [], jm_wi σ 25 2 ((x9 + (2 : Int32)).toNatClampNeg) (((l4 / (16 : Int64)) - (l4 / (16 : Int64)) / (41 : Int64) * (41 : Int64)).toInt32))) (none)) := (jm_un_eq [0, 9, 24, 36, 46, 49, 56, 69, 87, 104, 160, 174, 191, 208, 228] d 21 _).trans rfl
theorem gM_drawn_160 (d : Nat) (σ : jm_S) (x1 x2 x3 x6 x7 x8 x9 : Int32) (l4 : Int64) (o10 : Option jm_V) : jm_ev d (jM_drawn, 160, [some (jm_R 21 0), some (jm_I x1), some (jm_I x2), some (jm_I x3), some (jm_L l4), none, some (jm_I x6), some (jm_I x7), some (jm_I x8), some (jm_I x9), o10], [], σ) = (jm_call d jM_belowOf [jm_R 21 0, jm_R 25 2, jm_I (σ.1 25 2 1)] σ).bind fun q => jm_ev d (jm_psh (jM_drawn, 174, [some (jm_R 21 0), some (jm_I x1), some (jm_I x2), some (jm_I x3), some (jm_L l4), none, some (jm_I x6), some (jm_I x7), some (jm_I x8), some (jm_I x9), o10], [], σ) q) := (jm_un_eq [0, 9, 24, 36, 46, 49, 56, 69, 87, 104, 160, 174, 191, 208, 228] d 9 _).trans rfl
theorem gM_drawn_174 (d : Nat) (σ : jm_S) (x1 x2 x3 x6 x7 x8 x9 xs0 : Int32) (l4 : Int64) (o10 : Option jm_V) : jm_ev d (jM_drawn, 174, [some (jm_R 21 0), some (jm_I x1), some (jm_I x2), some (jm_I x3), some (jm_L l4), none, some (jm_I x6), some (jm_I x7), some (jm_I x8), some (jm_I x9), o10], [jm_I xs0], σ) = cond (decide (σ.1 21 0 19 = 0)) (jm_ev d (jM_drawn, 191, [some (jm_R 21 0), some (jm_I x1), some (jm_I x2), some (jm_I x3), some (jm_L l4), none, some (jm_I x6), some (jm_I x7), some (jm_I x8), some (jm_I x9), some (jm_I xs0)], [jm_I xs0, jm_I x6], σ)) (jm_ev d (jM_drawn, 191, [some (jm_R 21 0), some (jm_I x1), some (jm_I x2), some (jm_I x3), some (jm_L l4), none, some (jm_I x6), some (jm_I x7), some (jm_I x8), some (jm_I x9), some (jm_I xs0)], [jm_I (0 : Int32), jm_I x6], σ)) := (jm_un_eq [0, 9, 24, 36, 46, 49, 56, 69, 87, 104, 160, 174, 191, 208, 228] d 8 _).trans rfl
theorem gM_drawn_191 (d : Nat) (σ : jm_S) (x1 x2 x3 x6 x7 x8 x9 x10 xs0 xs1 : Int32) (l4 : Int64) : jm_ev d (jM_drawn, 191, [some (jm_R 21 0), some (jm_I x1), some (jm_I x2), some (jm_I x3), some (jm_L l4), none, some (jm_I x6), some (jm_I x7), some (jm_I x8), some (jm_I x9), some (jm_I x10)], [jm_I xs0, jm_I xs1], σ) = cond (decide (σ.1 21 0 19 = 0)) (jm_ev d (jM_drawn, 208, [some (jm_R 21 0), some (jm_I x1), some (jm_I x2), some (jm_I x3), some (jm_L l4), none, some (jm_I (xs1 + xs0)), some (jm_I x7), some (jm_I x8), some (jm_I x9), some (jm_I x10)], [jm_I (0 : Int32), jm_I x7], σ)) (jm_ev d (jM_drawn, 208, [some (jm_R 21 0), some (jm_I x1), some (jm_I x2), some (jm_I x3), some (jm_L l4), none, some (jm_I (xs1 + xs0)), some (jm_I x7), some (jm_I x8), some (jm_I x9), some (jm_I x10)], [jm_I (1 : Int32), jm_I x7], σ)) := (jm_un_eq [0, 9, 24, 36, 46, 49, 56, 69, 87, 104, 160, 174, 191, 208, 228] d 9 _).trans rfl
theorem gM_drawn_208 (d : Nat) (σ : jm_S) (x1 x2 x3 x6 x7 x8 x9 x10 xs0 xs1 : Int32) (l4 : Int64) : jm_ev d (jM_drawn, 208, [some (jm_R 21 0), some (jm_I x1), some (jm_I x2), some (jm_I x3), some (jm_L l4), none, some (jm_I x6), some (jm_I x7), some (jm_I x8), some (jm_I x9), some (jm_I x10)], [jm_I xs0, jm_I xs1], σ) = jm_ev d (jM_drawn, 69, [some (jm_R 21 0), some (jm_I x1), some (jm_I x2), some (jm_I x3), some (jm_L l4), none, some (jm_I x6), some (jm_I (xs1 + xs0)), some (jm_I (x8 + (1 : Int32))), some (jm_I x9), some (jm_I x10)], [], σ) := (jm_un_eq [0, 9, 24, 36, 46, 49, 56, 69, 87, 104, 160, 174, 191, 208, 228] d 5 _).trans rfl
theorem gM_drawn_228 (d : Nat) (σ : jm_S) (x1 x2 x3 x6 x7 x8 xs0 : Int32) (l4 : Int64) (o9 o10 : Option jm_V) : jm_ev d (jM_drawn, 228, [some (jm_R 21 0), some (jm_I x1), some (jm_I x2), some (jm_I x3), some (jm_L l4), none, some (jm_I x6), some (jm_I x7), some (jm_I x8), o9, o10], [jm_I xs0], σ) = some (some (jm_I xs0), σ) := (jm_un_eq [0, 9, 24, 36, 46, 49, 56, 69, 87, 104, 160, 174, 191, 208, 228] d 2 _).trans rfl
theorem gM_image_0 (d : Nat) (σ : jm_S) (x1 : Int32) : jm_call (d + 1) jM_image [jm_R 21 0, jm_I x1] σ = (jm_call d jM_in [jm_L x1.toInt64, jm_L (0 : Int64), jm_L (1 : Int64)] (jm_wi σ 21 0 0 (0 : Int32))).bind fun q => jm_ev d (jm_psh (jM_image, 12, [some (jm_R 21 0), some (jm_I x1), none], [], jm_wi σ 21 0 0 (0 : Int32)) q) := (jm_un_eq [0, 12, 22, 30] d 9 (jM_image, 0, [some (jm_R 21 0), some (jm_I x1), none], [], σ)).trans rfl
theorem gM_image_12 (d : Nat) (σ : jm_S) (x1 xs0 : Int32) : jm_ev d (jM_image, 12, [some (jm_R 21 0), some (jm_I x1), none], [jm_I xs0], σ) = cond (decide (¬ xs0 = 0)) ((jm_call d jM_isThere [jm_R 21 0] σ).bind fun q => jm_ev d (jm_psh (jM_image, 22, [some (jm_R 21 0), some (jm_I x1), none], [], σ) q)) (some (some (jm_I (-1000001 : Int32)), σ)) := (jm_un_eq [0, 12, 22, 30] d 4 _).trans rfl
theorem gM_image_22 (d : Nat) (σ : jm_S) (x1 xs0 : Int32) : jm_ev d (jM_image, 22, [some (jm_R 21 0), some (jm_I x1), none], [jm_I xs0], σ) = cond (decide (¬ xs0 = 0)) (jm_ev d (jM_image, 30, [some (jm_R 21 0), some (jm_I x1), some (jm_I (0 : Int32))], [], σ)) (some (some (jm_I (-1000002 : Int32)), σ)) := (jm_un_eq [0, 12, 22, 30] d 4 _).trans rfl
theorem gM_image_30 (d : Nat) (σ : jm_S) (x1 x2 : Int32) : jm_ev d (jM_image, 30, [some (jm_R 21 0), some (jm_I x1), some (jm_I x2)], [], σ) = cond (decide ((26 : Int32) ≤ x2)) (cond (jm_in3 x1 2) (some (some (jm_I (1 : Int32)), jm_wi σ 30 0 x1.toNatClampNeg (vp_nar .boolean (1 : Int32)))) (none)) (cond (jm_in3 x2 26) (cond (jm_in3 (((26 : Int32) * x1) + x2) 52) (jm_ev d (jM_image, 30, [some (jm_R 21 0), some (jm_I x1), some (jm_I (x2 + (1 : Int32)))], [], jm_wi σ 31 0 ((((26 : Int32) * x1) + x2).toNatClampNeg) (σ.1 25 0 x2.toNatClampNeg))) (none)) (none)) := (jm_un_eq [0, 12, 22, 30] d 18 _).trans rfl
theorem gM_restore_0 (d : Nat) (σ : jm_S) (x1 : Int32) : jm_call (d + 1) jM_restore [jm_R 21 0, jm_I x1] σ = (jm_call d jM_in [jm_L x1.toInt64, jm_L (0 : Int64), jm_L (1 : Int64)] (jm_wi σ 21 0 0 (0 : Int32))).bind fun q => jm_ev d (jm_psh (jM_restore, 12, [some (jm_R 21 0), some (jm_I x1), none], [], jm_wi σ 21 0 0 (0 : Int32)) q) := (jm_un_eq [0, 12, 32] d 9 (jM_restore, 0, [some (jm_R 21 0), some (jm_I x1), none], [], σ)).trans rfl
theorem gM_restore_12 (d : Nat) (σ : jm_S) (x1 xs0 : Int32) : jm_ev d (jM_restore, 12, [some (jm_R 21 0), some (jm_I x1), none], [jm_I xs0], σ) = cond (decide (¬ xs0 = 0)) (cond (jm_in3 x1 2) (cond (decide (¬ σ.1 30 0 x1.toNatClampNeg = 0)) (jm_ev d (jM_restore, 32, [some (jm_R 21 0), some (jm_I x1), some (jm_I (0 : Int32))], [], σ)) (some (some (jm_I (-1000002 : Int32)), σ))) (none)) (some (some (jm_I (-1000001 : Int32)), σ)) := (jm_un_eq [0, 12, 32] d 9 _).trans rfl
theorem gM_restore_32 (d : Nat) (σ : jm_S) (x1 x2 : Int32) : jm_ev d (jM_restore, 32, [some (jm_R 21 0), some (jm_I x1), some (jm_I x2)], [], σ) = cond (decide ((26 : Int32) ≤ x2)) (some (some (jm_I (1 : Int32)), jm_wi σ 21 0 9 (0 : Int32))) (cond (jm_in3 (((26 : Int32) * x1) + x2) 52) (cond (jm_in3 x2 26) (jm_ev d (jM_restore, 32, [some (jm_R 21 0), some (jm_I x1), some (jm_I (x2 + (1 : Int32)))], [], jm_wi σ 25 0 x2.toNatClampNeg (σ.1 31 0 ((((26 : Int32) * x1) + x2).toNatClampNeg)))) (none)) (none)) := (jm_un_eq [0, 12, 32] d 18 _).trans rfl
theorem gM_isOf_0 (d : Nat) (σ : jm_S) (x0 x1 : Int32) : jm_call (d + 1) jM_isOf [jm_I x0, jm_I x1] σ = cond (decide (x1 = 0)) (jm_ev d (jM_isOf, 29, [some (jm_I x0), some (jm_I x1)], [], σ)) (cond (decide (x0 = x1)) (jm_ev d (jM_isOf, 29, [some (jm_I x0), some (jm_I x1)], [], σ)) (cond (decide (¬ x1 = (1 : Int32))) (jm_ev d (jM_isOf, 19, [some (jm_I x0), some (jm_I x1)], [], σ)) (cond (decide (x0 < (4 : Int32))) (jm_ev d (jM_isOf, 29, [some (jm_I x0), some (jm_I x1)], [], σ)) (jm_ev d (jM_isOf, 19, [some (jm_I x0), some (jm_I x1)], [], σ))))) := (jm_un_eq [0, 19, 29, 33, 34] d 12 (jM_isOf, 0, [some (jm_I x0), some (jm_I x1)], [], σ)).trans rfl
theorem gM_isOf_19 (d : Nat) (σ : jm_S) (x0 x1 : Int32) : jm_ev d (jM_isOf, 19, [some (jm_I x0), some (jm_I x1)], [], σ) = cond (decide (¬ x1 = (4 : Int32))) (jm_ev d (jM_isOf, 33, [some (jm_I x0), some (jm_I x1)], [], σ)) (cond (decide (¬ x0 = (5 : Int32))) (jm_ev d (jM_isOf, 33, [some (jm_I x0), some (jm_I x1)], [], σ)) (jm_ev d (jM_isOf, 29, [some (jm_I x0), some (jm_I x1)], [], σ))) := (jm_un_eq [0, 19, 29, 33, 34] d 7 _).trans rfl
theorem gM_isOf_29 (d : Nat) (σ : jm_S) (x0 x1 : Int32) : jm_ev d (jM_isOf, 29, [some (jm_I x0), some (jm_I x1)], [], σ) = jm_ev d (jM_isOf, 34, [some (jm_I x0), some (jm_I x1)], [jm_I (1 : Int32)], σ) := (jm_un_eq [0, 19, 29, 33, 34] d 3 _).trans rfl
theorem gM_isOf_33 (d : Nat) (σ : jm_S) (x0 x1 : Int32) : jm_ev d (jM_isOf, 33, [some (jm_I x0), some (jm_I x1)], [], σ) = jm_ev d (jM_isOf, 34, [some (jm_I x0), some (jm_I x1)], [jm_I (0 : Int32)], σ) := (jm_un_eq [0, 19, 29, 33, 34] d 2 _).trans rfl
theorem gM_isOf_34 (d : Nat) (σ : jm_S) (x0 x1 xs0 : Int32) : jm_ev d (jM_isOf, 34, [some (jm_I x0), some (jm_I x1)], [jm_I xs0], σ) = cond (jm_b01 xs0) (some (some (jm_I xs0), σ)) none := (jm_un_eq [0, 19, 29, 33, 34] d 2 _).trans rfl
theorem gM_kind_0 (d : Nat) (σ : jm_S) (x1 : Int32) : jm_call (d + 1) jM_kind [jm_R 21 0, jm_I x1] σ = (jm_call d jM_isDisc [jm_R 21 0, jm_I x1] (jm_wi σ 21 0 0 (0 : Int32))).bind fun q => jm_ev d (jm_psh (jM_kind, 10, [some (jm_R 21 0), some (jm_I x1)], [], jm_wi σ 21 0 0 (0 : Int32)) q) := (jm_un_eq [0, 10, 22, 27] d 7 (jM_kind, 0, [some (jm_R 21 0), some (jm_I x1)], [], σ)).trans rfl
theorem gM_kind_10 (d : Nat) (σ : jm_S) (x1 xs0 : Int32) : jm_ev d (jM_kind, 10, [some (jm_R 21 0), some (jm_I x1)], [jm_I xs0], σ) = cond (decide (xs0 = 0)) (jm_ev d (jM_kind, 27, [some (jm_R 21 0), some (jm_I x1)], [jm_I (-1000001 : Int32)], σ)) ((jm_call d jM_of [jm_R 25 0, jm_I x1, jm_I (0 : Int32)] σ).bind fun q => jm_ev d (jm_psh (jM_kind, 22, [some (jm_R 21 0), some (jm_I x1)], [], σ) q)) := (jm_un_eq [0, 10, 22, 27] d 7 _).trans rfl
theorem gM_kind_22 (d : Nat) (σ : jm_S) (x1 xs0 : Int32) : jm_ev d (jM_kind, 22, [some (jm_R 21 0), some (jm_I x1)], [jm_I xs0], σ) = jm_ev d (jM_kind, 27, [some (jm_R 21 0), some (jm_I x1)], [jm_I xs0], σ) := (jm_un_eq [0, 10, 22, 27] d 2 _).trans rfl
theorem gM_kind_27 (d : Nat) (σ : jm_S) (x1 xs0 : Int32) : jm_ev d (jM_kind, 27, [some (jm_R 21 0), some (jm_I x1)], [jm_I xs0], σ) = some (some (jm_I xs0), σ) := (jm_un_eq [0, 10, 22, 27] d 2 _).trans rfl
theorem gM_as_0 (d : Nat) (σ : jm_S) (x1 x2 : Int32) : jm_call (d + 1) jM_as [jm_R 21 0, jm_I x1, jm_I x2] σ = (jm_call d jM_isDisc [jm_R 21 0, jm_I x1] (jm_wi σ 21 0 0 (0 : Int32))).bind fun q => jm_ev d (jm_psh (jM_as, 10, [some (jm_R 21 0), some (jm_I x1), some (jm_I x2)], [], jm_wi σ 21 0 0 (0 : Int32)) q) := (jm_un_eq [0, 10, 22, 25, 42, 46, 58] d 7 (jM_as, 0, [some (jm_R 21 0), some (jm_I x1), some (jm_I x2)], [], σ)).trans rfl
theorem gM_as_10 (d : Nat) (σ : jm_S) (x1 x2 xs0 : Int32) : jm_ev d (jM_as, 10, [some (jm_R 21 0), some (jm_I x1), some (jm_I x2)], [jm_I xs0], σ) = cond (decide (xs0 = 0)) (jm_ev d (jM_as, 25, [some (jm_R 21 0), some (jm_I x1), some (jm_I x2)], [], σ)) ((jm_call d jM_in [jm_L x2.toInt64, jm_L (0 : Int64), jm_L (5 : Int64)] σ).bind fun q => jm_ev d (jm_psh (jM_as, 22, [some (jm_R 21 0), some (jm_I x1), some (jm_I x2)], [], σ) q)) := (jm_un_eq [0, 10, 22, 25, 42, 46, 58] d 7 _).trans rfl
theorem gM_as_22 (d : Nat) (σ : jm_S) (x1 x2 xs0 : Int32) : jm_ev d (jM_as, 22, [some (jm_R 21 0), some (jm_I x1), some (jm_I x2)], [jm_I xs0], σ) = cond (decide (¬ xs0 = 0)) ((jm_call d jM_of [jm_R 25 0, jm_I x1, jm_I (0 : Int32)] (jm_wi σ 21 0 1 (0 : Int32))).bind fun q => jm_ev d (jm_psh (jM_as, 42, [some (jm_R 21 0), some (jm_I x1), some (jm_I x2)], [], jm_wi σ 21 0 1 (0 : Int32)) q)) (jm_ev d (jM_as, 25, [some (jm_R 21 0), some (jm_I x1), some (jm_I x2)], [], σ)) := (jm_un_eq [0, 10, 22, 25, 42, 46, 58] d 10 _).trans rfl
theorem gM_as_25 (d : Nat) (σ : jm_S) (x1 x2 : Int32) : jm_ev d (jM_as, 25, [some (jm_R 21 0), some (jm_I x1), some (jm_I x2)], [], σ) = some (some (jm_I (-1000001 : Int32)), σ) := (jm_un_eq [0, 10, 22, 25, 42, 46, 58] d 3 _).trans rfl
theorem gM_as_42 (d : Nat) (σ : jm_S) (x1 x2 xs0 : Int32) : jm_ev d (jM_as, 42, [some (jm_R 21 0), some (jm_I x1), some (jm_I x2)], [jm_I xs0], σ) = (jm_call d jM_isOf [jm_I xs0, jm_I x2] σ).bind fun q => jm_ev d (jm_psh (jM_as, 46, [some (jm_R 21 0), some (jm_I x1), some (jm_I x2)], [], σ) q) := (jm_un_eq [0, 10, 22, 25, 42, 46, 58] d 3 _).trans rfl
theorem gM_as_46 (d : Nat) (σ : jm_S) (x1 x2 xs0 : Int32) : jm_ev d (jM_as, 46, [some (jm_R 21 0), some (jm_I x1), some (jm_I x2)], [jm_I xs0], σ) = cond (decide (xs0 = 0)) ((jm_call d jM_finding [jm_R 21 0, jm_I (3 : Int32)] σ).bind fun q => jm_ev d (jm_psh (jM_as, 58, [some (jm_R 21 0), some (jm_I x1), some (jm_I x2)], [], σ) q)) (jm_ev d (jM_as, 58, [some (jm_R 21 0), some (jm_I x1), some (jm_I x2)], [jm_I x1], σ)) := (jm_un_eq [0, 10, 22, 25, 42, 46, 58] d 5 _).trans rfl
theorem gM_as_58 (d : Nat) (σ : jm_S) (x1 x2 xs0 : Int32) : jm_ev d (jM_as, 58, [some (jm_R 21 0), some (jm_I x1), some (jm_I x2)], [jm_I xs0], σ) = some (some (jm_I xs0), σ) := (jm_un_eq [0, 10, 22, 25, 42, 46, 58] d 2 _).trans rfl
theorem gM_began_0 (d : Nat) (σ : jm_S) (x1 : Int32) : jm_call (d + 1) jM_began [jm_R 21 0, jm_I x1] σ = cond (decide ((16 : Int32) ≤ σ.1 21 0 25)) (jm_ev d (jM_began, 29, [some (jm_R 21 0), some (jm_I x1)], [], σ)) (cond (jm_in3 (σ.1 21 0 25) 16) (jm_ev d (jM_began, 29, [some (jm_R 21 0), some (jm_I x1)], [], jm_wi (jm_wi σ 32 0 ((σ.1 21 0 25).toNatClampNeg) x1) 21 0 25 ((σ.1 21 0 25) + (1 : Int32)))) (none)) := (jm_un_eq [0, 29] d 17 (jM_began, 0, [some (jm_R 21 0), some (jm_I x1)], [], σ)).trans rfl
theorem gM_began_29 (d : Nat) (σ : jm_S) (x1 : Int32) : jm_ev d (jM_began, 29, [some (jm_R 21 0), some (jm_I x1)], [], σ) = some (none, σ) := (jm_un_eq [0, 29] d 2 _).trans rfl
theorem gM_plainSize_0 (d : Nat) (σ : jm_S) (x1 : Int32) : jm_call (d + 1) jM_plainSize [jm_R 21 0, jm_I x1] σ = (jm_call d jM_began [jm_R 21 0, jm_I (10 : Int32)] σ).bind fun q => jm_ev d (jm_psh (jM_plainSize, 6, [some (jm_R 21 0), some (jm_I x1)], [], σ) q) := (jm_un_eq [0, 6, 15] d 4 (jM_plainSize, 0, [some (jm_R 21 0), some (jm_I x1)], [], σ)).trans rfl
theorem gM_plainSize_6 (d : Nat) (σ : jm_S) (x1 : Int32) : jm_ev d (jM_plainSize, 6, [some (jm_R 21 0), some (jm_I x1)], [], σ) = (jm_call d jM_of [jm_R 25 0, jm_I x1, jm_I (2 : Int32)] σ).bind fun q => jm_ev d (jm_psh (jM_plainSize, 15, [some (jm_R 21 0), some (jm_I x1)], [], σ) q) := (jm_un_eq [0, 6, 15] d 6 _).trans rfl
theorem gM_plainSize_15 (d : Nat) (σ : jm_S) (x1 xs0 : Int32) : jm_ev d (jM_plainSize, 15, [some (jm_R 21 0), some (jm_I x1)], [jm_I xs0], σ) = some (some (jm_I xs0), σ) := (jm_un_eq [0, 6, 15] d 2 _).trans rfl
theorem gM_tiedSize_0 (d : Nat) (σ : jm_S) (x1 : Int32) : jm_call (d + 1) jM_tiedSize [jm_R 21 0, jm_I x1] σ = (jm_call d jM_of [jm_R 25 0, jm_I x1, jm_I (0 : Int32)] σ).bind fun q => jm_ev d (jm_psh (jM_tiedSize, 9, [some (jm_R 21 0), some (jm_I x1), none, none], [], σ) q) := (jm_un_eq [0, 9, 18, 29, 35, 40, 55] d 6 (jM_tiedSize, 0, [some (jm_R 21 0), some (jm_I x1), none, none], [], σ)).trans rfl
theorem gM_tiedSize_9 (d : Nat) (σ : jm_S) (x1 xs0 : Int32) : jm_ev d (jM_tiedSize, 9, [some (jm_R 21 0), some (jm_I x1), none, none], [jm_I xs0], σ) = cond (decide (¬ xs0 = (5 : Int32))) (jm_ev d (jM_tiedSize, 18, [some (jm_R 21 0), some (jm_I x1), none, none], [jm_I (0 : Int32)], σ)) (jm_ev d (jM_tiedSize, 18, [some (jm_R 21 0), some (jm_I x1), none, none], [jm_I (1 : Int32)], σ)) := (jm_un_eq [0, 9, 18, 29, 35, 40, 55] d 5 _).trans rfl
theorem gM_tiedSize_18 (d : Nat) (σ : jm_S) (x1 xs0 : Int32) : jm_ev d (jM_tiedSize, 18, [some (jm_R 21 0), some (jm_I x1), none, none], [jm_I xs0], σ) = cond (decide (xs0 = 0)) (jm_ev d (jM_tiedSize, 29, [some (jm_R 21 0), some (jm_I x1), some (jm_I xs0), none], [], σ)) ((jm_call d jM_began [jm_R 21 0, jm_I (14 : Int32)] σ).bind fun q => jm_ev d (jm_psh (jM_tiedSize, 29, [some (jm_R 21 0), some (jm_I x1), some (jm_I xs0), none], [], σ) q)) := (jm_un_eq [0, 9, 18, 29, 35, 40, 55] d 7 _).trans rfl
theorem gM_tiedSize_29 (d : Nat) (σ : jm_S) (x1 x2 : Int32) : jm_ev d (jM_tiedSize, 29, [some (jm_R 21 0), some (jm_I x1), some (jm_I x2), none], [], σ) = (jm_call d jM_began [jm_R 21 0, jm_I (13 : Int32)] σ).bind fun q => jm_ev d (jm_psh (jM_tiedSize, 35, [some (jm_R 21 0), some (jm_I x1), some (jm_I x2), none], [], σ) q) := (jm_un_eq [0, 9, 18, 29, 35, 40, 55] d 4 _).trans rfl
theorem gM_tiedSize_35 (d : Nat) (σ : jm_S) (x1 x2 : Int32) : jm_ev d (jM_tiedSize, 35, [some (jm_R 21 0), some (jm_I x1), some (jm_I x2), none], [], σ) = (jm_call d jM_plainSize [jm_R 21 0, jm_I x1] σ).bind fun q => jm_ev d (jm_psh (jM_tiedSize, 40, [some (jm_R 21 0), some (jm_I x1), some (jm_I x2), none], [], σ) q) := (jm_un_eq [0, 9, 18, 29, 35, 40, 55] d 4 _).trans rfl
theorem gM_tiedSize_40 (d : Nat) (σ : jm_S) (x1 x2 xs0 : Int32) : jm_ev d (jM_tiedSize, 40, [some (jm_R 21 0), some (jm_I x1), some (jm_I x2), none], [jm_I xs0], σ) = cond (decide (x2 = 0)) (jm_ev d (jM_tiedSize, 55, [some (jm_R 21 0), some (jm_I x1), some (jm_I x2), some (jm_I (xs0 - (100 : Int32)))], [jm_I (xs0 - (100 : Int32))], σ)) (jm_ev d (jM_tiedSize, 55, [some (jm_R 21 0), some (jm_I x1), some (jm_I x2), some (jm_I (xs0 - (100 : Int32)))], [jm_I ((2 : Int32) * (xs0 - (100 : Int32)))], σ)) := (jm_un_eq [0, 9, 18, 29, 35, 40, 55] d 10 _).trans rfl
theorem gM_tiedSize_55 (d : Nat) (σ : jm_S) (x1 x2 x3 xs0 : Int32) : jm_ev d (jM_tiedSize, 55, [some (jm_R 21 0), some (jm_I x1), some (jm_I x2), some (jm_I x3)], [jm_I xs0], σ) = some (some (jm_I xs0), σ) := (jm_un_eq [0, 9, 18, 29, 35, 40, 55] d 2 _).trans rfl
theorem gM_markOf_0 (d : Nat) (σ : jm_S) (x1 : Int32) : jm_call (d + 1) jM_markOf [jm_R 21 0, jm_I x1] σ = (jm_call d jM_of [jm_R 25 0, jm_I x1, jm_I (0 : Int32)] σ).bind fun q => jm_ev d (jm_psh (jM_markOf, 9, [some (jm_R 21 0), some (jm_I x1), none, none], [], σ) q) := (jm_un_eq [0, 9, 21, 27, 33, 53, 56, 62, 68, 78, 105] d 6 (jM_markOf, 0, [some (jm_R 21 0), some (jm_I x1), none, none], [], σ)).trans rfl
theorem gM_markOf_9 (d : Nat) (σ : jm_S) (x1 xs0 : Int32) : jm_ev d (jM_markOf, 9, [some (jm_R 21 0), some (jm_I x1), none, none], [jm_I xs0], σ) = cond (decide (xs0 < (4 : Int32))) (cond (decide (xs0 = (1 : Int32))) (jm_ev d (jM_markOf, 56, [some (jm_R 21 0), some (jm_I x1), some (jm_I xs0), none], [], σ)) (cond (decide (¬ xs0 = (3 : Int32))) (jm_ev d (jM_markOf, 53, [some (jm_R 21 0), some (jm_I x1), some (jm_I xs0), none], [jm_I (24 : Int32), jm_R 21 0], σ)) (jm_ev d (jM_markOf, 53, [some (jm_R 21 0), some (jm_I x1), some (jm_I xs0), none], [jm_I (22 : Int32), jm_R 21 0], σ)))) ((jm_call d jM_began [jm_R 21 0, jm_I (23 : Int32)] σ).bind fun q => jm_ev d (jm_psh (jM_markOf, 21, [some (jm_R 21 0), some (jm_I x1), some (jm_I xs0), none], [], σ) q)) := (jm_un_eq [0, 9, 21, 27, 33, 53, 56, 62, 68, 78, 105] d 14 _).trans rfl
theorem gM_markOf_21 (d : Nat) (σ : jm_S) (x1 x2 : Int32) : jm_ev d (jM_markOf, 21, [some (jm_R 21 0), some (jm_I x1), some (jm_I x2), none], [], σ) = (jm_call d jM_began [jm_R 21 0, jm_I (20 : Int32)] σ).bind fun q => jm_ev d (jm_psh (jM_markOf, 27, [some (jm_R 21 0), some (jm_I x1), some (jm_I x2), none], [], σ) q) := (jm_un_eq [0, 9, 21, 27, 33, 53, 56, 62, 68, 78, 105] d 4 _).trans rfl
theorem gM_markOf_27 (d : Nat) (σ : jm_S) (x1 x2 : Int32) : jm_ev d (jM_markOf, 27, [some (jm_R 21 0), some (jm_I x1), some (jm_I x2), none], [], σ) = (jm_call d jM_tiedSize [jm_R 21 0, jm_I x1] σ).bind fun q => jm_ev d (jm_psh (jM_markOf, 33, [some (jm_R 21 0), some (jm_I x1), some (jm_I x2), none], [jm_I x1], σ) q) := (jm_un_eq [0, 9, 21, 27, 33, 53, 56, 62, 68, 78, 105] d 5 _).trans rfl
theorem gM_markOf_33 (d : Nat) (σ : jm_S) (x1 x2 xs0 xs1 : Int32) : jm_ev d (jM_markOf, 33, [some (jm_R 21 0), some (jm_I x1), some (jm_I x2), none], [jm_I xs0, jm_I xs1], σ) = some (some (jm_I (xs1 - xs0)), σ) := (jm_un_eq [0, 9, 21, 27, 33, 53, 56, 62, 68, 78, 105] d 3 _).trans rfl
theorem gM_markOf_53 (d : Nat) (σ : jm_S) (x1 x2 xs0 : Int32) : jm_ev d (jM_markOf, 53, [some (jm_R 21 0), some (jm_I x1), some (jm_I x2), none], [jm_I xs0, jm_R 21 0], σ) = (jm_call d jM_began [jm_R 21 0, jm_I xs0] σ).bind fun q => jm_ev d (jm_psh (jM_markOf, 56, [some (jm_R 21 0), some (jm_I x1), some (jm_I x2), none], [], σ) q) := (jm_un_eq [0, 9, 21, 27, 33, 53, 56, 62, 68, 78, 105] d 2 _).trans rfl
theorem gM_markOf_56 (d : Nat) (σ : jm_S) (x1 x2 : Int32) : jm_ev d (jM_markOf, 56, [some (jm_R 21 0), some (jm_I x1), some (jm_I x2), none], [], σ) = (jm_call d jM_began [jm_R 21 0, jm_I (21 : Int32)] σ).bind fun q => jm_ev d (jm_psh (jM_markOf, 62, [some (jm_R 21 0), some (jm_I x1), some (jm_I x2), none], [], σ) q) := (jm_un_eq [0, 9, 21, 27, 33, 53, 56, 62, 68, 78, 105] d 4 _).trans rfl
theorem gM_markOf_62 (d : Nat) (σ : jm_S) (x1 x2 : Int32) : jm_ev d (jM_markOf, 62, [some (jm_R 21 0), some (jm_I x1), some (jm_I x2), none], [], σ) = (jm_call d jM_began [jm_R 21 0, jm_I (20 : Int32)] σ).bind fun q => jm_ev d (jm_psh (jM_markOf, 68, [some (jm_R 21 0), some (jm_I x1), some (jm_I x2), none], [], σ) q) := (jm_un_eq [0, 9, 21, 27, 33, 53, 56, 62, 68, 78, 105] d 4 _).trans rfl
theorem gM_markOf_68 (d : Nat) (σ : jm_S) (x1 x2 : Int32) : jm_ev d (jM_markOf, 68, [some (jm_R 21 0), some (jm_I x1), some (jm_I x2), none], [], σ) = (jm_call d jM_of [jm_R 25 0, jm_I x1, jm_I (1 : Int32)] σ).bind fun q => jm_ev d (jm_psh (jM_markOf, 78, [some (jm_R 21 0), some (jm_I x1), some (jm_I x2), none], [jm_I x1], σ) q) := (jm_un_eq [0, 9, 21, 27, 33, 53, 56, 62, 68, 78, 105] d 7 _).trans rfl
theorem gM_markOf_78 (d : Nat) (σ : jm_S) (x1 x2 xs0 xs1 : Int32) : jm_ev d (jM_markOf, 78, [some (jm_R 21 0), some (jm_I x1), some (jm_I x2), none], [jm_I xs0, jm_I xs1], σ) = cond (decide (¬ x2 = (1 : Int32))) (cond (decide (¬ x2 = (3 : Int32))) (jm_ev d (jM_markOf, 105, [some (jm_R 21 0), some (jm_I x1), some (jm_I x2), some (jm_I (xs1 + xs0))], [jm_I ((2 : Int32) * (xs1 + xs0))], σ)) (jm_ev d (jM_markOf, 105, [some (jm_R 21 0), some (jm_I x1), some (jm_I x2), some (jm_I (xs1 + xs0))], [jm_I ((xs1 + xs0) - (1000 : Int32))], σ))) (jm_ev d (jM_markOf, 105, [some (jm_R 21 0), some (jm_I x1), some (jm_I x2), some (jm_I (xs1 + xs0))], [jm_I (xs1 + xs0)], σ)) := (jm_un_eq [0, 9, 21, 27, 33, 53, 56, 62, 68, 78, 105] d 13 _).trans rfl
theorem gM_markOf_105 (d : Nat) (σ : jm_S) (x1 x2 x3 xs0 : Int32) : jm_ev d (jM_markOf, 105, [some (jm_R 21 0), some (jm_I x1), some (jm_I x2), some (jm_I x3)], [jm_I xs0], σ) = some (some (jm_I xs0), σ) := (jm_un_eq [0, 9, 21, 27, 33, 53, 56, 62, 68, 78, 105] d 2 _).trans rfl
theorem gM_sizeOf_0 (d : Nat) (σ : jm_S) (x1 : Int32) : jm_call (d + 1) jM_sizeOf [jm_R 21 0, jm_I x1] σ = (jm_call d jM_of [jm_R 25 0, jm_I x1, jm_I (0 : Int32)] σ).bind fun q => jm_ev d (jm_psh (jM_sizeOf, 9, [some (jm_R 21 0), some (jm_I x1), none, none], [], σ) q) := (jm_un_eq [0, 9, 20, 32, 38, 43, 50, 63] d 6 (jM_sizeOf, 0, [some (jm_R 21 0), some (jm_I x1), none, none], [], σ)).trans rfl
theorem gM_sizeOf_9 (d : Nat) (σ : jm_S) (x1 xs0 : Int32) : jm_ev d (jM_sizeOf, 9, [some (jm_R 21 0), some (jm_I x1), none, none], [jm_I xs0], σ) = cond (decide (xs0 < (4 : Int32))) (cond (decide (¬ xs0 = (2 : Int32))) (jm_ev d (jM_sizeOf, 32, [some (jm_R 21 0), some (jm_I x1), some (jm_I xs0), none], [], σ)) ((jm_call d jM_began [jm_R 21 0, jm_I (12 : Int32)] σ).bind fun q => jm_ev d (jm_psh (jM_sizeOf, 32, [some (jm_R 21 0), some (jm_I x1), some (jm_I xs0), none], [], σ) q))) ((jm_call d jM_tiedSize [jm_R 21 0, jm_I x1] σ).bind fun q => jm_ev d (jm_psh (jM_sizeOf, 20, [some (jm_R 21 0), some (jm_I x1), some (jm_I xs0), none], [], σ) q)) := (jm_un_eq [0, 9, 20, 32, 38, 43, 50, 63] d 11 _).trans rfl
theorem gM_sizeOf_20 (d : Nat) (σ : jm_S) (x1 x2 xs0 : Int32) : jm_ev d (jM_sizeOf, 20, [some (jm_R 21 0), some (jm_I x1), some (jm_I x2), none], [jm_I xs0], σ) = some (some (jm_I xs0), σ) := (jm_un_eq [0, 9, 20, 32, 38, 43, 50, 63] d 2 _).trans rfl
theorem gM_sizeOf_32 (d : Nat) (σ : jm_S) (x1 x2 : Int32) : jm_ev d (jM_sizeOf, 32, [some (jm_R 21 0), some (jm_I x1), some (jm_I x2), none], [], σ) = (jm_call d jM_began [jm_R 21 0, jm_I (11 : Int32)] σ).bind fun q => jm_ev d (jm_psh (jM_sizeOf, 38, [some (jm_R 21 0), some (jm_I x1), some (jm_I x2), none], [], σ) q) := (jm_un_eq [0, 9, 20, 32, 38, 43, 50, 63] d 4 _).trans rfl
theorem gM_sizeOf_38 (d : Nat) (σ : jm_S) (x1 x2 : Int32) : jm_ev d (jM_sizeOf, 38, [some (jm_R 21 0), some (jm_I x1), some (jm_I x2), none], [], σ) = (jm_call d jM_plainSize [jm_R 21 0, jm_I x1] σ).bind fun q => jm_ev d (jm_psh (jM_sizeOf, 43, [some (jm_R 21 0), some (jm_I x1), some (jm_I x2), none], [], σ) q) := (jm_un_eq [0, 9, 20, 32, 38, 43, 50, 63] d 4 _).trans rfl
theorem gM_sizeOf_43 (d : Nat) (σ : jm_S) (x1 x2 xs0 : Int32) : jm_ev d (jM_sizeOf, 43, [some (jm_R 21 0), some (jm_I x1), some (jm_I x2), none], [jm_I xs0], σ) = (jm_call d jM_markOf [jm_R 21 0, jm_I x1] σ).bind fun q => jm_ev d (jm_psh (jM_sizeOf, 50, [some (jm_R 21 0), some (jm_I x1), some (jm_I x2), some (jm_I xs0)], [jm_I xs0], σ) q) := (jm_un_eq [0, 9, 20, 32, 38, 43, 50, 63] d 6 _).trans rfl
theorem gM_sizeOf_50 (d : Nat) (σ : jm_S) (x1 x2 x3 xs0 xs1 : Int32) : jm_ev d (jM_sizeOf, 50, [some (jm_R 21 0), some (jm_I x1), some (jm_I x2), some (jm_I x3)], [jm_I xs0, jm_I xs1], σ) = cond (decide (¬ x2 = (2 : Int32))) (jm_ev d (jM_sizeOf, 63, [some (jm_R 21 0), some (jm_I x1), some (jm_I x2), some (jm_I (xs1 + xs0))], [jm_I (xs1 + xs0)], σ)) (jm_ev d (jM_sizeOf, 63, [some (jm_R 21 0), some (jm_I x1), some (jm_I x2), some (jm_I (xs1 + xs0))], [jm_I (-(xs1 + xs0))], σ)) := (jm_un_eq [0, 9, 20, 32, 38, 43, 50, 63] d 9 _).trans rfl
theorem gM_sizeOf_63 (d : Nat) (σ : jm_S) (x1 x2 x3 xs0 : Int32) : jm_ev d (jM_sizeOf, 63, [some (jm_R 21 0), some (jm_I x1), some (jm_I x2), some (jm_I x3)], [jm_I xs0], σ) = some (some (jm_I xs0), σ) := (jm_un_eq [0, 9, 20, 32, 38, 43, 50, 63] d 2 _).trans rfl
theorem gM_ask_0 (d : Nat) (σ : jm_S) (x1 x2 : Int32) : jm_call (d + 1) jM_ask [jm_R 21 0, jm_I x1, jm_I x2] σ = (jm_call d jM_isDisc [jm_R 21 0, jm_I x1] (jm_wi σ 21 0 0 (0 : Int32))).bind fun q => jm_ev d (jm_psh (jM_ask, 10, [some (jm_R 21 0), some (jm_I x1), some (jm_I x2)], [], jm_wi σ 21 0 0 (0 : Int32)) q) := (jm_un_eq [0, 10, 20, 23, 40, 48] d 7 (jM_ask, 0, [some (jm_R 21 0), some (jm_I x1), some (jm_I x2)], [], σ)).trans rfl
theorem gM_ask_10 (d : Nat) (σ : jm_S) (x1 x2 xs0 : Int32) : jm_ev d (jM_ask, 10, [some (jm_R 21 0), some (jm_I x1), some (jm_I x2)], [jm_I xs0], σ) = cond (decide (xs0 = 0)) (jm_ev d (jM_ask, 23, [some (jm_R 21 0), some (jm_I x1), some (jm_I x2)], [], σ)) ((jm_call d jM_in [jm_L x2.toInt64, jm_L (0 : Int64), jm_L (1 : Int64)] σ).bind fun q => jm_ev d (jm_psh (jM_ask, 20, [some (jm_R 21 0), some (jm_I x1), some (jm_I x2)], [], σ) q)) := (jm_un_eq [0, 10, 20, 23, 40, 48] d 7 _).trans rfl
theorem gM_ask_20 (d : Nat) (σ : jm_S) (x1 x2 xs0 : Int32) : jm_ev d (jM_ask, 20, [some (jm_R 21 0), some (jm_I x1), some (jm_I x2)], [jm_I xs0], σ) = cond (decide (¬ xs0 = 0)) (cond (decide (¬ x2 = 0)) ((jm_call d jM_markOf [jm_R 21 0, jm_I x1] (jm_wi σ 21 0 25 (0 : Int32))).bind fun q => jm_ev d (jm_psh (jM_ask, 48, [some (jm_R 21 0), some (jm_I x1), some (jm_I x2)], [], jm_wi σ 21 0 25 (0 : Int32)) q)) ((jm_call d jM_sizeOf [jm_R 21 0, jm_I x1] (jm_wi σ 21 0 25 (0 : Int32))).bind fun q => jm_ev d (jm_psh (jM_ask, 40, [some (jm_R 21 0), some (jm_I x1), some (jm_I x2)], [], jm_wi σ 21 0 25 (0 : Int32)) q))) (jm_ev d (jM_ask, 23, [some (jm_R 21 0), some (jm_I x1), some (jm_I x2)], [], σ)) := (jm_un_eq [0, 10, 20, 23, 40, 48] d 10 _).trans rfl
theorem gM_ask_23 (d : Nat) (σ : jm_S) (x1 x2 : Int32) : jm_ev d (jM_ask, 23, [some (jm_R 21 0), some (jm_I x1), some (jm_I x2)], [], σ) = some (some (jm_I (-1000001 : Int32)), σ) := (jm_un_eq [0, 10, 20, 23, 40, 48] d 3 _).trans rfl
theorem gM_ask_40 (d : Nat) (σ : jm_S) (x1 x2 xs0 : Int32) : jm_ev d (jM_ask, 40, [some (jm_R 21 0), some (jm_I x1), some (jm_I x2)], [jm_I xs0], σ) = jm_ev d (jM_ask, 48, [some (jm_R 21 0), some (jm_I x1), some (jm_I x2)], [jm_I xs0], σ) := (jm_un_eq [0, 10, 20, 23, 40, 48] d 2 _).trans rfl
theorem gM_ask_48 (d : Nat) (σ : jm_S) (x1 x2 xs0 : Int32) : jm_ev d (jM_ask, 48, [some (jm_R 21 0), some (jm_I x1), some (jm_I x2)], [jm_I xs0], σ) = some (some (jm_I xs0), σ) := (jm_un_eq [0, 10, 20, 23, 40, 48] d 2 _).trans rfl
theorem gM_trace_0 (d : Nat) (σ : jm_S) (x1 : Int32) : jm_call (d + 1) jM_trace [jm_R 21 0, jm_I x1] σ = (jm_call d jM_in [jm_L x1.toInt64, jm_L (0 : Int64), jm_L (((σ.1 21 0 25) - (1 : Int32)).toInt64)] (jm_wi σ 21 0 0 (0 : Int32))).bind fun q => jm_ev d (jm_psh (jM_trace, 18, [some (jm_R 21 0), some (jm_I x1)], [], jm_wi σ 21 0 0 (0 : Int32)) q) := (jm_un_eq [0, 18, 32] d 13 (jM_trace, 0, [some (jm_R 21 0), some (jm_I x1)], [], σ)).trans rfl
theorem gM_trace_18 (d : Nat) (σ : jm_S) (x1 xs0 : Int32) : jm_ev d (jM_trace, 18, [some (jm_R 21 0), some (jm_I x1)], [jm_I xs0], σ) = cond (decide (xs0 = 0)) (jm_ev d (jM_trace, 32, [some (jm_R 21 0), some (jm_I x1)], [jm_I (-1000000 : Int32)], σ)) (cond (jm_in3 x1 16) (jm_ev d (jM_trace, 32, [some (jm_R 21 0), some (jm_I x1)], [jm_I (σ.1 32 0 x1.toNatClampNeg)], σ)) (none)) := (jm_un_eq [0, 18, 32] d 7 _).trans rfl
theorem gM_trace_32 (d : Nat) (σ : jm_S) (x1 xs0 : Int32) : jm_ev d (jM_trace, 32, [some (jm_R 21 0), some (jm_I x1)], [jm_I xs0], σ) = some (some (jm_I xs0), σ) := (jm_un_eq [0, 18, 32] d 2 _).trans rfl
theorem gM_count_0 (d : Nat) (σ : jm_S) (x1 : Int32) : jm_call (d + 1) jM_count [jm_R 21 0, jm_I x1] σ = cond (decide (x1.toInt = 0)) (jm_ev d (jM_count, 54, [some (jm_R 21 0), some (jm_I x1), some (jm_I (0 : Int32)), some (jm_I (0 : Int32))], [], jm_wi σ 21 0 0 (0 : Int32))) (cond (decide (x1.toInt = 1)) (some (some (jm_I (σ.1 25 0 0)), jm_wi σ 21 0 0 (0 : Int32))) (cond (decide (x1.toInt = 2)) (some (some (jm_I (σ.1 25 0 1)), jm_wi σ 21 0 0 (0 : Int32))) (cond (decide (x1.toInt = 3)) ((jm_call d jM_together [jm_R 21 0, jm_I (1 : Int32)] (jm_wi σ 21 0 0 (0 : Int32))).bind fun q => jm_ev d (jm_psh (jM_count, 104, [some (jm_R 21 0), some (jm_I x1), some (jm_I (0 : Int32)), none], [], jm_wi σ 21 0 0 (0 : Int32)) q)) (cond (decide (x1.toInt = 4)) ((jm_call d jM_together [jm_R 21 0, jm_I (2 : Int32)] (jm_wi σ 21 0 0 (0 : Int32))).bind fun q => jm_ev d (jm_psh (jM_count, 110, [some (jm_R 21 0), some (jm_I x1), some (jm_I (0 : Int32)), none], [], jm_wi σ 21 0 0 (0 : Int32)) q)) (cond (decide (x1.toInt = 5)) (some (some (jm_I (σ.1 21 0 9)), jm_wi σ 21 0 0 (0 : Int32))) (cond (decide (x1.toInt = 6)) (some (some (jm_I (σ.1 21 0 11)), jm_wi σ 21 0 0 (0 : Int32))) (some (some (jm_I (-1000001 : Int32)), jm_wi σ 21 0 0 (0 : Int32))))))))) := (jm_un_eq [0, 54, 75, 104, 110] d 13 (jM_count, 0, [some (jm_R 21 0), some (jm_I x1), none, none], [], σ)).trans rfl
theorem gM_count_54 (d : Nat) (σ : jm_S) (x1 x2 x3 : Int32) : jm_ev d (jM_count, 54, [some (jm_R 21 0), some (jm_I x1), some (jm_I x2), some (jm_I x3)], [], σ) = cond (decide ((8 : Int32) ≤ x3)) (some (some (jm_I x2), σ)) (cond (jm_in3 x3 8) (cond (decide (σ.1 22 0 x3.toNatClampNeg < 0)) (jm_ev d (jM_count, 75, [some (jm_R 21 0), some (jm_I x1), some (jm_I x2), some (jm_I x3)], [jm_I (0 : Int32), jm_I x2], σ)) (jm_ev d (jM_count, 75, [some (jm_R 21 0), some (jm_I x1), some (jm_I x2), some (jm_I x3)], [jm_I (1 : Int32), jm_I x2], σ))) (none)) := (jm_un_eq [0, 54, 75, 104, 110] d 12 _).trans rfl
theorem gM_count_75 (d : Nat) (σ : jm_S) (x1 x2 x3 xs0 xs1 : Int32) : jm_ev d (jM_count, 75, [some (jm_R 21 0), some (jm_I x1), some (jm_I x2), some (jm_I x3)], [jm_I xs0, jm_I xs1], σ) = jm_ev d (jM_count, 54, [some (jm_R 21 0), some (jm_I x1), some (jm_I (xs1 + xs0)), some (jm_I (x3 + (1 : Int32)))], [], σ) := (jm_un_eq [0, 54, 75, 104, 110] d 5 _).trans rfl
theorem gM_count_104 (d : Nat) (σ : jm_S) (x1 x2 xs0 : Int32) : jm_ev d (jM_count, 104, [some (jm_R 21 0), some (jm_I x1), some (jm_I x2), none], [jm_I xs0], σ) = some (some (jm_I xs0), σ) := (jm_un_eq [0, 54, 75, 104, 110] d 2 _).trans rfl
theorem gM_count_110 (d : Nat) (σ : jm_S) (x1 x2 xs0 : Int32) : jm_ev d (jM_count, 110, [some (jm_R 21 0), some (jm_I x1), some (jm_I x2), none], [jm_I xs0], σ) = some (some (jm_I xs0), σ) := (jm_un_eq [0, 54, 75, 104, 110] d 2 _).trans rfl
theorem gM_status_0 (d : Nat) (σ : jm_S) : jm_call (d + 1) jM_status [jm_R 21 0] σ = some (some (jm_I (σ.1 21 0 1)), jm_wi σ 21 0 0 (0 : Int32)) := (jm_un_eq [0] d 7 (jM_status, 0, [some (jm_R 21 0)], [], σ)).trans rfl
end
section
-- facts of the tables
def jm_cn : Nat → String := fun k => match k with
  | 0 => RX0
  | 1 => RX1
  | 2 => RX2
  | 3 => RX3
  | 4 => RX4
  | _ => RX5
/-- a row of code: its length, where it jumps, what it answers -/
def jm_qk (ret : Option FieldType) (bz : Bool) (q : Nat × Instr × Nat) : Bool := match q.2.1 with
  | .iconst _ | .lconst _ | .iload_n _ | .lload_n _ | .aload_n _ | .istore_n _ | .lstore_n _ => Nat.beq q.2.2 1
  | .iadd | .isub | .imul | .iand | .ior | .ishl | .ishr | .idiv | .ineg | .ladd | .lsub | .lmul | .land | .lxor | .ldiv | .lrem | .lcmp | .i2l | .l2i | .i2b | .i2s | .dup | .dup2 => Nat.beq q.2.2 1
  | .iaload | .laload | .baload | .aaload | .iastore | .lastore | .bastore => Nat.beq q.2.2 1
  | .bipush _ | .ldc _ | .iload _ | .lload _ | .aload _ | .istore _ | .lstore _ => Nat.beq q.2.2 2
  | .sipush _ | .ldc_w _ | .ldc2_w _ | .iinc _ _ | .getfield _ | .putfield _ | .getstatic _ | .invokevirtual _ | .invokestatic _ => Nat.beq q.2.2 3
  | .goto off | .ifCond _ off | .if_icmp _ off => Nat.beq q.2.2 3 && decide (0 ≤ (q.1 : Int) + off)
  | .tableswitch d lo hi offs => decide (0 ≤ (q.1 : Int) + d) && (offs.toList.all fun o => decide (0 ≤ (q.1 : Int) + o)) && decide (hi - lo + 1 = offs.toList.length)
  | .lookupswitch d ps => decide (0 ≤ (q.1 : Int) + d) && (ps.toList.all fun o => decide (0 ≤ (q.1 : Int) + o.2)) && (ps.toList.zip (ps.toList.drop 1)).all (fun (a, next) => a.1 < next.1)
  | .ireturn => Nat.beq q.2.2 1 && (cond bz (decide (ret = some .boolean)) (decide (ret = some .int)))
  | .lreturn => Nat.beq q.2.2 1 && decide (ret = some .long)
  | .areturn => Nat.beq q.2.2 1 && decide (ret = some (.object "ShaftDiscs$Shaft"))
  | .return_ => Nat.beq q.2.2 1 && decide (ret = none)
  | _ => true
def jm_ok (M : jm_M) (y : MethodName) (cc : ByteArray) (ret : Option FieldType) : Prop :=
  (∀ q ∈ M.2.1, decode cc q.1 = .ok q.2) ∧ (∀ q ∈ M.2.1, jm_qk ret M.2.2.2 q = true) ∧ Cond.code y cc M.2.2.1 ret ∈ lw_tbl ∧ y.cls = jm_cn M.1 ∧ plainName y.cls = true ∧ M.2.2.1 ≤ 20 ∧ (y.cls ≠ "java/lang/invoke/MethodHandle" ∧ y.cls ≠ "java/lang/invoke/VarHandle")

theorem jm_o0 : jm_ok jA_forgetAll yX0_forgetAll cX0_forgetAll none := ⟨jm_d0, (by decide +kernel), jm_in (List.mem_of_getElem? (i := 277) (by decide +kernel)), rfl, (by decide +kernel), (by decide), (by decide +kernel)⟩
theorem jm_o1 : jm_ok jA_keep yX0_keep cX0_keep none := ⟨jm_d1, (by decide +kernel), jm_in (List.mem_of_getElem? (i := 313) (by decide +kernel)), rfl, (by decide +kernel), (by decide), (by decide +kernel)⟩
theorem jm_o2 : jm_ok jA_forgetOldest yX0_forgetOldest cX0_forgetOldest none := ⟨jm_d2, (by decide +kernel), jm_in (List.mem_of_getElem? (i := 317) (by decide +kernel)), rfl, (by decide +kernel), (by decide), (by decide +kernel)⟩
theorem jm_o3 : jm_ok jA_takeBack yX0_takeBack cX0_takeBack (some .boolean) := ⟨jm_d3, (by decide +kernel), jm_in (List.mem_of_getElem? (i := 289) (by decide +kernel)), rfl, (by decide +kernel), (by decide), (by decide +kernel)⟩
theorem jm_o4 : jm_ok jR_takes yX1_takes cX1_takes (some .boolean) := ⟨jm_d4, (by decide +kernel), jm_in (List.mem_of_getElem? (i := 217) (by decide +kernel)), rfl, (by decide +kernel), (by decide), (by decide +kernel)⟩
theorem jm_o5 : jm_ok jR_reads yX1_reads cX1_reads (some .boolean) := ⟨jm_d5, (by decide +kernel), jm_in (List.mem_of_getElem? (i := 226) (by decide +kernel)), rfl, (by decide +kernel), (by decide), (by decide +kernel)⟩
theorem jm_o6 : jm_ok jR_readsLaw yX1_readsLaw cX1_readsLaw (some .boolean) := ⟨jm_d6, (by decide +kernel), jm_in (List.mem_of_getElem? (i := 230) (by decide +kernel)), rfl, (by decide +kernel), (by decide), (by decide +kernel)⟩
theorem jm_o7 : jm_ok jR_readsDiscs yX1_readsDiscs cX1_readsDiscs (some .boolean) := ⟨jm_d7, (by decide +kernel), jm_in (List.mem_of_getElem? (i := 256) (by decide +kernel)), rfl, (by decide +kernel), (by decide), (by decide +kernel)⟩
theorem jm_o8 : jm_ok jR_readsNumbers yX1_readsNumbers cX1_readsNumbers (some .boolean) := ⟨jm_d8, (by decide +kernel), jm_in (List.mem_of_getElem? (i := 263) (by decide +kernel)), rfl, (by decide +kernel), (by decide), (by decide +kernel)⟩
theorem jm_o9 : jm_ok jR_readsSign yX1_readsSign cX1_readsSign (some .boolean) := ⟨jm_d9, (by decide +kernel), jm_in (List.mem_of_getElem? (i := 234) (by decide +kernel)), rfl, (by decide +kernel), (by decide), (by decide +kernel)⟩
theorem jm_o10 : jm_ok jR_readsNumber yX1_readsNumber cX1_readsNumber (some .boolean) := ⟨jm_d10, (by decide +kernel), jm_in (List.mem_of_getElem? (i := 246) (by decide +kernel)), rfl, (by decide +kernel), (by decide), (by decide +kernel)⟩
theorem jm_o11 : jm_ok jR_blames yX1_blames cX1_blames (some .boolean) := ⟨jm_d11, (by decide +kernel), jm_in (List.mem_of_getElem? (i := 242) (by decide +kernel)), rfl, (by decide +kernel), (by decide), (by decide +kernel)⟩
theorem jm_o12 : jm_ok jR_byteAtHand yX1_byteAtHand cX1_byteAtHand (some .int) := ⟨jm_d12, (by decide +kernel), jm_in (List.mem_of_getElem? (i := 238) (by decide +kernel)), rfl, (by decide +kernel), (by decide), (by decide +kernel)⟩
theorem jm_o13 : jm_ok jR_isFigure yX1_isFigure cX1_isFigure (some .boolean) := ⟨jm_d13, (by decide +kernel), jm_in (List.mem_of_getElem? (i := 249) (by decide +kernel)), rfl, (by decide +kernel), (by decide), (by decide +kernel)⟩
theorem jm_o14 : jm_ok jR_kindOf yX1_kindOf cX1_kindOf (some .int) := ⟨jm_d14, (by decide +kernel), jm_in (List.mem_of_getElem? (i := 259) (by decide +kernel)), rfl, (by decide +kernel), (by decide), (by decide +kernel)⟩
theorem jm_o15 : jm_ok jS_has yX2_has cX2_has (some .boolean) := ⟨jm_d15, (by decide +kernel), jm_in (List.mem_of_getElem? (i := 293) (by decide +kernel)), rfl, (by decide +kernel), (by decide), (by decide +kernel)⟩
theorem jm_o16 : jm_ok jS_takeFrom yX2_takeFrom cX2_takeFrom none := ⟨jm_d16, (by decide +kernel), jm_in (List.mem_of_getElem? (i := 272) (by decide +kernel)), rfl, (by decide +kernel), (by decide), (by decide +kernel)⟩
theorem jm_o17 : jm_ok jS_exchange yX2_exchange cX2_exchange none := ⟨jm_d17, (by decide +kernel), jm_in (List.mem_of_getElem? (i := 297) (by decide +kernel)), rfl, (by decide +kernel), (by decide), (by decide +kernel)⟩
theorem jm_o18 : jm_ok jS_sumOf yX2_sumOf cX2_sumOf (some .int) := ⟨jm_d18, (by decide +kernel), jm_in (List.mem_of_getElem? (i := 458) (by decide +kernel)), rfl, (by decide +kernel), (by decide), (by decide +kernel)⟩
theorem jm_o19 : jm_ok jS_ratioOf yX2_ratioOf cX2_ratioOf (some .int) := ⟨jm_d19, (by decide +kernel), jm_in (List.mem_of_getElem? (i := 345) (by decide +kernel)), rfl, (by decide +kernel), (by decide), (by decide +kernel)⟩
theorem jm_o20 : jm_ok jS_weightOf yX2_weightOf cX2_weightOf (some .int) := ⟨jm_d20, (by decide +kernel), jm_in (List.mem_of_getElem? (i := 349) (by decide +kernel)), rfl, (by decide +kernel), (by decide), (by decide +kernel)⟩
theorem jm_o21 : jm_ok jS_springOf yX2_springOf cX2_springOf (some .int) := ⟨jm_d21, (by decide +kernel), jm_in (List.mem_of_getElem? (i := 354) (by decide +kernel)), rfl, (by decide +kernel), (by decide), (by decide +kernel)⟩
theorem jm_o22 : jm_ok jS_tieOf yX2_tieOf cX2_tieOf (some .int) := ⟨jm_d22, (by decide +kernel), jm_in (List.mem_of_getElem? (i := 358) (by decide +kernel)), rfl, (by decide +kernel), (by decide), (by decide +kernel)⟩
theorem jm_o23 : jm_ok jP_measure yX3_measure cX3_measure none := ⟨jm_d23, (by decide +kernel), jm_in (List.mem_of_getElem? (i := 368) (by decide +kernel)), rfl, (by decide +kernel), (by decide), (by decide +kernel)⟩
theorem jm_o24 : jm_ok jP_reaches yX3_reaches cX3_reaches (some .boolean) := ⟨jm_d24, (by decide +kernel), jm_in (List.mem_of_getElem? (i := 375) (by decide +kernel)), rfl, (by decide +kernel), (by decide), (by decide +kernel)⟩
theorem jm_o25 : jm_ok jP_diagonal yX3_diagonal cX3_diagonal (some .long) := ⟨jm_d25, (by decide +kernel), jm_in (List.mem_of_getElem? (i := 379) (by decide +kernel)), rfl, (by decide +kernel), (by decide), (by decide +kernel)⟩
theorem jm_o26 : jm_ok jP_times yX3_times cX3_times (some .long) := ⟨jm_d26, (by decide +kernel), jm_in (List.mem_of_getElem? (i := 383) (by decide +kernel)), rfl, (by decide +kernel), (by decide), (by decide +kernel)⟩
theorem jm_o27 : jm_ok jP_less yX3_less cX3_less (some .long) := ⟨jm_d27, (by decide +kernel), jm_in (List.mem_of_getElem? (i := 389) (by decide +kernel)), rfl, (by decide +kernel), (by decide), (by decide +kernel)⟩
theorem jm_o28 : jm_ok jP_belowAt yX3_belowAt cX3_belowAt (some .int) := ⟨jm_d28, (by decide +kernel), jm_in (List.mem_of_getElem? (i := 397) (by decide +kernel)), rfl, (by decide +kernel), (by decide), (by decide +kernel)⟩
theorem jm_o29 : jm_ok jP_boxOf yX3_boxOf cX3_boxOf (some .int) := ⟨jm_d29, (by decide +kernel), jm_in (List.mem_of_getElem? (i := 412) (by decide +kernel)), rfl, (by decide +kernel), (by decide), (by decide +kernel)⟩
theorem jm_o30 : jm_ok jP_boxesAll yX3_boxesAll cX3_boxesAll (some .boolean) := ⟨jm_d30, (by decide +kernel), jm_in (List.mem_of_getElem? (i := 422) (by decide +kernel)), rfl, (by decide +kernel), (by decide), (by decide +kernel)⟩
theorem jm_o31 : jm_ok jP_widestGap yX3_widestGap cX3_widestGap (some .int) := ⟨jm_d31, (by decide +kernel), jm_in (List.mem_of_getElem? (i := 427) (by decide +kernel)), rfl, (by decide +kernel), (by decide), (by decide +kernel)⟩
theorem jm_o32 : jm_ok jP_gapAt yX3_gapAt cX3_gapAt (some .int) := ⟨jm_d32, (by decide +kernel), jm_in (List.mem_of_getElem? (i := 431) (by decide +kernel)), rfl, (by decide +kernel), (by decide), (by decide +kernel)⟩
theorem jm_o33 : jm_ok jP_isClearBy yX3_isClearBy cX3_isClearBy (some .boolean) := ⟨jm_d33, (by decide +kernel), jm_in (List.mem_of_getElem? (i := 441) (by decide +kernel)), rfl, (by decide +kernel), (by decide), (by decide +kernel)⟩
theorem jm_o34 : jm_ok jD_row yX4_row cX4_row (some .int) := ⟨jm_d34, (by decide +kernel), jm_in (List.mem_of_getElem? (i := 170) (by decide +kernel)), rfl, (by decide +kernel), (by decide), (by decide +kernel)⟩
theorem jm_o35 : jm_ok jD_set yX4_set cX4_set (some .int) := ⟨jm_d35, (by decide +kernel), jm_in (List.mem_of_getElem? (i := 187) (by decide +kernel)), rfl, (by decide +kernel), (by decide), (by decide +kernel)⟩
theorem jm_o36 : jm_ok jD_copy yX4_copy cX4_copy (some .int) := ⟨jm_d36, (by decide +kernel), jm_in (List.mem_of_getElem? (i := 202) (by decide +kernel)), rfl, (by decide +kernel), (by decide), (by decide +kernel)⟩
theorem jm_o37 : jm_ok jD_drop yX4_drop cX4_drop (some .int) := ⟨jm_d37, (by decide +kernel), jm_in (List.mem_of_getElem? (i := 209) (by decide +kernel)), rfl, (by decide +kernel), (by decide), (by decide +kernel)⟩
theorem jm_o38 : jm_ok jD_isRow yX4_isRow cX4_isRow (some .boolean) := ⟨jm_d38, (by decide +kernel), jm_in (List.mem_of_getElem? (i := 173) (by decide +kernel)), rfl, (by decide +kernel), (by decide), (by decide +kernel)⟩
theorem jm_o39 : jm_ok jD_isMissing yX4_isMissing cX4_isMissing (some .boolean) := ⟨jm_d39, (by decide +kernel), jm_in (List.mem_of_getElem? (i := 191) (by decide +kernel)), rfl, (by decide +kernel), (by decide), (by decide +kernel)⟩
theorem jm_o40 : jm_ok jD_isWithin yX4_isWithin cX4_isWithin (some .boolean) := ⟨jm_d40, (by decide +kernel), jm_in (List.mem_of_getElem? (i := 195) (by decide +kernel)), rfl, (by decide +kernel), (by decide), (by decide +kernel)⟩
theorem jm_o41 : jm_ok jD_narrowed yX4_narrowed cX4_narrowed (some .int) := ⟨jm_d41, (by decide +kernel), jm_in (List.mem_of_getElem? (i := 198) (by decide +kernel)), rfl, (by decide +kernel), (by decide), (by decide +kernel)⟩
theorem jm_o42 : jm_ok jD_feed yX4_feed cX4_feed (some .int) := ⟨jm_d42, (by decide +kernel), jm_in (List.mem_of_getElem? (i := 213) (by decide +kernel)), rfl, (by decide +kernel), (by decide), (by decide +kernel)⟩
theorem jm_o43 : jm_ok jD_shaft yX4_shaft cX4_shaft (some .int) := ⟨jm_d43, (by decide +kernel), jm_in (List.mem_of_getElem? (i := 222) (by decide +kernel)), rfl, (by decide +kernel), (by decide), (by decide +kernel)⟩
theorem jm_o44 : jm_ok jD_fault yX4_fault cX4_fault (some .int) := ⟨jm_d44, (by decide +kernel), jm_in (List.mem_of_getElem? (i := 281) (by decide +kernel)), rfl, (by decide +kernel), (by decide), (by decide +kernel)⟩
theorem jm_o45 : jm_ok jD_undo yX4_undo cX4_undo (some .int) := ⟨jm_d45, (by decide +kernel), jm_in (List.mem_of_getElem? (i := 285) (by decide +kernel)), rfl, (by decide +kernel), (by decide), (by decide +kernel)⟩
theorem jm_o46 : jm_ok jD_change yX4_change cX4_change (some .int) := ⟨jm_d46, (by decide +kernel), jm_in (List.mem_of_getElem? (i := 302) (by decide +kernel)), rfl, (by decide +kernel), (by decide), (by decide +kernel)⟩
theorem jm_o47 : jm_ok jD_become yX4_become cX4_become (some .int) := ⟨jm_d47, (by decide +kernel), jm_in (List.mem_of_getElem? (i := 322) (by decide +kernel)), rfl, (by decide +kernel), (by decide), (by decide +kernel)⟩
theorem jm_o48 : jm_ok jD_mark yX4_mark cX4_mark (some .int) := ⟨jm_d48, (by decide +kernel), jm_in (List.mem_of_getElem? (i := 326) (by decide +kernel)), rfl, (by decide +kernel), (by decide), (by decide +kernel)⟩
theorem jm_o49 : jm_ok jD_swap yX4_swap cX4_swap (some .int) := ⟨jm_d49, (by decide +kernel), jm_in (List.mem_of_getElem? (i := 333) (by decide +kernel)), rfl, (by decide +kernel), (by decide), (by decide +kernel)⟩
theorem jm_o50 : jm_ok jD_disc yX4_disc cX4_disc (some .int) := ⟨jm_d50, (by decide +kernel), jm_in (List.mem_of_getElem? (i := 341) (by decide +kernel)), rfl, (by decide +kernel), (by decide), (by decide +kernel)⟩
theorem jm_o51 : jm_ok jD_put yX4_put cX4_put (some .int) := ⟨jm_d51, (by decide +kernel), jm_in (List.mem_of_getElem? (i := 309) (by decide +kernel)), rfl, (by decide +kernel), (by decide), (by decide +kernel)⟩
theorem jm_o52 : jm_ok jD_isMark yX4_isMark cX4_isMark (some .boolean) := ⟨jm_d52, (by decide +kernel), jm_in (List.mem_of_getElem? (i := 329) (by decide +kernel)), rfl, (by decide +kernel), (by decide), (by decide +kernel)⟩
theorem jm_o53 : jm_ok jD_determinant yX4_determinant cX4_determinant (some .long) := ⟨jm_d53, (by decide +kernel), jm_in (List.mem_of_getElem? (i := 362) (by decide +kernel)), rfl, (by decide +kernel), (by decide), (by decide +kernel)⟩
theorem jm_o54 : jm_ok jD_below yX4_below cX4_below (some .int) := ⟨jm_d54, (by decide +kernel), jm_in (List.mem_of_getElem? (i := 393) (by decide +kernel)), rfl, (by decide +kernel), (by decide), (by decide +kernel)⟩
theorem jm_o55 : jm_ok jD_box yX4_box cX4_box (some .int) := ⟨jm_d55, (by decide +kernel), jm_in (List.mem_of_getElem? (i := 408) (by decide +kernel)), rfl, (by decide +kernel), (by decide), (by decide +kernel)⟩
theorem jm_o56 : jm_ok jD_widest yX4_widest cX4_widest (some .int) := ⟨jm_d56, (by decide +kernel), jm_in (List.mem_of_getElem? (i := 418) (by decide +kernel)), rfl, (by decide +kernel), (by decide), (by decide +kernel)⟩
theorem jm_o57 : jm_ok jD_clear yX4_clear cX4_clear (some .int) := ⟨jm_d57, (by decide +kernel), jm_in (List.mem_of_getElem? (i := 437) (by decide +kernel)), rfl, (by decide +kernel), (by decide), (by decide +kernel)⟩
theorem jm_o58 : jm_ok jD_stiffer yX4_stiffer cX4_stiffer (some .int) := ⟨jm_d58, (by decide +kernel), jm_in (List.mem_of_getElem? (i := 446) (by decide +kernel)), rfl, (by decide +kernel), (by decide), (by decide +kernel)⟩
theorem jm_o59 : jm_ok jD_sets yX4_sets cX4_sets (some .int) := ⟨jm_d59, (by decide +kernel), jm_in (List.mem_of_getElem? (i := 454) (by decide +kernel)), rfl, (by decide +kernel), (by decide), (by decide +kernel)⟩
theorem jm_o60 : jm_ok jD_share yX4_share cX4_share (some .int) := ⟨jm_d60, (by decide +kernel), jm_in (List.mem_of_getElem? (i := 462) (by decide +kernel)), rfl, (by decide +kernel), (by decide), (by decide +kernel)⟩
theorem jm_o61 : jm_ok jD_byTurns yX4_byTurns cX4_byTurns (some .int) := ⟨jm_d61, (by decide +kernel), jm_in (List.mem_of_getElem? (i := 466) (by decide +kernel)), rfl, (by decide +kernel), (by decide), (by decide +kernel)⟩
theorem jm_o62 : jm_ok jD_who yX4_who cX4_who (some .int) := ⟨jm_d62, (by decide +kernel), jm_in (List.mem_of_getElem? (i := 478) (by decide +kernel)), rfl, (by decide +kernel), (by decide), (by decide +kernel)⟩
theorem jm_o63 : jm_ok jD_broken yX4_broken cX4_broken (some .long) := ⟨jm_d63, (by decide +kernel), jm_in (List.mem_of_getElem? (i := 494) (by decide +kernel)), rfl, (by decide +kernel), (by decide), (by decide +kernel)⟩
theorem jm_o64 : jm_ok jD_drawn yX4_drawn cX4_drawn (some .int) := ⟨jm_d64, (by decide +kernel), jm_in (List.mem_of_getElem? (i := 506) (by decide +kernel)), rfl, (by decide +kernel), (by decide), (by decide +kernel)⟩
theorem jm_o65 : jm_ok jD_image yX4_image cX4_image (some .int) := ⟨jm_d65, (by decide +kernel), jm_in (List.mem_of_getElem? (i := 522) (by decide +kernel)), rfl, (by decide +kernel), (by decide), (by decide +kernel)⟩
theorem jm_o66 : jm_ok jD_restore yX4_restore cX4_restore (some .int) := ⟨jm_d66, (by decide +kernel), jm_in (List.mem_of_getElem? (i := 533) (by decide +kernel)), rfl, (by decide +kernel), (by decide), (by decide +kernel)⟩
theorem jm_o67 : jm_ok jD_belowMarkTried yX4_belowMarkTried cX4_belowMarkTried (some .int) := ⟨jm_d67, (by decide +kernel), jm_in (List.mem_of_getElem? (i := 450) (by decide +kernel)), rfl, (by decide +kernel), (by decide), (by decide +kernel)⟩
theorem jm_o68 : jm_ok jD_turned yX4_turned cX4_turned (some .int) := ⟨jm_d68, (by decide +kernel), jm_in (List.mem_of_getElem? (i := 470) (by decide +kernel)), rfl, (by decide +kernel), (by decide), (by decide +kernel)⟩
theorem jm_o69 : jm_ok jD_bitsThatFit yX4_bitsThatFit cX4_bitsThatFit (some .int) := ⟨jm_d69, (by decide +kernel), jm_in (List.mem_of_getElem? (i := 482) (by decide +kernel)), rfl, (by decide +kernel), (by decide), (by decide +kernel)⟩
theorem jm_o70 : jm_ok jD_springsThatFit yX4_springsThatFit cX4_springsThatFit (some .int) := ⟨jm_d70, (by decide +kernel), jm_in (List.mem_of_getElem? (i := 490) (by decide +kernel)), rfl, (by decide +kernel), (by decide), (by decide +kernel)⟩
theorem jm_o71 : jm_ok jD_triedBoxesAre yX4_triedBoxesAre cX4_triedBoxesAre (some .boolean) := ⟨jm_d71, (by decide +kernel), jm_in (List.mem_of_getElem? (i := 486) (by decide +kernel)), rfl, (by decide +kernel), (by decide), (by decide +kernel)⟩
theorem jm_o72 : jm_ok jD_casesOf yX4_casesOf cX4_casesOf (some .long) := ⟨jm_d72, (by decide +kernel), jm_in (List.mem_of_getElem? (i := 499) (by decide +kernel)), rfl, (by decide +kernel), (by decide), (by decide +kernel)⟩
theorem jm_o73 : jm_ok jD_commonDivisor yX4_commonDivisor cX4_commonDivisor (some .long) := ⟨jm_d73, (by decide +kernel), jm_in (List.mem_of_getElem? (i := 502) (by decide +kernel)), rfl, (by decide +kernel), (by decide), (by decide +kernel)⟩
theorem jm_o74 : jm_ok jD_drawOne yX4_drawOne cX4_drawOne none := ⟨jm_d74, (by decide +kernel), jm_in (List.mem_of_getElem? (i := 513) (by decide +kernel)), rfl, (by decide +kernel), (by decide), (by decide +kernel)⟩
theorem jm_o75 : jm_ok jD_isImage yX4_isImage cX4_isImage (some .boolean) := ⟨jm_d75, (by decide +kernel), jm_in (List.mem_of_getElem? (i := 525) (by decide +kernel)), rfl, (by decide +kernel), (by decide), (by decide +kernel)⟩
theorem jm_o76 : jm_ok jD_imageAt yX4_imageAt cX4_imageAt (some (.object "ShaftDiscs$Shaft")) := ⟨jm_d76, (by decide +kernel), jm_in (List.mem_of_getElem? (i := 529) (by decide +kernel)), rfl, (by decide +kernel), (by decide), (by decide +kernel)⟩
theorem jm_o77 : jm_ok jD_kind yX4_kind cX4_kind (some .int) := ⟨jm_d77, (by decide +kernel), jm_in (List.mem_of_getElem? (i := 537) (by decide +kernel)), rfl, (by decide +kernel), (by decide), (by decide +kernel)⟩
theorem jm_o78 : jm_ok jD_as yX4_as cX4_as (some .int) := ⟨jm_d78, (by decide +kernel), jm_in (List.mem_of_getElem? (i := 541) (by decide +kernel)), rfl, (by decide +kernel), (by decide), (by decide +kernel)⟩
theorem jm_o79 : jm_ok jD_ask yX4_ask cX4_ask (some .int) := ⟨jm_d79, (by decide +kernel), jm_in (List.mem_of_getElem? (i := 550) (by decide +kernel)), rfl, (by decide +kernel), (by decide), (by decide +kernel)⟩
theorem jm_o80 : jm_ok jD_trace yX4_trace cX4_trace (some .int) := ⟨jm_d80, (by decide +kernel), jm_in (List.mem_of_getElem? (i := 570) (by decide +kernel)), rfl, (by decide +kernel), (by decide), (by decide +kernel)⟩
theorem jm_o81 : jm_ok jD_count yX4_count cX4_count (some .int) := ⟨jm_d81, (by decide +kernel), jm_in (List.mem_of_getElem? (i := 574) (by decide +kernel)), rfl, (by decide +kernel), (by decide), (by decide +kernel)⟩
theorem jm_o82 : jm_ok jD_status yX4_status cX4_status (some .int) := ⟨jm_d82, (by decide +kernel), jm_in (List.mem_of_getElem? (i := 582) (by decide +kernel)), rfl, (by decide +kernel), (by decide), (by decide +kernel)⟩
theorem jm_o83 : jm_ok jD_isOfKind yX4_isOfKind cX4_isOfKind (some .boolean) := ⟨jm_d83, (by decide +kernel), jm_in (List.mem_of_getElem? (i := 544) (by decide +kernel)), rfl, (by decide +kernel), (by decide), (by decide +kernel)⟩
theorem jm_o84 : jm_ok jD_asked yX4_asked cX4_asked (some .int) := ⟨jm_d84, (by decide +kernel), jm_in (List.mem_of_getElem? (i := 554) (by decide +kernel)), rfl, (by decide +kernel), (by decide), (by decide +kernel)⟩
theorem jm_o85 : jm_ok jD_answerOf yX4_answerOf cX4_answerOf (some .int) := ⟨jm_d85, (by decide +kernel), jm_in (List.mem_of_getElem? (i := 562) (by decide +kernel)), rfl, (by decide +kernel), (by decide), (by decide +kernel)⟩
theorem jm_o86 : jm_ok jD_leaveTrace yX4_leaveTrace cX4_leaveTrace none := ⟨jm_d86, (by decide +kernel), jm_in (List.mem_of_getElem? (i := 566) (by decide +kernel)), rfl, (by decide +kernel), (by decide), (by decide +kernel)⟩
theorem jm_o87 : jm_ok jD_rowsThatStand yX4_rowsThatStand cX4_rowsThatStand (some .int) := ⟨jm_d87, (by decide +kernel), jm_in (List.mem_of_getElem? (i := 578) (by decide +kernel)), rfl, (by decide +kernel), (by decide), (by decide +kernel)⟩
theorem jm_o88 : jm_ok jD_found yX4_found cX4_found (some .int) := ⟨jm_d88, (by decide +kernel), jm_in (List.mem_of_getElem? (i := 178) (by decide +kernel)), rfl, (by decide +kernel), (by decide), (by decide +kernel)⟩
theorem jm_o89 : jm_ok jD_clean yX4_clean cX4_clean (some .int) := ⟨jm_d89, (by decide +kernel), jm_in (List.mem_of_getElem? (i := 183) (by decide +kernel)), rfl, (by decide +kernel), (by decide), (by decide +kernel)⟩
theorem jm_o90 : jm_ok jD_answered yX4_answered cX4_answered (some .int) := ⟨jm_d90, (by decide +kernel), jm_in (List.mem_of_getElem? (i := 403) (by decide +kernel)), rfl, (by decide +kernel), (by decide), (by decide +kernel)⟩
theorem jm_o91 : jm_ok jM_in yX5_in cX5_in (some .boolean) := ⟨jm_d91, (by decide +kernel), jm_in (List.mem_of_getElem? (i := 679) (by decide +kernel)), rfl, (by decide +kernel), (by decide), (by decide +kernel)⟩
theorem jm_o92 : jm_ok jM_finding yX5_finding cX5_finding (some .int) := ⟨jm_d92, (by decide +kernel), jm_in (List.mem_of_getElem? (i := 685) (by decide +kernel)), rfl, (by decide +kernel), (by decide), (by decide +kernel)⟩
theorem jm_o93 : jm_ok jM_isRow yX5_isRow cX5_isRow (some .boolean) := ⟨jm_d93, (by decide +kernel), jm_in (List.mem_of_getElem? (i := 675) (by decide +kernel)), rfl, (by decide +kernel), (by decide), (by decide +kernel)⟩
theorem jm_o94 : jm_ok jM_row yX5_row cX5_row (some .int) := ⟨jm_d94, (by decide +kernel), jm_in (List.mem_of_getElem? (i := 672) (by decide +kernel)), rfl, (by decide +kernel), (by decide), (by decide +kernel)⟩
theorem jm_o95 : jm_ok jM_set yX5_set cX5_set (some .int) := ⟨jm_d95, (by decide +kernel), jm_in (List.mem_of_getElem? (i := 690) (by decide +kernel)), rfl, (by decide +kernel), (by decide), (by decide +kernel)⟩
theorem jm_o96 : jm_ok jM_copy yX5_copy cX5_copy (some .int) := ⟨jm_d96, (by decide +kernel), jm_in (List.mem_of_getElem? (i := 694) (by decide +kernel)), rfl, (by decide +kernel), (by decide), (by decide +kernel)⟩
theorem jm_o97 : jm_ok jM_drop yX5_drop cX5_drop (some .int) := ⟨jm_d97, (by decide +kernel), jm_in (List.mem_of_getElem? (i := 698) (by decide +kernel)), rfl, (by decide +kernel), (by decide), (by decide +kernel)⟩
theorem jm_o98 : jm_ok jM_feed yX5_feed cX5_feed (some .int) := ⟨jm_d98, (by decide +kernel), jm_in (List.mem_of_getElem? (i := 702) (by decide +kernel)), rfl, (by decide +kernel), (by decide), (by decide +kernel)⟩
theorem jm_o99 : jm_ok jM_bad yX5_bad cX5_bad none := ⟨jm_d99, (by decide +kernel), jm_in (List.mem_of_getElem? (i := 737) (by decide +kernel)), rfl, (by decide +kernel), (by decide), (by decide +kernel)⟩
theorem jm_o100 : jm_ok jM_nextToken yX5_nextToken cX5_nextToken none := ⟨jm_d100, (by decide +kernel), jm_in (List.mem_of_getElem? (i := 720) (by decide +kernel)), rfl, (by decide +kernel), (by decide), (by decide +kernel)⟩
theorem jm_o101 : jm_ok jM_must yX5_must cX5_must none := ⟨jm_d101, (by decide +kernel), jm_in (List.mem_of_getElem? (i := 733) (by decide +kernel)), rfl, (by decide +kernel), (by decide), (by decide +kernel)⟩
theorem jm_o102 : jm_ok jM_isLetter yX5_isLetter cX5_isLetter (some .boolean) := ⟨jm_d102, (by decide +kernel), jm_in (List.mem_of_getElem? (i := 729) (by decide +kernel)), rfl, (by decide +kernel), (by decide), (by decide +kernel)⟩
theorem jm_o103 : jm_ok jM_number yX5_number cX5_number (some .int) := ⟨jm_d103, (by decide +kernel), jm_in (List.mem_of_getElem? (i := 741) (by decide +kernel)), rfl, (by decide +kernel), (by decide), (by decide +kernel)⟩
theorem jm_o104 : jm_ok jM_mustSign yX5_mustSign cX5_mustSign none := ⟨jm_d104, (by decide +kernel), jm_in (List.mem_of_getElem? (i := 745) (by decide +kernel)), rfl, (by decide +kernel), (by decide), (by decide +kernel)⟩
theorem jm_o105 : jm_ok jM_begin yX5_begin cX5_begin none := ⟨jm_d105, (by decide +kernel), jm_in (List.mem_of_getElem? (i := 716) (by decide +kernel)), rfl, (by decide +kernel), (by decide), (by decide +kernel)⟩
theorem jm_o106 : jm_ok jM_failed yX5_failed cX5_failed (some .boolean) := ⟨jm_d106, (by decide +kernel), jm_in (List.mem_of_getElem? (i := 760) (by decide +kernel)), rfl, (by decide +kernel), (by decide), (by decide +kernel)⟩
theorem jm_o107 : jm_ok jM_fault yX5_fault cX5_fault (some .int) := ⟨jm_d107, (by decide +kernel), jm_in (List.mem_of_getElem? (i := 708) (by decide +kernel)), rfl, (by decide +kernel), (by decide), (by decide +kernel)⟩
theorem jm_o108 : jm_ok jM_kindBy yX5_kindBy cX5_kindBy (some .int) := ⟨jm_d108, (by decide +kernel), jm_in (List.mem_of_getElem? (i := 752) (by decide +kernel)), rfl, (by decide +kernel), (by decide), (by decide +kernel)⟩
theorem jm_o109 : jm_ok jM_isSort yX5_isSort cX5_isSort (some .boolean) := ⟨jm_d109, (by decide +kernel), jm_in (List.mem_of_getElem? (i := 749) (by decide +kernel)), rfl, (by decide +kernel), (by decide), (by decide +kernel)⟩
theorem jm_o110 : jm_ok jM_readDisc yX5_readDisc cX5_readDisc none := ⟨jm_d110, (by decide +kernel), jm_in (List.mem_of_getElem? (i := 756) (by decide +kernel)), rfl, (by decide +kernel), (by decide), (by decide +kernel)⟩
theorem jm_o111 : jm_ok jM_shaft yX5_shaft cX5_shaft (some .int) := ⟨jm_d111, (by decide +kernel), jm_in (List.mem_of_getElem? (i := 712) (by decide +kernel)), rfl, (by decide +kernel), (by decide), (by decide +kernel)⟩
theorem jm_o112 : jm_ok jM_isThere yX5_isThere cX5_isThere (some .boolean) := ⟨jm_d112, (by decide +kernel), jm_in (List.mem_of_getElem? (i := 792) (by decide +kernel)), rfl, (by decide +kernel), (by decide), (by decide +kernel)⟩
theorem jm_o113 : jm_ok jM_isDisc yX5_isDisc cX5_isDisc (some .boolean) := ⟨jm_d113, (by decide +kernel), jm_in (List.mem_of_getElem? (i := 772) (by decide +kernel)), rfl, (by decide +kernel), (by decide), (by decide +kernel)⟩
theorem jm_o114 : jm_ok jM_has yX5_has cX5_has (some .boolean) := ⟨jm_d114, (by decide +kernel), jm_in (List.mem_of_getElem? (i := 890) (by decide +kernel)), rfl, (by decide +kernel), (by decide), (by decide +kernel)⟩
theorem jm_o115 : jm_ok jM_of yX5_of cX5_of (some .int) := ⟨jm_d115, (by decide +kernel), jm_in (List.mem_of_getElem? (i := 779) (by decide +kernel)), rfl, (by decide +kernel), (by decide), (by decide +kernel)⟩
theorem jm_o116 : jm_ok jM_ratio yX5_ratio cX5_ratio (some .int) := ⟨jm_d116, (by decide +kernel), jm_in (List.mem_of_getElem? (i := 808) (by decide +kernel)), rfl, (by decide +kernel), (by decide), (by decide +kernel)⟩
theorem jm_o117 : jm_ok jM_weight yX5_weight cX5_weight (some .int) := ⟨jm_d117, (by decide +kernel), jm_in (List.mem_of_getElem? (i := 811) (by decide +kernel)), rfl, (by decide +kernel), (by decide), (by decide +kernel)⟩
theorem jm_o118 : jm_ok jM_spring yX5_spring cX5_spring (some .int) := ⟨jm_d118, (by decide +kernel), jm_in (List.mem_of_getElem? (i := 814) (by decide +kernel)), rfl, (by decide +kernel), (by decide), (by decide +kernel)⟩
theorem jm_o119 : jm_ok jM_tie yX5_tie cX5_tie (some .int) := ⟨jm_d119, (by decide +kernel), jm_in (List.mem_of_getElem? (i := 817) (by decide +kernel)), rfl, (by decide +kernel), (by decide), (by decide +kernel)⟩
theorem jm_o120 : jm_ok jM_product yX5_product cX5_product (some .long) := ⟨jm_d120, (by decide +kernel), jm_in (List.mem_of_getElem? (i := 831) (by decide +kernel)), rfl, (by decide +kernel), (by decide), (by decide +kernel)⟩
theorem jm_o121 : jm_ok jM_difference yX5_difference cX5_difference (some .long) := ⟨jm_d121, (by decide +kernel), jm_in (List.mem_of_getElem? (i := 837) (by decide +kernel)), rfl, (by decide +kernel), (by decide), (by decide +kernel)⟩
theorem jm_o122 : jm_ok jM_reckon yX5_reckon cX5_reckon none := ⟨jm_d122, (by decide +kernel), jm_in (List.mem_of_getElem? (i := 827) (by decide +kernel)), rfl, (by decide +kernel), (by decide), (by decide +kernel)⟩
theorem jm_o123 : jm_ok jM_belowOf yX5_belowOf cX5_belowOf (some .int) := ⟨jm_d123, (by decide +kernel), jm_in (List.mem_of_getElem? (i := 845) (by decide +kernel)), rfl, (by decide +kernel), (by decide), (by decide +kernel)⟩
theorem jm_o124 : jm_ok jM_boxOf yX5_boxOf cX5_boxOf (some .int) := ⟨jm_d124, (by decide +kernel), jm_in (List.mem_of_getElem? (i := 857) (by decide +kernel)), rfl, (by decide +kernel), (by decide), (by decide +kernel)⟩
theorem jm_o125 : jm_ok jM_layBoxes yX5_layBoxes cX5_layBoxes none := ⟨jm_d125, (by decide +kernel), jm_in (List.mem_of_getElem? (i := 865) (by decide +kernel)), rfl, (by decide +kernel), (by decide), (by decide +kernel)⟩
theorem jm_o126 : jm_ok jM_layThen yX5_layThen cX5_layThen none := ⟨jm_d126, (by decide +kernel), jm_in (List.mem_of_getElem? (i := 882) (by decide +kernel)), rfl, (by decide +kernel), (by decide), (by decide +kernel)⟩
theorem jm_o127 : jm_ok jM_keep yX5_keep cX5_keep none := ⟨jm_d127, (by decide +kernel), jm_in (List.mem_of_getElem? (i := 776) (by decide +kernel)), rfl, (by decide +kernel), (by decide), (by decide +kernel)⟩
theorem jm_o128 : jm_ok jM_change yX5_change cX5_change (some .int) := ⟨jm_d128, (by decide +kernel), jm_in (List.mem_of_getElem? (i := 765) (by decide +kernel)), rfl, (by decide +kernel), (by decide), (by decide +kernel)⟩
theorem jm_o129 : jm_ok jM_become yX5_become cX5_become (some .int) := ⟨jm_d129, (by decide +kernel), jm_in (List.mem_of_getElem? (i := 783) (by decide +kernel)), rfl, (by decide +kernel), (by decide), (by decide +kernel)⟩
theorem jm_o130 : jm_ok jM_mark yX5_mark cX5_mark (some .int) := ⟨jm_d130, (by decide +kernel), jm_in (List.mem_of_getElem? (i := 788) (by decide +kernel)), rfl, (by decide +kernel), (by decide), (by decide +kernel)⟩
theorem jm_o131 : jm_ok jM_swap yX5_swap cX5_swap (some .int) := ⟨jm_d131, (by decide +kernel), jm_in (List.mem_of_getElem? (i := 797) (by decide +kernel)), rfl, (by decide +kernel), (by decide), (by decide +kernel)⟩
theorem jm_o132 : jm_ok jM_undo yX5_undo cX5_undo (some .int) := ⟨jm_d132, (by decide +kernel), jm_in (List.mem_of_getElem? (i := 801) (by decide +kernel)), rfl, (by decide +kernel), (by decide), (by decide +kernel)⟩
theorem jm_o133 : jm_ok jM_disc yX5_disc cX5_disc (some .int) := ⟨jm_d133, (by decide +kernel), jm_in (List.mem_of_getElem? (i := 805) (by decide +kernel)), rfl, (by decide +kernel), (by decide), (by decide +kernel)⟩
theorem jm_o134 : jm_ok jM_unless yX5_unless cX5_unless (some .int) := ⟨jm_d134, (by decide +kernel), jm_in (List.mem_of_getElem? (i := 849) (by decide +kernel)), rfl, (by decide +kernel), (by decide), (by decide +kernel)⟩
theorem jm_o135 : jm_ok jM_determinant yX5_determinant cX5_determinant (some .long) := ⟨jm_d135, (by decide +kernel), jm_in (List.mem_of_getElem? (i := 821) (by decide +kernel)), rfl, (by decide +kernel), (by decide), (by decide +kernel)⟩
theorem jm_o136 : jm_ok jM_below yX5_below cX5_below (some .int) := ⟨jm_d136, (by decide +kernel), jm_in (List.mem_of_getElem? (i := 841) (by decide +kernel)), rfl, (by decide +kernel), (by decide), (by decide +kernel)⟩
theorem jm_o137 : jm_ok jM_box yX5_box cX5_box (some .int) := ⟨jm_d137, (by decide +kernel), jm_in (List.mem_of_getElem? (i := 853) (by decide +kernel)), rfl, (by decide +kernel), (by decide), (by decide +kernel)⟩
theorem jm_o138 : jm_ok jM_widest yX5_widest cX5_widest (some .int) := ⟨jm_d138, (by decide +kernel), jm_in (List.mem_of_getElem? (i := 861) (by decide +kernel)), rfl, (by decide +kernel), (by decide), (by decide +kernel)⟩
theorem jm_o139 : jm_ok jM_isClear yX5_isClear cX5_isClear (some .boolean) := ⟨jm_d139, (by decide +kernel), jm_in (List.mem_of_getElem? (i := 873) (by decide +kernel)), rfl, (by decide +kernel), (by decide), (by decide +kernel)⟩
theorem jm_o140 : jm_ok jM_clear yX5_clear cX5_clear (some .int) := ⟨jm_d140, (by decide +kernel), jm_in (List.mem_of_getElem? (i := 869) (by decide +kernel)), rfl, (by decide +kernel), (by decide), (by decide +kernel)⟩
theorem jm_o141 : jm_ok jM_stiffer yX5_stiffer cX5_stiffer (some .int) := ⟨jm_d141, (by decide +kernel), jm_in (List.mem_of_getElem? (i := 877) (by decide +kernel)), rfl, (by decide +kernel), (by decide), (by decide +kernel)⟩
theorem jm_o142 : jm_ok jM_sets yX5_sets cX5_sets (some .int) := ⟨jm_d142, (by decide +kernel), jm_in (List.mem_of_getElem? (i := 886) (by decide +kernel)), rfl, (by decide +kernel), (by decide), (by decide +kernel)⟩
theorem jm_o143 : jm_ok jM_together yX5_together cX5_together (some .int) := ⟨jm_d143, (by decide +kernel), jm_in (List.mem_of_getElem? (i := 899) (by decide +kernel)), rfl, (by decide +kernel), (by decide), (by decide +kernel)⟩
theorem jm_o144 : jm_ok jM_share yX5_share cX5_share (some .int) := ⟨jm_d144, (by decide +kernel), jm_in (List.mem_of_getElem? (i := 894) (by decide +kernel)), rfl, (by decide +kernel), (by decide), (by decide +kernel)⟩
theorem jm_o145 : jm_ok jM_afterTurns yX5_afterTurns cX5_afterTurns (some .int) := ⟨jm_d145, (by decide +kernel), jm_in (List.mem_of_getElem? (i := 908) (by decide +kernel)), rfl, (by decide +kernel), (by decide), (by decide +kernel)⟩
theorem jm_o146 : jm_ok jM_byTurns yX5_byTurns cX5_byTurns (some .int) := ⟨jm_d146, (by decide +kernel), jm_in (List.mem_of_getElem? (i := 903) (by decide +kernel)), rfl, (by decide +kernel), (by decide), (by decide +kernel)⟩
theorem jm_o147 : jm_ok jM_rowFound yX5_rowFound cX5_rowFound (some .int) := ⟨jm_d147, (by decide +kernel), jm_in (List.mem_of_getElem? (i := 916) (by decide +kernel)), rfl, (by decide +kernel), (by decide), (by decide +kernel)⟩
theorem jm_o148 : jm_ok jM_isBoxedSo yX5_isBoxedSo cX5_isBoxedSo (some .boolean) := ⟨jm_d148, (by decide +kernel), jm_in (List.mem_of_getElem? (i := 920) (by decide +kernel)), rfl, (by decide +kernel), (by decide), (by decide +kernel)⟩
theorem jm_o149 : jm_ok jM_who yX5_who cX5_who (some .int) := ⟨jm_d149, (by decide +kernel), jm_in (List.mem_of_getElem? (i := 912) (by decide +kernel)), rfl, (by decide +kernel), (by decide), (by decide +kernel)⟩
theorem jm_o150 : jm_ok jM_broken yX5_broken cX5_broken (some .long) := ⟨jm_d150, (by decide +kernel), jm_in (List.mem_of_getElem? (i := 924) (by decide +kernel)), rfl, (by decide +kernel), (by decide), (by decide +kernel)⟩
theorem jm_o151 : jm_ok jM_drawn yX5_drawn cX5_drawn (some .int) := ⟨jm_d151, (by decide +kernel), jm_in (List.mem_of_getElem? (i := 929) (by decide +kernel)), rfl, (by decide +kernel), (by decide), (by decide +kernel)⟩
theorem jm_o152 : jm_ok jM_image yX5_image cX5_image (some .int) := ⟨jm_d152, (by decide +kernel), jm_in (List.mem_of_getElem? (i := 939) (by decide +kernel)), rfl, (by decide +kernel), (by decide), (by decide +kernel)⟩
theorem jm_o153 : jm_ok jM_restore yX5_restore cX5_restore (some .int) := ⟨jm_d153, (by decide +kernel), jm_in (List.mem_of_getElem? (i := 943) (by decide +kernel)), rfl, (by decide +kernel), (by decide), (by decide +kernel)⟩
theorem jm_o154 : jm_ok jM_isOf yX5_isOf cX5_isOf (some .boolean) := ⟨jm_d154, (by decide +kernel), jm_in (List.mem_of_getElem? (i := 954) (by decide +kernel)), rfl, (by decide +kernel), (by decide), (by decide +kernel)⟩
theorem jm_o155 : jm_ok jM_kind yX5_kind cX5_kind (some .int) := ⟨jm_d155, (by decide +kernel), jm_in (List.mem_of_getElem? (i := 947) (by decide +kernel)), rfl, (by decide +kernel), (by decide), (by decide +kernel)⟩
theorem jm_o156 : jm_ok jM_as yX5_as cX5_as (some .int) := ⟨jm_d156, (by decide +kernel), jm_in (List.mem_of_getElem? (i := 951) (by decide +kernel)), rfl, (by decide +kernel), (by decide), (by decide +kernel)⟩
theorem jm_o157 : jm_ok jM_began yX5_began cX5_began none := ⟨jm_d157, (by decide +kernel), jm_in (List.mem_of_getElem? (i := 970) (by decide +kernel)), rfl, (by decide +kernel), (by decide), (by decide +kernel)⟩
theorem jm_o158 : jm_ok jM_plainSize yX5_plainSize cX5_plainSize (some .int) := ⟨jm_d158, (by decide +kernel), jm_in (List.mem_of_getElem? (i := 974) (by decide +kernel)), rfl, (by decide +kernel), (by decide), (by decide +kernel)⟩
theorem jm_o159 : jm_ok jM_tiedSize yX5_tiedSize cX5_tiedSize (some .int) := ⟨jm_d159, (by decide +kernel), jm_in (List.mem_of_getElem? (i := 966) (by decide +kernel)), rfl, (by decide +kernel), (by decide), (by decide +kernel)⟩
theorem jm_o160 : jm_ok jM_markOf yX5_markOf cX5_markOf (some .int) := ⟨jm_d160, (by decide +kernel), jm_in (List.mem_of_getElem? (i := 978) (by decide +kernel)), rfl, (by decide +kernel), (by decide), (by decide +kernel)⟩
theorem jm_o161 : jm_ok jM_sizeOf yX5_sizeOf cX5_sizeOf (some .int) := ⟨jm_d161, (by decide +kernel), jm_in (List.mem_of_getElem? (i := 962) (by decide +kernel)), rfl, (by decide +kernel), (by decide), (by decide +kernel)⟩
theorem jm_o162 : jm_ok jM_ask yX5_ask cX5_ask (some .int) := ⟨jm_d162, (by decide +kernel), jm_in (List.mem_of_getElem? (i := 958) (by decide +kernel)), rfl, (by decide +kernel), (by decide), (by decide +kernel)⟩
theorem jm_o163 : jm_ok jM_trace yX5_trace cX5_trace (some .int) := ⟨jm_d163, (by decide +kernel), jm_in (List.mem_of_getElem? (i := 982) (by decide +kernel)), rfl, (by decide +kernel), (by decide), (by decide +kernel)⟩
theorem jm_o164 : jm_ok jM_count yX5_count cX5_count (some .int) := ⟨jm_d164, (by decide +kernel), jm_in (List.mem_of_getElem? (i := 986) (by decide +kernel)), rfl, (by decide +kernel), (by decide), (by decide +kernel)⟩
theorem jm_o165 : jm_ok jM_status yX5_status cX5_status (some .int) := ⟨jm_d165, (by decide +kernel), jm_in (List.mem_of_getElem? (i := 990) (by decide +kernel)), rfl, (by decide +kernel), (by decide), (by decide +kernel)⟩
end
section
-- facts of the links
def jm_cvp (e : (Nat × Nat) × (jm_M × Nat)) : Prop := ∃ (y : MethodName) (cc : ByteArray) (ret : Option FieldType), jm_ok e.2.1 y cc ret ∧ (parseMethodDescriptor y.desc).map (fun d => d.parameters.length) = some e.2.2 ∧ Cond.instanceMethod y ∈ lw_tbl ∧ Cond.selects y.cls y y ∈ lw_tbl ∧ Cond.initialized y.cls ∈ lw_tbl ∧ (Cond.methodLink (jm_cn e.1.1) e.1.2 y ∈ lw_tbl ∨ ∃ host, Cond.methodLinkNest (jm_cn e.1.1) e.1.2 y host ∈ lw_tbl)
def jm_csp (e : (Nat × Nat) × (jm_M × Nat)) : Prop := ∃ (y : MethodName) (cc : ByteArray) (ret : Option FieldType), jm_ok e.2.1 y cc ret ∧ (parseMethodDescriptor y.desc).map (fun d => d.parameters.length) = some e.2.2 ∧ Cond.static y ∈ lw_tbl ∧ Cond.initialized y.cls ∈ lw_tbl ∧ Cond.methodLink (jm_cn e.1.1) e.1.2 y ∈ lw_tbl
def jm_flp (e : (Nat × Nat) × (Nat × Nat × Nat)) : Prop := ∃ (C : String) (T : u_T) (N : Nat) (ty0 : Nat → FieldType), vwCl[e.2.1]? = some (C, T, N) ∧ jm_nf e.2.1 = N ∧ e.2.2.1 < N ∧ (∀ w ∈ u_ws C T N, w ∈ lw_tbl) ∧ (∀ k, k < N → parseFieldDescriptor (T k).2.2.1 = some (ty0 k)) ∧ (∀ a, a < N → ∀ b, b < N → a ≠ b → (T a).2.1 ≠ (T b).2.1) ∧ (Cond.fieldLink (jm_cn e.1.1) e.1.2 (T e.2.2.1).1 (T e.2.2.1).2.1 (T e.2.2.1).2.2.1 ∈ lw_tbl ∨ ∃ host, Cond.fieldLinkNest (jm_cn e.1.1) e.1.2 (T e.2.2.1).1 (T e.2.2.1).2.1 (T e.2.2.1).2.2.1 host ∈ lw_tbl) ∧ (e.2.2.2 = 0 → (T e.2.2.1).2.2.2 = false ∧ parseFieldDescriptor (T e.2.2.1).2.2.1 = some .int) ∧ (e.2.2.2 = 1 → (T e.2.2.1).2.2.2 = false ∧ parseFieldDescriptor (T e.2.2.1).2.2.1 = some .boolean)
def jm_sn : Nat → String := fun k => match k with
  | 0 => "LEAST_TOLD"
  | 1 => "MOST_TOLD"
  | 2 => "KIND_ABOVE"
  | 3 => "SIZE_BODY"
  | _ => "MARK_BODY"
def jm_gsp (e : (Nat × Nat) × Nat) : Prop := e.2 < 5 ∧ (Cond.fieldLink (jm_cn e.1.1) e.1.2 "ShaftDiscs" (jm_sn e.2) "[I" ∈ lw_tbl ∨ ∃ host, Cond.fieldLinkNest (jm_cn e.1.1) e.1.2 "ShaftDiscs" (jm_sn e.2) "[I" host ∈ lw_tbl)
def jm_kip (e : (Nat × Nat) × Int32) : Prop := Cond.constant (jm_cn e.1.1) e.1.2 e.2 ∈ lw_tbl
def jm_klp (e : (Nat × Nat) × Int64) : Prop := Cond.constantLong (jm_cn e.1.1) e.1.2 e.2 ∈ lw_tbl
def jm_imp (e : (Nat × Nat) × Nat) : Prop :=
  (e.2 = 10 → Cond.methodLink (jm_cn e.1.1) e.1.2 Lib.Math.abs.name ∈ lw_tbl) ∧ (e.2 = 11 → Cond.methodLink (jm_cn e.1.1) e.1.2 Lib.Math.min.name ∈ lw_tbl) ∧ (e.2 = 12 → Cond.methodLink (jm_cn e.1.1) e.1.2 Lib.Math.max.name ∈ lw_tbl) ∧ (e.2 = 13 → Cond.methodLink (jm_cn e.1.1) e.1.2 arraycopyName ∈ lw_tbl)
theorem jm_cvk_0 : jm_cvp ((0, 25), (jA_forgetOldest, 0)) := ⟨yX0_forgetOldest, cX0_forgetOldest, none, jm_o2, (by decide +kernel), jm_in (List.mem_of_getElem? (i := 316) (by decide +kernel)), List.mem_append_left _ (List.mem_of_getElem? (i := 20) (by decide +kernel)), jm_in (List.mem_of_getElem? (i := 4) (by decide +kernel)), Or.inl (jm_in (List.mem_of_getElem? (i := 314) (by decide +kernel)))⟩
theorem jm_cvk_1 : jm_cvp ((0, 39), (jS_has, 1)) := ⟨yX2_has, cX2_has, (some .boolean), jm_o15, (by decide +kernel), jm_in (List.mem_of_getElem? (i := 292) (by decide +kernel)), List.mem_append_left _ (List.mem_of_getElem? (i := 16) (by decide +kernel)), jm_in (List.mem_of_getElem? (i := 3) (by decide +kernel)), Or.inr ⟨"ShaftDiscs", jm_in (List.mem_of_getElem? (i := 290) (by decide +kernel))⟩⟩
theorem jm_cvk_2 : jm_cvp ((0, 43), (jS_exchange, 2)) := ⟨yX2_exchange, cX2_exchange, none, jm_o17, (by decide +kernel), jm_in (List.mem_of_getElem? (i := 296) (by decide +kernel)), List.mem_append_left _ (List.mem_of_getElem? (i := 17) (by decide +kernel)), jm_in (List.mem_of_getElem? (i := 3) (by decide +kernel)), Or.inr ⟨"ShaftDiscs", jm_in (List.mem_of_getElem? (i := 294) (by decide +kernel))⟩⟩
theorem jm_cvk_3 : jm_cvp ((1, 31), (jR_readsLaw, 1)) := ⟨yX1_readsLaw, cX1_readsLaw, (some .boolean), jm_o6, (by decide +kernel), jm_in (List.mem_of_getElem? (i := 229) (by decide +kernel)), List.mem_append_left _ (List.mem_of_getElem? (i := 6) (by decide +kernel)), jm_in (List.mem_of_getElem? (i := 2) (by decide +kernel)), Or.inl (jm_in (List.mem_of_getElem? (i := 227) (by decide +kernel)))⟩
theorem jm_cvk_4 : jm_cvp ((1, 35), (jR_readsDiscs, 1)) := ⟨yX1_readsDiscs, cX1_readsDiscs, (some .boolean), jm_o7, (by decide +kernel), jm_in (List.mem_of_getElem? (i := 255) (by decide +kernel)), List.mem_append_left _ (List.mem_of_getElem? (i := 11) (by decide +kernel)), jm_in (List.mem_of_getElem? (i := 2) (by decide +kernel)), Or.inl (jm_in (List.mem_of_getElem? (i := 253) (by decide +kernel)))⟩
theorem jm_cvk_5 : jm_cvp ((1, 38), (jR_readsSign, 1)) := ⟨yX1_readsSign, cX1_readsSign, (some .boolean), jm_o9, (by decide +kernel), jm_in (List.mem_of_getElem? (i := 233) (by decide +kernel)), List.mem_append_left _ (List.mem_of_getElem? (i := 7) (by decide +kernel)), jm_in (List.mem_of_getElem? (i := 2) (by decide +kernel)), Or.inl (jm_in (List.mem_of_getElem? (i := 231) (by decide +kernel)))⟩
theorem jm_cvk_6 : jm_cvp ((1, 42), (jR_readsNumber, 2)) := ⟨yX1_readsNumber, cX1_readsNumber, (some .boolean), jm_o10, (by decide +kernel), jm_in (List.mem_of_getElem? (i := 245) (by decide +kernel)), List.mem_append_left _ (List.mem_of_getElem? (i := 10) (by decide +kernel)), jm_in (List.mem_of_getElem? (i := 2) (by decide +kernel)), Or.inl (jm_in (List.mem_of_getElem? (i := 243) (by decide +kernel)))⟩
theorem jm_cvk_7 : jm_cvp ((1, 60), (jR_byteAtHand, 0)) := ⟨yX1_byteAtHand, cX1_byteAtHand, (some .int), jm_o12, (by decide +kernel), jm_in (List.mem_of_getElem? (i := 237) (by decide +kernel)), List.mem_append_left _ (List.mem_of_getElem? (i := 8) (by decide +kernel)), jm_in (List.mem_of_getElem? (i := 2) (by decide +kernel)), Or.inl (jm_in (List.mem_of_getElem? (i := 235) (by decide +kernel)))⟩
theorem jm_cvk_8 : jm_cvp ((1, 68), (jR_blames, 1)) := ⟨yX1_blames, cX1_blames, (some .boolean), jm_o11, (by decide +kernel), jm_in (List.mem_of_getElem? (i := 241) (by decide +kernel)), List.mem_append_left _ (List.mem_of_getElem? (i := 9) (by decide +kernel)), jm_in (List.mem_of_getElem? (i := 2) (by decide +kernel)), Or.inl (jm_in (List.mem_of_getElem? (i := 239) (by decide +kernel)))⟩
theorem jm_cvk_9 : jm_cvp ((1, 75), (jR_readsNumbers, 2)) := ⟨yX1_readsNumbers, cX1_readsNumbers, (some .boolean), jm_o8, (by decide +kernel), jm_in (List.mem_of_getElem? (i := 262) (by decide +kernel)), List.mem_append_left _ (List.mem_of_getElem? (i := 12) (by decide +kernel)), jm_in (List.mem_of_getElem? (i := 2) (by decide +kernel)), Or.inl (jm_in (List.mem_of_getElem? (i := 260) (by decide +kernel)))⟩
theorem jm_cvk_10 : jm_cvp ((2, 29), (jS_ratioOf, 1)) := ⟨yX2_ratioOf, cX2_ratioOf, (some .int), jm_o19, (by decide +kernel), jm_in (List.mem_of_getElem? (i := 344) (by decide +kernel)), List.mem_append_left _ (List.mem_of_getElem? (i := 21) (by decide +kernel)), jm_in (List.mem_of_getElem? (i := 3) (by decide +kernel)), Or.inl (jm_in (List.mem_of_getElem? (i := 350) (by decide +kernel)))⟩
theorem jm_cvk_11 : jm_cvp ((3, 39), (jS_weightOf, 1)) := ⟨yX2_weightOf, cX2_weightOf, (some .int), jm_o20, (by decide +kernel), jm_in (List.mem_of_getElem? (i := 348) (by decide +kernel)), List.mem_append_left _ (List.mem_of_getElem? (i := 22) (by decide +kernel)), jm_in (List.mem_of_getElem? (i := 3) (by decide +kernel)), Or.inr ⟨"ShaftDiscs", jm_in (List.mem_of_getElem? (i := 369) (by decide +kernel))⟩⟩
theorem jm_cvk_12 : jm_cvp ((3, 43), (jS_springOf, 1)) := ⟨yX2_springOf, cX2_springOf, (some .int), jm_o21, (by decide +kernel), jm_in (List.mem_of_getElem? (i := 353) (by decide +kernel)), List.mem_append_left _ (List.mem_of_getElem? (i := 23) (by decide +kernel)), jm_in (List.mem_of_getElem? (i := 3) (by decide +kernel)), Or.inr ⟨"ShaftDiscs", jm_in (List.mem_of_getElem? (i := 370) (by decide +kernel))⟩⟩
theorem jm_cvk_13 : jm_cvp ((3, 46), (jS_tieOf, 1)) := ⟨yX2_tieOf, cX2_tieOf, (some .int), jm_o22, (by decide +kernel), jm_in (List.mem_of_getElem? (i := 357) (by decide +kernel)), List.mem_append_left _ (List.mem_of_getElem? (i := 24) (by decide +kernel)), jm_in (List.mem_of_getElem? (i := 3) (by decide +kernel)), Or.inr ⟨"ShaftDiscs", jm_in (List.mem_of_getElem? (i := 371) (by decide +kernel))⟩⟩
theorem jm_cvk_14 : jm_cvp ((3, 49), (jP_diagonal, 2)) := ⟨yX3_diagonal, cX3_diagonal, (some .long), jm_o25, (by decide +kernel), jm_in (List.mem_of_getElem? (i := 378) (by decide +kernel)), List.mem_append_left _ (List.mem_of_getElem? (i := 27) (by decide +kernel)), jm_in (List.mem_of_getElem? (i := 5) (by decide +kernel)), Or.inl (jm_in (List.mem_of_getElem? (i := 376) (by decide +kernel)))⟩
theorem jm_cvk_15 : jm_cvp ((3, 53), (jP_times, 2)) := ⟨yX3_times, cX3_times, (some .long), jm_o26, (by decide +kernel), jm_in (List.mem_of_getElem? (i := 382) (by decide +kernel)), List.mem_append_left _ (List.mem_of_getElem? (i := 28) (by decide +kernel)), jm_in (List.mem_of_getElem? (i := 5) (by decide +kernel)), Or.inl (jm_in (List.mem_of_getElem? (i := 380) (by decide +kernel)))⟩
theorem jm_cvk_16 : jm_cvp ((3, 57), (jP_less, 2)) := ⟨yX3_less, cX3_less, (some .long), jm_o27, (by decide +kernel), jm_in (List.mem_of_getElem? (i := 388) (by decide +kernel)), List.mem_append_left _ (List.mem_of_getElem? (i := 29) (by decide +kernel)), jm_in (List.mem_of_getElem? (i := 5) (by decide +kernel)), Or.inl (jm_in (List.mem_of_getElem? (i := 386) (by decide +kernel)))⟩
theorem jm_cvk_17 : jm_cvp ((3, 64), (jP_reaches, 2)) := ⟨yX3_reaches, cX3_reaches, (some .boolean), jm_o24, (by decide +kernel), jm_in (List.mem_of_getElem? (i := 374) (by decide +kernel)), List.mem_append_left _ (List.mem_of_getElem? (i := 26) (by decide +kernel)), jm_in (List.mem_of_getElem? (i := 5) (by decide +kernel)), Or.inl (jm_in (List.mem_of_getElem? (i := 398) (by decide +kernel)))⟩
theorem jm_cvk_18 : jm_cvp ((3, 69), (jP_belowAt, 1)) := ⟨yX3_belowAt, cX3_belowAt, (some .int), jm_o28, (by decide +kernel), jm_in (List.mem_of_getElem? (i := 396) (by decide +kernel)), List.mem_append_left _ (List.mem_of_getElem? (i := 30) (by decide +kernel)), jm_in (List.mem_of_getElem? (i := 5) (by decide +kernel)), Or.inl (jm_in (List.mem_of_getElem? (i := 413) (by decide +kernel)))⟩
theorem jm_cvk_19 : jm_cvp ((3, 73), (jP_boxOf, 1)) := ⟨yX3_boxOf, cX3_boxOf, (some .int), jm_o29, (by decide +kernel), jm_in (List.mem_of_getElem? (i := 411) (by decide +kernel)), List.mem_append_left _ (List.mem_of_getElem? (i := 32) (by decide +kernel)), jm_in (List.mem_of_getElem? (i := 5) (by decide +kernel)), Or.inl (jm_in (List.mem_of_getElem? (i := 423) (by decide +kernel)))⟩
theorem jm_cvk_20 : jm_cvp ((3, 76), (jP_gapAt, 1)) := ⟨yX3_gapAt, cX3_gapAt, (some .int), jm_o32, (by decide +kernel), jm_in (List.mem_of_getElem? (i := 430) (by decide +kernel)), List.mem_append_left _ (List.mem_of_getElem? (i := 35) (by decide +kernel)), jm_in (List.mem_of_getElem? (i := 5) (by decide +kernel)), Or.inl (jm_in (List.mem_of_getElem? (i := 428) (by decide +kernel)))⟩
theorem jm_cvk_21 : jm_cvp ((4, 76), (jD_found, 1)) := ⟨yX4_found, cX4_found, (some .int), jm_o88, (by decide +kernel), jm_in (List.mem_of_getElem? (i := 177) (by decide +kernel)), List.mem_append_left _ (List.mem_of_getElem? (i := 0) (by decide +kernel)), jm_in (List.mem_of_getElem? (i := 1) (by decide +kernel)), Or.inl (jm_in (List.mem_of_getElem? (i := 175) (by decide +kernel)))⟩
theorem jm_cvk_22 : jm_cvp ((4, 80), (jD_clean, 1)) := ⟨yX4_clean, cX4_clean, (some .int), jm_o89, (by decide +kernel), jm_in (List.mem_of_getElem? (i := 182) (by decide +kernel)), List.mem_append_left _ (List.mem_of_getElem? (i := 1) (by decide +kernel)), jm_in (List.mem_of_getElem? (i := 1) (by decide +kernel)), Or.inl (jm_in (List.mem_of_getElem? (i := 180) (by decide +kernel)))⟩
theorem jm_cvk_23 : jm_cvp ((4, 83), (jD_isMissing, 1)) := ⟨yX4_isMissing, cX4_isMissing, (some .boolean), jm_o39, (by decide +kernel), jm_in (List.mem_of_getElem? (i := 190) (by decide +kernel)), List.mem_append_left _ (List.mem_of_getElem? (i := 2) (by decide +kernel)), jm_in (List.mem_of_getElem? (i := 1) (by decide +kernel)), Or.inl (jm_in (List.mem_of_getElem? (i := 188) (by decide +kernel)))⟩
theorem jm_cvk_24 : jm_cvp ((4, 86), (jD_isWithin, 3)) := ⟨yX4_isWithin, cX4_isWithin, (some .boolean), jm_o40, (by decide +kernel), jm_in (List.mem_of_getElem? (i := 194) (by decide +kernel)), List.mem_append_left _ (List.mem_of_getElem? (i := 3) (by decide +kernel)), jm_in (List.mem_of_getElem? (i := 1) (by decide +kernel)), Or.inl (jm_in (List.mem_of_getElem? (i := 192) (by decide +kernel)))⟩
theorem jm_cvk_25 : jm_cvp ((4, 100), (jR_takes, 1)) := ⟨yX1_takes, cX1_takes, (some .boolean), jm_o4, (by decide +kernel), jm_in (List.mem_of_getElem? (i := 216) (by decide +kernel)), List.mem_append_left _ (List.mem_of_getElem? (i := 4) (by decide +kernel)), jm_in (List.mem_of_getElem? (i := 2) (by decide +kernel)), Or.inr ⟨"ShaftDiscs", jm_in (List.mem_of_getElem? (i := 214) (by decide +kernel))⟩⟩
theorem jm_cvk_26 : jm_cvp ((4, 107), (jR_reads, 1)) := ⟨yX1_reads, cX1_reads, (some .boolean), jm_o5, (by decide +kernel), jm_in (List.mem_of_getElem? (i := 225) (by decide +kernel)), List.mem_append_left _ (List.mem_of_getElem? (i := 5) (by decide +kernel)), jm_in (List.mem_of_getElem? (i := 2) (by decide +kernel)), Or.inr ⟨"ShaftDiscs", jm_in (List.mem_of_getElem? (i := 223) (by decide +kernel))⟩⟩
theorem jm_cvk_27 : jm_cvp ((4, 118), (jS_takeFrom, 1)) := ⟨yX2_takeFrom, cX2_takeFrom, none, jm_o16, (by decide +kernel), jm_in (List.mem_of_getElem? (i := 271) (by decide +kernel)), List.mem_append_left _ (List.mem_of_getElem? (i := 13) (by decide +kernel)), jm_in (List.mem_of_getElem? (i := 3) (by decide +kernel)), Or.inr ⟨"ShaftDiscs", jm_in (List.mem_of_getElem? (i := 269) (by decide +kernel))⟩⟩
theorem jm_cvk_28 : jm_cvp ((4, 122), (jA_forgetAll, 0)) := ⟨yX0_forgetAll, cX0_forgetAll, none, jm_o0, (by decide +kernel), jm_in (List.mem_of_getElem? (i := 276) (by decide +kernel)), List.mem_append_left _ (List.mem_of_getElem? (i := 14) (by decide +kernel)), jm_in (List.mem_of_getElem? (i := 4) (by decide +kernel)), Or.inr ⟨"ShaftDiscs", jm_in (List.mem_of_getElem? (i := 274) (by decide +kernel))⟩⟩
theorem jm_cvk_29 : jm_cvp ((4, 128), (jA_takeBack, 1)) := ⟨yX0_takeBack, cX0_takeBack, (some .boolean), jm_o3, (by decide +kernel), jm_in (List.mem_of_getElem? (i := 288) (by decide +kernel)), List.mem_append_left _ (List.mem_of_getElem? (i := 15) (by decide +kernel)), jm_in (List.mem_of_getElem? (i := 4) (by decide +kernel)), Or.inr ⟨"ShaftDiscs", jm_in (List.mem_of_getElem? (i := 286) (by decide +kernel))⟩⟩
theorem jm_cvk_30 : jm_cvp ((4, 133), (jS_has, 1)) := ⟨yX2_has, cX2_has, (some .boolean), jm_o15, (by decide +kernel), jm_in (List.mem_of_getElem? (i := 292) (by decide +kernel)), List.mem_append_left _ (List.mem_of_getElem? (i := 16) (by decide +kernel)), jm_in (List.mem_of_getElem? (i := 3) (by decide +kernel)), Or.inr ⟨"ShaftDiscs", jm_in (List.mem_of_getElem? (i := 303) (by decide +kernel))⟩⟩
theorem jm_cvk_31 : jm_cvp ((4, 142), (jD_put, 3)) := ⟨yX4_put, cX4_put, (some .int), jm_o51, (by decide +kernel), jm_in (List.mem_of_getElem? (i := 308) (by decide +kernel)), List.mem_append_left _ (List.mem_of_getElem? (i := 18) (by decide +kernel)), jm_in (List.mem_of_getElem? (i := 1) (by decide +kernel)), Or.inl (jm_in (List.mem_of_getElem? (i := 306) (by decide +kernel)))⟩
theorem jm_cvk_32 : jm_cvp ((4, 155), (jA_keep, 3)) := ⟨yX0_keep, cX0_keep, none, jm_o1, (by decide +kernel), jm_in (List.mem_of_getElem? (i := 312) (by decide +kernel)), List.mem_append_left _ (List.mem_of_getElem? (i := 19) (by decide +kernel)), jm_in (List.mem_of_getElem? (i := 4) (by decide +kernel)), Or.inr ⟨"ShaftDiscs", jm_in (List.mem_of_getElem? (i := 310) (by decide +kernel))⟩⟩
theorem jm_cvk_33 : jm_cvp ((4, 159), (jS_exchange, 2)) := ⟨yX2_exchange, cX2_exchange, none, jm_o17, (by decide +kernel), jm_in (List.mem_of_getElem? (i := 296) (by decide +kernel)), List.mem_append_left _ (List.mem_of_getElem? (i := 17) (by decide +kernel)), jm_in (List.mem_of_getElem? (i := 3) (by decide +kernel)), Or.inr ⟨"ShaftDiscs", jm_in (List.mem_of_getElem? (i := 334) (by decide +kernel))⟩⟩
theorem jm_cvk_34 : jm_cvp ((4, 168), (jS_ratioOf, 1)) := ⟨yX2_ratioOf, cX2_ratioOf, (some .int), jm_o19, (by decide +kernel), jm_in (List.mem_of_getElem? (i := 344) (by decide +kernel)), List.mem_append_left _ (List.mem_of_getElem? (i := 21) (by decide +kernel)), jm_in (List.mem_of_getElem? (i := 3) (by decide +kernel)), Or.inr ⟨"ShaftDiscs", jm_in (List.mem_of_getElem? (i := 342) (by decide +kernel))⟩⟩
theorem jm_cvk_35 : jm_cvp ((4, 171), (jS_weightOf, 1)) := ⟨yX2_weightOf, cX2_weightOf, (some .int), jm_o20, (by decide +kernel), jm_in (List.mem_of_getElem? (i := 348) (by decide +kernel)), List.mem_append_left _ (List.mem_of_getElem? (i := 22) (by decide +kernel)), jm_in (List.mem_of_getElem? (i := 3) (by decide +kernel)), Or.inr ⟨"ShaftDiscs", jm_in (List.mem_of_getElem? (i := 346) (by decide +kernel))⟩⟩
theorem jm_cvk_36 : jm_cvp ((4, 174), (jS_springOf, 1)) := ⟨yX2_springOf, cX2_springOf, (some .int), jm_o21, (by decide +kernel), jm_in (List.mem_of_getElem? (i := 353) (by decide +kernel)), List.mem_append_left _ (List.mem_of_getElem? (i := 23) (by decide +kernel)), jm_in (List.mem_of_getElem? (i := 3) (by decide +kernel)), Or.inr ⟨"ShaftDiscs", jm_in (List.mem_of_getElem? (i := 351) (by decide +kernel))⟩⟩
theorem jm_cvk_37 : jm_cvp ((4, 177), (jS_tieOf, 1)) := ⟨yX2_tieOf, cX2_tieOf, (some .int), jm_o22, (by decide +kernel), jm_in (List.mem_of_getElem? (i := 357) (by decide +kernel)), List.mem_append_left _ (List.mem_of_getElem? (i := 24) (by decide +kernel)), jm_in (List.mem_of_getElem? (i := 3) (by decide +kernel)), Or.inr ⟨"ShaftDiscs", jm_in (List.mem_of_getElem? (i := 355) (by decide +kernel))⟩⟩
theorem jm_cvk_38 : jm_cvp ((4, 184), (jP_measure, 1)) := ⟨yX3_measure, cX3_measure, none, jm_o23, (by decide +kernel), jm_in (List.mem_of_getElem? (i := 367) (by decide +kernel)), List.mem_append_left _ (List.mem_of_getElem? (i := 25) (by decide +kernel)), jm_in (List.mem_of_getElem? (i := 5) (by decide +kernel)), Or.inr ⟨"ShaftDiscs", jm_in (List.mem_of_getElem? (i := 365) (by decide +kernel))⟩⟩
theorem jm_cvk_39 : jm_cvp ((4, 187), (jP_reaches, 2)) := ⟨yX3_reaches, cX3_reaches, (some .boolean), jm_o24, (by decide +kernel), jm_in (List.mem_of_getElem? (i := 374) (by decide +kernel)), List.mem_append_left _ (List.mem_of_getElem? (i := 26) (by decide +kernel)), jm_in (List.mem_of_getElem? (i := 5) (by decide +kernel)), Or.inr ⟨"ShaftDiscs", jm_in (List.mem_of_getElem? (i := 372) (by decide +kernel))⟩⟩
theorem jm_cvk_40 : jm_cvp ((4, 195), (jP_belowAt, 1)) := ⟨yX3_belowAt, cX3_belowAt, (some .int), jm_o28, (by decide +kernel), jm_in (List.mem_of_getElem? (i := 396) (by decide +kernel)), List.mem_append_left _ (List.mem_of_getElem? (i := 30) (by decide +kernel)), jm_in (List.mem_of_getElem? (i := 5) (by decide +kernel)), Or.inr ⟨"ShaftDiscs", jm_in (List.mem_of_getElem? (i := 394) (by decide +kernel))⟩⟩
theorem jm_cvk_41 : jm_cvp ((4, 198), (jD_answered, 1)) := ⟨yX4_answered, cX4_answered, (some .int), jm_o90, (by decide +kernel), jm_in (List.mem_of_getElem? (i := 402) (by decide +kernel)), List.mem_append_left _ (List.mem_of_getElem? (i := 31) (by decide +kernel)), jm_in (List.mem_of_getElem? (i := 1) (by decide +kernel)), Or.inl (jm_in (List.mem_of_getElem? (i := 400) (by decide +kernel)))⟩
theorem jm_cvk_42 : jm_cvp ((4, 201), (jP_boxOf, 1)) := ⟨yX3_boxOf, cX3_boxOf, (some .int), jm_o29, (by decide +kernel), jm_in (List.mem_of_getElem? (i := 411) (by decide +kernel)), List.mem_append_left _ (List.mem_of_getElem? (i := 32) (by decide +kernel)), jm_in (List.mem_of_getElem? (i := 5) (by decide +kernel)), Or.inr ⟨"ShaftDiscs", jm_in (List.mem_of_getElem? (i := 409) (by decide +kernel))⟩⟩
theorem jm_cvk_43 : jm_cvp ((4, 204), (jP_boxesAll, 0)) := ⟨yX3_boxesAll, cX3_boxesAll, (some .boolean), jm_o30, (by decide +kernel), jm_in (List.mem_of_getElem? (i := 421) (by decide +kernel)), List.mem_append_left _ (List.mem_of_getElem? (i := 33) (by decide +kernel)), jm_in (List.mem_of_getElem? (i := 5) (by decide +kernel)), Or.inr ⟨"ShaftDiscs", jm_in (List.mem_of_getElem? (i := 419) (by decide +kernel))⟩⟩
theorem jm_cvk_44 : jm_cvp ((4, 208), (jP_widestGap, 0)) := ⟨yX3_widestGap, cX3_widestGap, (some .int), jm_o31, (by decide +kernel), jm_in (List.mem_of_getElem? (i := 426) (by decide +kernel)), List.mem_append_left _ (List.mem_of_getElem? (i := 34) (by decide +kernel)), jm_in (List.mem_of_getElem? (i := 5) (by decide +kernel)), Or.inr ⟨"ShaftDiscs", jm_in (List.mem_of_getElem? (i := 424) (by decide +kernel))⟩⟩
theorem jm_cvk_45 : jm_cvp ((4, 213), (jP_gapAt, 1)) := ⟨yX3_gapAt, cX3_gapAt, (some .int), jm_o32, (by decide +kernel), jm_in (List.mem_of_getElem? (i := 430) (by decide +kernel)), List.mem_append_left _ (List.mem_of_getElem? (i := 35) (by decide +kernel)), jm_in (List.mem_of_getElem? (i := 5) (by decide +kernel)), Or.inr ⟨"ShaftDiscs", jm_in (List.mem_of_getElem? (i := 433) (by decide +kernel))⟩⟩
theorem jm_cvk_46 : jm_cvp ((4, 216), (jP_isClearBy, 2)) := ⟨yX3_isClearBy, cX3_isClearBy, (some .boolean), jm_o33, (by decide +kernel), jm_in (List.mem_of_getElem? (i := 440) (by decide +kernel)), List.mem_append_left _ (List.mem_of_getElem? (i := 36) (by decide +kernel)), jm_in (List.mem_of_getElem? (i := 5) (by decide +kernel)), Or.inr ⟨"ShaftDiscs", jm_in (List.mem_of_getElem? (i := 438) (by decide +kernel))⟩⟩
theorem jm_cvk_47 : jm_cvp ((4, 219), (jD_belowMarkTried, 0)) := ⟨yX4_belowMarkTried, cX4_belowMarkTried, (some .int), jm_o67, (by decide +kernel), jm_in (List.mem_of_getElem? (i := 449) (by decide +kernel)), List.mem_append_left _ (List.mem_of_getElem? (i := 37) (by decide +kernel)), jm_in (List.mem_of_getElem? (i := 1) (by decide +kernel)), Or.inl (jm_in (List.mem_of_getElem? (i := 447) (by decide +kernel)))⟩
theorem jm_cvk_48 : jm_cvp ((4, 223), (jS_sumOf, 2)) := ⟨yX2_sumOf, cX2_sumOf, (some .int), jm_o18, (by decide +kernel), jm_in (List.mem_of_getElem? (i := 457) (by decide +kernel)), List.mem_append_left _ (List.mem_of_getElem? (i := 38) (by decide +kernel)), jm_in (List.mem_of_getElem? (i := 3) (by decide +kernel)), Or.inr ⟨"ShaftDiscs", jm_in (List.mem_of_getElem? (i := 455) (by decide +kernel))⟩⟩
theorem jm_cvk_49 : jm_cvp ((4, 226), (jD_turned, 2)) := ⟨yX4_turned, cX4_turned, (some .int), jm_o68, (by decide +kernel), jm_in (List.mem_of_getElem? (i := 469) (by decide +kernel)), List.mem_append_left _ (List.mem_of_getElem? (i := 39) (by decide +kernel)), jm_in (List.mem_of_getElem? (i := 1) (by decide +kernel)), Or.inl (jm_in (List.mem_of_getElem? (i := 467) (by decide +kernel)))⟩
theorem jm_cvk_50 : jm_cvp ((4, 230), (jD_bitsThatFit, 5)) := ⟨yX4_bitsThatFit, cX4_bitsThatFit, (some .int), jm_o69, (by decide +kernel), jm_in (List.mem_of_getElem? (i := 481) (by decide +kernel)), List.mem_append_left _ (List.mem_of_getElem? (i := 40) (by decide +kernel)), jm_in (List.mem_of_getElem? (i := 1) (by decide +kernel)), Or.inl (jm_in (List.mem_of_getElem? (i := 479) (by decide +kernel)))⟩
theorem jm_cvk_51 : jm_cvp ((4, 234), (jD_springsThatFit, 5)) := ⟨yX4_springsThatFit, cX4_springsThatFit, (some .int), jm_o70, (by decide +kernel), jm_in (List.mem_of_getElem? (i := 489) (by decide +kernel)), List.mem_append_left _ (List.mem_of_getElem? (i := 42) (by decide +kernel)), jm_in (List.mem_of_getElem? (i := 1) (by decide +kernel)), Or.inl (jm_in (List.mem_of_getElem? (i := 487) (by decide +kernel)))⟩
theorem jm_cvk_52 : jm_cvp ((4, 240), (jD_casesOf, 3)) := ⟨yX4_casesOf, cX4_casesOf, (some .long), jm_o72, (by decide +kernel), jm_in (List.mem_of_getElem? (i := 498) (by decide +kernel)), List.mem_append_left _ (List.mem_of_getElem? (i := 43) (by decide +kernel)), jm_in (List.mem_of_getElem? (i := 1) (by decide +kernel)), Or.inl (jm_in (List.mem_of_getElem? (i := 496) (by decide +kernel)))⟩
theorem jm_cvk_53 : jm_cvp ((4, 253), (jD_drawOne, 1)) := ⟨yX4_drawOne, cX4_drawOne, none, jm_o74, (by decide +kernel), jm_in (List.mem_of_getElem? (i := 512) (by decide +kernel)), List.mem_append_left _ (List.mem_of_getElem? (i := 44) (by decide +kernel)), jm_in (List.mem_of_getElem? (i := 1) (by decide +kernel)), Or.inl (jm_in (List.mem_of_getElem? (i := 510) (by decide +kernel)))⟩
theorem jm_cvk_54 : jm_cvp ((4, 260), (jD_imageAt, 1)) := ⟨yX4_imageAt, cX4_imageAt, (some (.object "ShaftDiscs$Shaft")), jm_o76, (by decide +kernel), jm_in (List.mem_of_getElem? (i := 528) (by decide +kernel)), List.mem_append_left _ (List.mem_of_getElem? (i := 45) (by decide +kernel)), jm_in (List.mem_of_getElem? (i := 1) (by decide +kernel)), Or.inl (jm_in (List.mem_of_getElem? (i := 526) (by decide +kernel)))⟩
theorem jm_cvk_55 : jm_cvp ((4, 270), (jD_triedBoxesAre, 3)) := ⟨yX4_triedBoxesAre, cX4_triedBoxesAre, (some .boolean), jm_o71, (by decide +kernel), jm_in (List.mem_of_getElem? (i := 485) (by decide +kernel)), List.mem_append_left _ (List.mem_of_getElem? (i := 41) (by decide +kernel)), jm_in (List.mem_of_getElem? (i := 1) (by decide +kernel)), Or.inl (jm_in (List.mem_of_getElem? (i := 483) (by decide +kernel)))⟩
theorem jm_cvk_56 : jm_cvp ((4, 286), (jD_asked, 3)) := ⟨yX4_asked, cX4_asked, (some .int), jm_o84, (by decide +kernel), jm_in (List.mem_of_getElem? (i := 553) (by decide +kernel)), List.mem_append_left _ (List.mem_of_getElem? (i := 46) (by decide +kernel)), jm_in (List.mem_of_getElem? (i := 1) (by decide +kernel)), Or.inl (jm_in (List.mem_of_getElem? (i := 551) (by decide +kernel)))⟩
theorem jm_cvk_57 : jm_cvp ((4, 289), (jD_rowsThatStand, 0)) := ⟨yX4_rowsThatStand, cX4_rowsThatStand, (some .int), jm_o87, (by decide +kernel), jm_in (List.mem_of_getElem? (i := 577) (by decide +kernel)), List.mem_append_left _ (List.mem_of_getElem? (i := 49) (by decide +kernel)), jm_in (List.mem_of_getElem? (i := 1) (by decide +kernel)), Or.inl (jm_in (List.mem_of_getElem? (i := 575) (by decide +kernel)))⟩
theorem jm_cvk_58 : jm_cvp ((4, 301), (jD_answerOf, 3)) := ⟨yX4_answerOf, cX4_answerOf, (some .int), jm_o85, (by decide +kernel), jm_in (List.mem_of_getElem? (i := 561) (by decide +kernel)), List.mem_append_left _ (List.mem_of_getElem? (i := 47) (by decide +kernel)), jm_in (List.mem_of_getElem? (i := 1) (by decide +kernel)), Or.inl (jm_in (List.mem_of_getElem? (i := 559) (by decide +kernel)))⟩
theorem jm_cvk_59 : jm_cvp ((4, 304), (jD_leaveTrace, 1)) := ⟨yX4_leaveTrace, cX4_leaveTrace, none, jm_o86, (by decide +kernel), jm_in (List.mem_of_getElem? (i := 565) (by decide +kernel)), List.mem_append_left _ (List.mem_of_getElem? (i := 48) (by decide +kernel)), jm_in (List.mem_of_getElem? (i := 1) (by decide +kernel)), Or.inl (jm_in (List.mem_of_getElem? (i := 563) (by decide +kernel)))⟩
theorem jm_cvk_60 : jm_cvp ((5, 72), (jM_finding, 1)) := ⟨yX5_finding, cX5_finding, (some .int), jm_o92, (by decide +kernel), jm_in (List.mem_of_getElem? (i := 684) (by decide +kernel)), List.mem_append_left _ (List.mem_of_getElem? (i := 50) (by decide +kernel)), jm_in (List.mem_of_getElem? (i := 6) (by decide +kernel)), Or.inl (jm_in (List.mem_of_getElem? (i := 682) (by decide +kernel)))⟩
theorem jm_cvk_61 : jm_cvp ((5, 109), (jM_bad, 1)) := ⟨yX5_bad, cX5_bad, none, jm_o99, (by decide +kernel), jm_in (List.mem_of_getElem? (i := 736) (by decide +kernel)), List.mem_append_left _ (List.mem_of_getElem? (i := 55) (by decide +kernel)), jm_in (List.mem_of_getElem? (i := 6) (by decide +kernel)), Or.inl (jm_in (List.mem_of_getElem? (i := 734) (by decide +kernel)))⟩
theorem jm_cvk_62 : jm_cvp ((5, 113), (jM_nextToken, 0)) := ⟨yX5_nextToken, cX5_nextToken, none, jm_o100, (by decide +kernel), jm_in (List.mem_of_getElem? (i := 719) (by decide +kernel)), List.mem_append_left _ (List.mem_of_getElem? (i := 52) (by decide +kernel)), jm_in (List.mem_of_getElem? (i := 6) (by decide +kernel)), Or.inl (jm_in (List.mem_of_getElem? (i := 717) (by decide +kernel)))⟩
theorem jm_cvk_63 : jm_cvp ((5, 116), (jM_must, 1)) := ⟨yX5_must, cX5_must, none, jm_o101, (by decide +kernel), jm_in (List.mem_of_getElem? (i := 732) (by decide +kernel)), List.mem_append_left _ (List.mem_of_getElem? (i := 54) (by decide +kernel)), jm_in (List.mem_of_getElem? (i := 6) (by decide +kernel)), Or.inl (jm_in (List.mem_of_getElem? (i := 730) (by decide +kernel)))⟩
theorem jm_cvk_64 : jm_cvp ((5, 126), (jM_number, 2)) := ⟨yX5_number, cX5_number, (some .int), jm_o103, (by decide +kernel), jm_in (List.mem_of_getElem? (i := 740) (by decide +kernel)), List.mem_append_left _ (List.mem_of_getElem? (i := 56) (by decide +kernel)), jm_in (List.mem_of_getElem? (i := 6) (by decide +kernel)), Or.inl (jm_in (List.mem_of_getElem? (i := 738) (by decide +kernel)))⟩
theorem jm_cvk_65 : jm_cvp ((5, 130), (jM_mustSign, 1)) := ⟨yX5_mustSign, cX5_mustSign, none, jm_o104, (by decide +kernel), jm_in (List.mem_of_getElem? (i := 744) (by decide +kernel)), List.mem_append_left _ (List.mem_of_getElem? (i := 57) (by decide +kernel)), jm_in (List.mem_of_getElem? (i := 6) (by decide +kernel)), Or.inl (jm_in (List.mem_of_getElem? (i := 742) (by decide +kernel)))⟩
theorem jm_cvk_66 : jm_cvp ((5, 133), (jM_begin, 0)) := ⟨yX5_begin, cX5_begin, none, jm_o105, (by decide +kernel), jm_in (List.mem_of_getElem? (i := 715) (by decide +kernel)), List.mem_append_left _ (List.mem_of_getElem? (i := 51) (by decide +kernel)), jm_in (List.mem_of_getElem? (i := 6) (by decide +kernel)), Or.inl (jm_in (List.mem_of_getElem? (i := 713) (by decide +kernel)))⟩
theorem jm_cvk_67 : jm_cvp ((5, 136), (jM_isLetter, 1)) := ⟨yX5_isLetter, cX5_isLetter, (some .boolean), jm_o102, (by decide +kernel), jm_in (List.mem_of_getElem? (i := 728) (by decide +kernel)), List.mem_append_left _ (List.mem_of_getElem? (i := 53) (by decide +kernel)), jm_in (List.mem_of_getElem? (i := 6) (by decide +kernel)), Or.inl (jm_in (List.mem_of_getElem? (i := 726) (by decide +kernel)))⟩
theorem jm_cvk_68 : jm_cvp ((5, 139), (jM_isSort, 0)) := ⟨yX5_isSort, cX5_isSort, (some .boolean), jm_o109, (by decide +kernel), jm_in (List.mem_of_getElem? (i := 748) (by decide +kernel)), List.mem_append_left _ (List.mem_of_getElem? (i := 58) (by decide +kernel)), jm_in (List.mem_of_getElem? (i := 6) (by decide +kernel)), Or.inl (jm_in (List.mem_of_getElem? (i := 746) (by decide +kernel)))⟩
theorem jm_cvk_69 : jm_cvp ((5, 143), (jM_readDisc, 0)) := ⟨yX5_readDisc, cX5_readDisc, none, jm_o110, (by decide +kernel), jm_in (List.mem_of_getElem? (i := 755) (by decide +kernel)), List.mem_append_left _ (List.mem_of_getElem? (i := 59) (by decide +kernel)), jm_in (List.mem_of_getElem? (i := 6) (by decide +kernel)), Or.inl (jm_in (List.mem_of_getElem? (i := 753) (by decide +kernel)))⟩
theorem jm_cvk_70 : jm_cvp ((5, 146), (jM_failed, 0)) := ⟨yX5_failed, cX5_failed, (some .boolean), jm_o106, (by decide +kernel), jm_in (List.mem_of_getElem? (i := 759) (by decide +kernel)), List.mem_append_left _ (List.mem_of_getElem? (i := 60) (by decide +kernel)), jm_in (List.mem_of_getElem? (i := 6) (by decide +kernel)), Or.inl (jm_in (List.mem_of_getElem? (i := 757) (by decide +kernel)))⟩
theorem jm_cvk_71 : jm_cvp ((5, 178), (jM_product, 2)) := ⟨yX5_product, cX5_product, (some .long), jm_o120, (by decide +kernel), jm_in (List.mem_of_getElem? (i := 830) (by decide +kernel)), List.mem_append_left _ (List.mem_of_getElem? (i := 65) (by decide +kernel)), jm_in (List.mem_of_getElem? (i := 6) (by decide +kernel)), Or.inl (jm_in (List.mem_of_getElem? (i := 828) (by decide +kernel)))⟩
theorem jm_cvk_72 : jm_cvp ((5, 182), (jM_difference, 2)) := ⟨yX5_difference, cX5_difference, (some .long), jm_o121, (by decide +kernel), jm_in (List.mem_of_getElem? (i := 836) (by decide +kernel)), List.mem_append_left _ (List.mem_of_getElem? (i := 66) (by decide +kernel)), jm_in (List.mem_of_getElem? (i := 6) (by decide +kernel)), Or.inl (jm_in (List.mem_of_getElem? (i := 834) (by decide +kernel)))⟩
theorem jm_cvk_73 : jm_cvp ((5, 185), (jM_reckon, 3)) := ⟨yX5_reckon, cX5_reckon, none, jm_o122, (by decide +kernel), jm_in (List.mem_of_getElem? (i := 826) (by decide +kernel)), List.mem_append_left _ (List.mem_of_getElem? (i := 64) (by decide +kernel)), jm_in (List.mem_of_getElem? (i := 6) (by decide +kernel)), Or.inl (jm_in (List.mem_of_getElem? (i := 824) (by decide +kernel)))⟩
theorem jm_cvk_74 : jm_cvp ((5, 189), (jM_belowOf, 2)) := ⟨yX5_belowOf, cX5_belowOf, (some .int), jm_o123, (by decide +kernel), jm_in (List.mem_of_getElem? (i := 844) (by decide +kernel)), List.mem_append_left _ (List.mem_of_getElem? (i := 67) (by decide +kernel)), jm_in (List.mem_of_getElem? (i := 6) (by decide +kernel)), Or.inl (jm_in (List.mem_of_getElem? (i := 842) (by decide +kernel)))⟩
theorem jm_cvk_75 : jm_cvp ((5, 192), (jM_boxOf, 2)) := ⟨yX5_boxOf, cX5_boxOf, (some .int), jm_o124, (by decide +kernel), jm_in (List.mem_of_getElem? (i := 856) (by decide +kernel)), List.mem_append_left _ (List.mem_of_getElem? (i := 69) (by decide +kernel)), jm_in (List.mem_of_getElem? (i := 6) (by decide +kernel)), Or.inl (jm_in (List.mem_of_getElem? (i := 854) (by decide +kernel)))⟩
theorem jm_cvk_76 : jm_cvp ((5, 201), (jM_isDisc, 1)) := ⟨yX5_isDisc, cX5_isDisc, (some .boolean), jm_o113, (by decide +kernel), jm_in (List.mem_of_getElem? (i := 771) (by decide +kernel)), List.mem_append_left _ (List.mem_of_getElem? (i := 61) (by decide +kernel)), jm_in (List.mem_of_getElem? (i := 6) (by decide +kernel)), Or.inl (jm_in (List.mem_of_getElem? (i := 769) (by decide +kernel)))⟩
theorem jm_cvk_77 : jm_cvp ((5, 204), (jM_keep, 0)) := ⟨yX5_keep, cX5_keep, none, jm_o127, (by decide +kernel), jm_in (List.mem_of_getElem? (i := 775) (by decide +kernel)), List.mem_append_left _ (List.mem_of_getElem? (i := 62) (by decide +kernel)), jm_in (List.mem_of_getElem? (i := 6) (by decide +kernel)), Or.inl (jm_in (List.mem_of_getElem? (i := 773) (by decide +kernel)))⟩
theorem jm_cvk_78 : jm_cvp ((5, 208), (jM_isThere, 0)) := ⟨yX5_isThere, cX5_isThere, (some .boolean), jm_o112, (by decide +kernel), jm_in (List.mem_of_getElem? (i := 791) (by decide +kernel)), List.mem_append_left _ (List.mem_of_getElem? (i := 63) (by decide +kernel)), jm_in (List.mem_of_getElem? (i := 6) (by decide +kernel)), Or.inl (jm_in (List.mem_of_getElem? (i := 789) (by decide +kernel)))⟩
theorem jm_cvk_79 : jm_cvp ((5, 217), (jM_unless, 1)) := ⟨yX5_unless, cX5_unless, (some .int), jm_o134, (by decide +kernel), jm_in (List.mem_of_getElem? (i := 848) (by decide +kernel)), List.mem_append_left _ (List.mem_of_getElem? (i := 68) (by decide +kernel)), jm_in (List.mem_of_getElem? (i := 6) (by decide +kernel)), Or.inl (jm_in (List.mem_of_getElem? (i := 846) (by decide +kernel)))⟩
theorem jm_cvk_80 : jm_cvp ((5, 220), (jM_layBoxes, 2)) := ⟨yX5_layBoxes, cX5_layBoxes, none, jm_o125, (by decide +kernel), jm_in (List.mem_of_getElem? (i := 864) (by decide +kernel)), List.mem_append_left _ (List.mem_of_getElem? (i := 70) (by decide +kernel)), jm_in (List.mem_of_getElem? (i := 6) (by decide +kernel)), Or.inl (jm_in (List.mem_of_getElem? (i := 862) (by decide +kernel)))⟩
theorem jm_cvk_81 : jm_cvp ((5, 224), (jM_isClear, 2)) := ⟨yX5_isClear, cX5_isClear, (some .boolean), jm_o139, (by decide +kernel), jm_in (List.mem_of_getElem? (i := 872) (by decide +kernel)), List.mem_append_left _ (List.mem_of_getElem? (i := 71) (by decide +kernel)), jm_in (List.mem_of_getElem? (i := 6) (by decide +kernel)), Or.inl (jm_in (List.mem_of_getElem? (i := 870) (by decide +kernel)))⟩
theorem jm_cvk_82 : jm_cvp ((5, 230), (jM_layThen, 0)) := ⟨yX5_layThen, cX5_layThen, none, jm_o126, (by decide +kernel), jm_in (List.mem_of_getElem? (i := 881) (by decide +kernel)), List.mem_append_left _ (List.mem_of_getElem? (i := 72) (by decide +kernel)), jm_in (List.mem_of_getElem? (i := 6) (by decide +kernel)), Or.inl (jm_in (List.mem_of_getElem? (i := 879) (by decide +kernel)))⟩
theorem jm_cvk_83 : jm_cvp ((5, 240), (jM_together, 1)) := ⟨yX5_together, cX5_together, (some .int), jm_o143, (by decide +kernel), jm_in (List.mem_of_getElem? (i := 898) (by decide +kernel)), List.mem_append_left _ (List.mem_of_getElem? (i := 73) (by decide +kernel)), jm_in (List.mem_of_getElem? (i := 6) (by decide +kernel)), Or.inl (jm_in (List.mem_of_getElem? (i := 896) (by decide +kernel)))⟩
theorem jm_cvk_84 : jm_cvp ((5, 245), (jM_afterTurns, 3)) := ⟨yX5_afterTurns, cX5_afterTurns, (some .int), jm_o145, (by decide +kernel), jm_in (List.mem_of_getElem? (i := 907) (by decide +kernel)), List.mem_append_left _ (List.mem_of_getElem? (i := 74) (by decide +kernel)), jm_in (List.mem_of_getElem? (i := 6) (by decide +kernel)), Or.inl (jm_in (List.mem_of_getElem? (i := 905) (by decide +kernel)))⟩
theorem jm_cvk_85 : jm_cvp ((5, 249), (jM_rowFound, 3)) := ⟨yX5_rowFound, cX5_rowFound, (some .int), jm_o147, (by decide +kernel), jm_in (List.mem_of_getElem? (i := 915) (by decide +kernel)), List.mem_append_left _ (List.mem_of_getElem? (i := 75) (by decide +kernel)), jm_in (List.mem_of_getElem? (i := 6) (by decide +kernel)), Or.inl (jm_in (List.mem_of_getElem? (i := 913) (by decide +kernel)))⟩
theorem jm_cvk_86 : jm_cvp ((5, 252), (jM_isBoxedSo, 2)) := ⟨yX5_isBoxedSo, cX5_isBoxedSo, (some .boolean), jm_o148, (by decide +kernel), jm_in (List.mem_of_getElem? (i := 919) (by decide +kernel)), List.mem_append_left _ (List.mem_of_getElem? (i := 76) (by decide +kernel)), jm_in (List.mem_of_getElem? (i := 6) (by decide +kernel)), Or.inl (jm_in (List.mem_of_getElem? (i := 917) (by decide +kernel)))⟩
theorem jm_cvk_87 : jm_cvp ((5, 275), (jM_began, 1)) := ⟨yX5_began, cX5_began, none, jm_o157, (by decide +kernel), jm_in (List.mem_of_getElem? (i := 969) (by decide +kernel)), List.mem_append_left _ (List.mem_of_getElem? (i := 79) (by decide +kernel)), jm_in (List.mem_of_getElem? (i := 6) (by decide +kernel)), Or.inl (jm_in (List.mem_of_getElem? (i := 967) (by decide +kernel)))⟩
theorem jm_cvk_88 : jm_cvp ((5, 278), (jM_plainSize, 1)) := ⟨yX5_plainSize, cX5_plainSize, (some .int), jm_o158, (by decide +kernel), jm_in (List.mem_of_getElem? (i := 973) (by decide +kernel)), List.mem_append_left _ (List.mem_of_getElem? (i := 80) (by decide +kernel)), jm_in (List.mem_of_getElem? (i := 6) (by decide +kernel)), Or.inl (jm_in (List.mem_of_getElem? (i := 971) (by decide +kernel)))⟩
theorem jm_cvk_89 : jm_cvp ((5, 281), (jM_tiedSize, 1)) := ⟨yX5_tiedSize, cX5_tiedSize, (some .int), jm_o159, (by decide +kernel), jm_in (List.mem_of_getElem? (i := 965) (by decide +kernel)), List.mem_append_left _ (List.mem_of_getElem? (i := 78) (by decide +kernel)), jm_in (List.mem_of_getElem? (i := 6) (by decide +kernel)), Or.inl (jm_in (List.mem_of_getElem? (i := 963) (by decide +kernel)))⟩
theorem jm_cvk_90 : jm_cvp ((5, 284), (jM_markOf, 1)) := ⟨yX5_markOf, cX5_markOf, (some .int), jm_o160, (by decide +kernel), jm_in (List.mem_of_getElem? (i := 977) (by decide +kernel)), List.mem_append_left _ (List.mem_of_getElem? (i := 81) (by decide +kernel)), jm_in (List.mem_of_getElem? (i := 6) (by decide +kernel)), Or.inl (jm_in (List.mem_of_getElem? (i := 975) (by decide +kernel)))⟩
theorem jm_cvk_91 : jm_cvp ((5, 287), (jM_sizeOf, 1)) := ⟨yX5_sizeOf, cX5_sizeOf, (some .int), jm_o161, (by decide +kernel), jm_in (List.mem_of_getElem? (i := 961) (by decide +kernel)), List.mem_append_left _ (List.mem_of_getElem? (i := 77) (by decide +kernel)), jm_in (List.mem_of_getElem? (i := 6) (by decide +kernel)), Or.inl (jm_in (List.mem_of_getElem? (i := 959) (by decide +kernel)))⟩
theorem jm_cvk : ∀ e ∈ jm_cvL, jm_cvp e := List.forall_mem_cons.mpr ⟨jm_cvk_0, List.forall_mem_cons.mpr ⟨jm_cvk_1, List.forall_mem_cons.mpr ⟨jm_cvk_2, List.forall_mem_cons.mpr ⟨jm_cvk_3, List.forall_mem_cons.mpr ⟨jm_cvk_4, List.forall_mem_cons.mpr ⟨jm_cvk_5, List.forall_mem_cons.mpr ⟨jm_cvk_6, List.forall_mem_cons.mpr ⟨jm_cvk_7, List.forall_mem_cons.mpr ⟨jm_cvk_8, List.forall_mem_cons.mpr ⟨jm_cvk_9, List.forall_mem_cons.mpr ⟨jm_cvk_10, List.forall_mem_cons.mpr ⟨jm_cvk_11, List.forall_mem_cons.mpr ⟨jm_cvk_12, List.forall_mem_cons.mpr ⟨jm_cvk_13, List.forall_mem_cons.mpr ⟨jm_cvk_14, List.forall_mem_cons.mpr ⟨jm_cvk_15, List.forall_mem_cons.mpr ⟨jm_cvk_16, List.forall_mem_cons.mpr ⟨jm_cvk_17, List.forall_mem_cons.mpr ⟨jm_cvk_18, List.forall_mem_cons.mpr ⟨jm_cvk_19, List.forall_mem_cons.mpr ⟨jm_cvk_20, List.forall_mem_cons.mpr ⟨jm_cvk_21, List.forall_mem_cons.mpr ⟨jm_cvk_22, List.forall_mem_cons.mpr ⟨jm_cvk_23, List.forall_mem_cons.mpr ⟨jm_cvk_24, List.forall_mem_cons.mpr ⟨jm_cvk_25, List.forall_mem_cons.mpr ⟨jm_cvk_26, List.forall_mem_cons.mpr ⟨jm_cvk_27, List.forall_mem_cons.mpr ⟨jm_cvk_28, List.forall_mem_cons.mpr ⟨jm_cvk_29, List.forall_mem_cons.mpr ⟨jm_cvk_30, List.forall_mem_cons.mpr ⟨jm_cvk_31, List.forall_mem_cons.mpr ⟨jm_cvk_32, List.forall_mem_cons.mpr ⟨jm_cvk_33, List.forall_mem_cons.mpr ⟨jm_cvk_34, List.forall_mem_cons.mpr ⟨jm_cvk_35, List.forall_mem_cons.mpr ⟨jm_cvk_36, List.forall_mem_cons.mpr ⟨jm_cvk_37, List.forall_mem_cons.mpr ⟨jm_cvk_38, List.forall_mem_cons.mpr ⟨jm_cvk_39, List.forall_mem_cons.mpr ⟨jm_cvk_40, List.forall_mem_cons.mpr ⟨jm_cvk_41, List.forall_mem_cons.mpr ⟨jm_cvk_42, List.forall_mem_cons.mpr ⟨jm_cvk_43, List.forall_mem_cons.mpr ⟨jm_cvk_44, List.forall_mem_cons.mpr ⟨jm_cvk_45, List.forall_mem_cons.mpr ⟨jm_cvk_46, List.forall_mem_cons.mpr ⟨jm_cvk_47, List.forall_mem_cons.mpr ⟨jm_cvk_48, List.forall_mem_cons.mpr ⟨jm_cvk_49, List.forall_mem_cons.mpr ⟨jm_cvk_50, List.forall_mem_cons.mpr ⟨jm_cvk_51, List.forall_mem_cons.mpr ⟨jm_cvk_52, List.forall_mem_cons.mpr ⟨jm_cvk_53, List.forall_mem_cons.mpr ⟨jm_cvk_54, List.forall_mem_cons.mpr ⟨jm_cvk_55, List.forall_mem_cons.mpr ⟨jm_cvk_56, List.forall_mem_cons.mpr ⟨jm_cvk_57, List.forall_mem_cons.mpr ⟨jm_cvk_58, List.forall_mem_cons.mpr ⟨jm_cvk_59, List.forall_mem_cons.mpr ⟨jm_cvk_60, List.forall_mem_cons.mpr ⟨jm_cvk_61, List.forall_mem_cons.mpr ⟨jm_cvk_62, List.forall_mem_cons.mpr ⟨jm_cvk_63, List.forall_mem_cons.mpr ⟨jm_cvk_64, List.forall_mem_cons.mpr ⟨jm_cvk_65, List.forall_mem_cons.mpr ⟨jm_cvk_66, List.forall_mem_cons.mpr ⟨jm_cvk_67, List.forall_mem_cons.mpr ⟨jm_cvk_68, List.forall_mem_cons.mpr ⟨jm_cvk_69, List.forall_mem_cons.mpr ⟨jm_cvk_70, List.forall_mem_cons.mpr ⟨jm_cvk_71, List.forall_mem_cons.mpr ⟨jm_cvk_72, List.forall_mem_cons.mpr ⟨jm_cvk_73, List.forall_mem_cons.mpr ⟨jm_cvk_74, List.forall_mem_cons.mpr ⟨jm_cvk_75, List.forall_mem_cons.mpr ⟨jm_cvk_76, List.forall_mem_cons.mpr ⟨jm_cvk_77, List.forall_mem_cons.mpr ⟨jm_cvk_78, List.forall_mem_cons.mpr ⟨jm_cvk_79, List.forall_mem_cons.mpr ⟨jm_cvk_80, List.forall_mem_cons.mpr ⟨jm_cvk_81, List.forall_mem_cons.mpr ⟨jm_cvk_82, List.forall_mem_cons.mpr ⟨jm_cvk_83, List.forall_mem_cons.mpr ⟨jm_cvk_84, List.forall_mem_cons.mpr ⟨jm_cvk_85, List.forall_mem_cons.mpr ⟨jm_cvk_86, List.forall_mem_cons.mpr ⟨jm_cvk_87, List.forall_mem_cons.mpr ⟨jm_cvk_88, List.forall_mem_cons.mpr ⟨jm_cvk_89, List.forall_mem_cons.mpr ⟨jm_cvk_90, List.forall_mem_cons.mpr ⟨jm_cvk_91, fun _ h => absurd h List.not_mem_nil⟩⟩⟩⟩⟩⟩⟩⟩⟩⟩⟩⟩⟩⟩⟩⟩⟩⟩⟩⟩⟩⟩⟩⟩⟩⟩⟩⟩⟩⟩⟩⟩⟩⟩⟩⟩⟩⟩⟩⟩⟩⟩⟩⟩⟩⟩⟩⟩⟩⟩⟩⟩⟩⟩⟩⟩⟩⟩⟩⟩⟩⟩⟩⟩⟩⟩⟩⟩⟩⟩⟩⟩⟩⟩⟩⟩⟩⟩⟩⟩⟩⟩⟩⟩⟩⟩⟩⟩⟩⟩⟩⟩
theorem jm_csk_0 : jm_csp ((1, 64), (jR_kindOf, 1)) := ⟨yX1_kindOf, cX1_kindOf, (some .int), jm_o14, (by decide +kernel), jm_in (List.mem_of_getElem? (i := 258) (by decide +kernel)), jm_in (List.mem_of_getElem? (i := 2) (by decide +kernel)), jm_in (List.mem_of_getElem? (i := 257) (by decide +kernel))⟩
theorem jm_csk_1 : jm_csp ((1, 85), (jR_isFigure, 1)) := ⟨yX1_isFigure, cX1_isFigure, (some .boolean), jm_o13, (by decide +kernel), jm_in (List.mem_of_getElem? (i := 248) (by decide +kernel)), jm_in (List.mem_of_getElem? (i := 2) (by decide +kernel)), jm_in (List.mem_of_getElem? (i := 247) (by decide +kernel))⟩
theorem jm_csk_2 : jm_csp ((4, 71), (jD_isRow, 1)) := ⟨yX4_isRow, cX4_isRow, (some .boolean), jm_o38, (by decide +kernel), jm_in (List.mem_of_getElem? (i := 172) (by decide +kernel)), jm_in (List.mem_of_getElem? (i := 1) (by decide +kernel)), jm_in (List.mem_of_getElem? (i := 171) (by decide +kernel))⟩
theorem jm_csk_3 : jm_csp ((4, 90), (jD_narrowed, 2)) := ⟨yX4_narrowed, cX4_narrowed, (some .int), jm_o41, (by decide +kernel), jm_in (List.mem_of_getElem? (i := 197) (by decide +kernel)), jm_in (List.mem_of_getElem? (i := 1) (by decide +kernel)), jm_in (List.mem_of_getElem? (i := 196) (by decide +kernel))⟩
theorem jm_csk_4 : jm_csp ((4, 149), (jD_isMark, 1)) := ⟨yX4_isMark, cX4_isMark, (some .boolean), jm_o52, (by decide +kernel), jm_in (List.mem_of_getElem? (i := 328) (by decide +kernel)), jm_in (List.mem_of_getElem? (i := 1) (by decide +kernel)), jm_in (List.mem_of_getElem? (i := 327) (by decide +kernel))⟩
theorem jm_csk_5 : jm_csp ((4, 244), (jD_commonDivisor, 2)) := ⟨yX4_commonDivisor, cX4_commonDivisor, (some .long), jm_o73, (by decide +kernel), jm_in (List.mem_of_getElem? (i := 501) (by decide +kernel)), jm_in (List.mem_of_getElem? (i := 1) (by decide +kernel)), jm_in (List.mem_of_getElem? (i := 500) (by decide +kernel))⟩
theorem jm_csk_6 : jm_csp ((4, 257), (jD_isImage, 1)) := ⟨yX4_isImage, cX4_isImage, (some .boolean), jm_o75, (by decide +kernel), jm_in (List.mem_of_getElem? (i := 524) (by decide +kernel)), jm_in (List.mem_of_getElem? (i := 1) (by decide +kernel)), jm_in (List.mem_of_getElem? (i := 523) (by decide +kernel))⟩
theorem jm_csk_7 : jm_csp ((4, 283), (jD_isOfKind, 2)) := ⟨yX4_isOfKind, cX4_isOfKind, (some .boolean), jm_o83, (by decide +kernel), jm_in (List.mem_of_getElem? (i := 543) (by decide +kernel)), jm_in (List.mem_of_getElem? (i := 1) (by decide +kernel)), jm_in (List.mem_of_getElem? (i := 542) (by decide +kernel))⟩
theorem jm_csk_8 : jm_csp ((5, 61), (jM_in, 3)) := ⟨yX5_in, cX5_in, (some .boolean), jm_o91, (by decide +kernel), jm_in (List.mem_of_getElem? (i := 678) (by decide +kernel)), jm_in (List.mem_of_getElem? (i := 6) (by decide +kernel)), jm_in (List.mem_of_getElem? (i := 677) (by decide +kernel))⟩
theorem jm_csk_9 : jm_csp ((5, 65), (jM_isRow, 1)) := ⟨yX5_isRow, cX5_isRow, (some .boolean), jm_o93, (by decide +kernel), jm_in (List.mem_of_getElem? (i := 674) (by decide +kernel)), jm_in (List.mem_of_getElem? (i := 6) (by decide +kernel)), jm_in (List.mem_of_getElem? (i := 673) (by decide +kernel))⟩
theorem jm_csk_10 : jm_csp ((5, 123), (jM_kindBy, 1)) := ⟨yX5_kindBy, cX5_kindBy, (some .int), jm_o108, (by decide +kernel), jm_in (List.mem_of_getElem? (i := 751) (by decide +kernel)), jm_in (List.mem_of_getElem? (i := 6) (by decide +kernel)), jm_in (List.mem_of_getElem? (i := 750) (by decide +kernel))⟩
theorem jm_csk_11 : jm_csp ((5, 153), (jM_of, 3)) := ⟨yX5_of, cX5_of, (some .int), jm_o115, (by decide +kernel), jm_in (List.mem_of_getElem? (i := 778) (by decide +kernel)), jm_in (List.mem_of_getElem? (i := 6) (by decide +kernel)), jm_in (List.mem_of_getElem? (i := 777) (by decide +kernel))⟩
theorem jm_csk_12 : jm_csp ((5, 157), (jM_ratio, 2)) := ⟨yX5_ratio, cX5_ratio, (some .int), jm_o116, (by decide +kernel), jm_in (List.mem_of_getElem? (i := 807) (by decide +kernel)), jm_in (List.mem_of_getElem? (i := 6) (by decide +kernel)), jm_in (List.mem_of_getElem? (i := 806) (by decide +kernel))⟩
theorem jm_csk_13 : jm_csp ((5, 169), (jM_spring, 2)) := ⟨yX5_spring, cX5_spring, (some .int), jm_o118, (by decide +kernel), jm_in (List.mem_of_getElem? (i := 813) (by decide +kernel)), jm_in (List.mem_of_getElem? (i := 6) (by decide +kernel)), jm_in (List.mem_of_getElem? (i := 812) (by decide +kernel))⟩
theorem jm_csk_14 : jm_csp ((5, 172), (jM_tie, 2)) := ⟨yX5_tie, cX5_tie, (some .int), jm_o119, (by decide +kernel), jm_in (List.mem_of_getElem? (i := 816) (by decide +kernel)), jm_in (List.mem_of_getElem? (i := 6) (by decide +kernel)), jm_in (List.mem_of_getElem? (i := 815) (by decide +kernel))⟩
theorem jm_csk_15 : jm_csp ((5, 175), (jM_weight, 2)) := ⟨yX5_weight, cX5_weight, (some .int), jm_o117, (by decide +kernel), jm_in (List.mem_of_getElem? (i := 810) (by decide +kernel)), jm_in (List.mem_of_getElem? (i := 6) (by decide +kernel)), jm_in (List.mem_of_getElem? (i := 809) (by decide +kernel))⟩
theorem jm_csk_16 : jm_csp ((5, 235), (jM_has, 2)) := ⟨yX5_has, cX5_has, (some .boolean), jm_o114, (by decide +kernel), jm_in (List.mem_of_getElem? (i := 889) (by decide +kernel)), jm_in (List.mem_of_getElem? (i := 6) (by decide +kernel)), jm_in (List.mem_of_getElem? (i := 888) (by decide +kernel))⟩
theorem jm_csk_17 : jm_csp ((5, 269), (jM_isOf, 2)) := ⟨yX5_isOf, cX5_isOf, (some .boolean), jm_o154, (by decide +kernel), jm_in (List.mem_of_getElem? (i := 953) (by decide +kernel)), jm_in (List.mem_of_getElem? (i := 6) (by decide +kernel)), jm_in (List.mem_of_getElem? (i := 952) (by decide +kernel))⟩
theorem jm_csk : ∀ e ∈ jm_csL, jm_csp e := List.forall_mem_cons.mpr ⟨jm_csk_0, List.forall_mem_cons.mpr ⟨jm_csk_1, List.forall_mem_cons.mpr ⟨jm_csk_2, List.forall_mem_cons.mpr ⟨jm_csk_3, List.forall_mem_cons.mpr ⟨jm_csk_4, List.forall_mem_cons.mpr ⟨jm_csk_5, List.forall_mem_cons.mpr ⟨jm_csk_6, List.forall_mem_cons.mpr ⟨jm_csk_7, List.forall_mem_cons.mpr ⟨jm_csk_8, List.forall_mem_cons.mpr ⟨jm_csk_9, List.forall_mem_cons.mpr ⟨jm_csk_10, List.forall_mem_cons.mpr ⟨jm_csk_11, List.forall_mem_cons.mpr ⟨jm_csk_12, List.forall_mem_cons.mpr ⟨jm_csk_13, List.forall_mem_cons.mpr ⟨jm_csk_14, List.forall_mem_cons.mpr ⟨jm_csk_15, List.forall_mem_cons.mpr ⟨jm_csk_16, List.forall_mem_cons.mpr ⟨jm_csk_17, fun _ h => absurd h List.not_mem_nil⟩⟩⟩⟩⟩⟩⟩⟩⟩⟩⟩⟩⟩⟩⟩⟩⟩⟩
theorem jm_flk_0 : jm_flp ((0, 9), (0, 0, 2)) := ⟨RX0, TX0, 4, tyX0, rfl, rfl, (by decide), inX0, tyX0_ok, nmX0, Or.inl (jm_in (List.mem_of_getElem? (i := 80) (by decide +kernel))), (fun h => by cases h), (fun h => by cases h)⟩
theorem jm_flk_1 : jm_flp ((0, 15), (0, 1, 2)) := ⟨RX0, TX0, 4, tyX0, rfl, rfl, (by decide), inX0, tyX0_ok, nmX0, Or.inl (jm_in (List.mem_of_getElem? (i := 81) (by decide +kernel))), (fun h => by cases h), (fun h => by cases h)⟩
theorem jm_flk_2 : jm_flp ((0, 18), (0, 2, 2)) := ⟨RX0, TX0, 4, tyX0, rfl, rfl, (by decide), inX0, tyX0_ok, nmX0, Or.inl (jm_in (List.mem_of_getElem? (i := 82) (by decide +kernel))), (fun h => by cases h), (fun h => by cases h)⟩
theorem jm_flk_3 : jm_flp ((0, 21), (0, 3, 0)) := ⟨RX0, TX0, 4, tyX0, rfl, rfl, (by decide), inX0, tyX0_ok, nmX0, Or.inl (jm_in (List.mem_of_getElem? (i := 83) (by decide +kernel))), (fun _ => ⟨rfl, by decide +kernel⟩), (fun h => by cases h)⟩
theorem jm_flk_4 : jm_flp ((0, 47), (2, 0, 2)) := ⟨RX2, TX2, 3, tyX2, rfl, rfl, (by decide), inX2, tyX2_ok, nmX2, Or.inr ⟨"ShaftDiscs", jm_in (List.mem_of_getElem? (i := 57) (by decide +kernel))⟩, (fun h => by cases h), (fun h => by cases h)⟩
theorem jm_flk_5 : jm_flp ((1, 9), (1, 0, 2)) := ⟨RX1, TX1, 6, tyX1, rfl, rfl, (by decide), inX1, tyX1_ok, nmX1, Or.inl (jm_in (List.mem_of_getElem? (i := 25) (by decide +kernel))), (fun h => by cases h), (fun h => by cases h)⟩
theorem jm_flk_6 : jm_flp ((1, 15), (1, 1, 0)) := ⟨RX1, TX1, 6, tyX1, rfl, rfl, (by decide), inX1, tyX1_ok, nmX1, Or.inl (jm_in (List.mem_of_getElem? (i := 26) (by decide +kernel))), (fun _ => ⟨rfl, by decide +kernel⟩), (fun h => by cases h)⟩
theorem jm_flk_7 : jm_flp ((1, 19), (1, 2, 0)) := ⟨RX1, TX1, 6, tyX1, rfl, rfl, (by decide), inX1, tyX1_ok, nmX1, Or.inl (jm_in (List.mem_of_getElem? (i := 28) (by decide +kernel))), (fun _ => ⟨rfl, by decide +kernel⟩), (fun h => by cases h)⟩
theorem jm_flk_8 : jm_flp ((1, 22), (1, 3, 0)) := ⟨RX1, TX1, 6, tyX1, rfl, rfl, (by decide), inX1, tyX1_ok, nmX1, Or.inl (jm_in (List.mem_of_getElem? (i := 29) (by decide +kernel))), (fun _ => ⟨rfl, by decide +kernel⟩), (fun h => by cases h)⟩
theorem jm_flk_9 : jm_flp ((1, 71), (2, 0, 2)) := ⟨RX2, TX2, 3, tyX2, rfl, rfl, (by decide), inX2, tyX2_ok, nmX2, Or.inr ⟨"ShaftDiscs", jm_in (List.mem_of_getElem? (i := 56) (by decide +kernel))⟩, (fun h => by cases h), (fun h => by cases h)⟩
theorem jm_flk_10 : jm_flp ((2, 11), (2, 0, 2)) := ⟨RX2, TX2, 3, tyX2, rfl, rfl, (by decide), inX2, tyX2_ok, nmX2, Or.inl (jm_in (List.mem_of_getElem? (i := 55) (by decide +kernel))), (fun h => by cases h), (fun h => by cases h)⟩
theorem jm_flk_11 : jm_flp ((2, 16), (2, 1, 0)) := ⟨RX2, TX2, 3, tyX2, rfl, rfl, (by decide), inX2, tyX2_ok, nmX2, Or.inl (jm_in (List.mem_of_getElem? (i := 59) (by decide +kernel))), (fun _ => ⟨rfl, by decide +kernel⟩), (fun h => by cases h)⟩
theorem jm_flk_12 : jm_flp ((2, 20), (2, 2, 0)) := ⟨RX2, TX2, 3, tyX2, rfl, rfl, (by decide), inX2, tyX2_ok, nmX2, Or.inl (jm_in (List.mem_of_getElem? (i := 63) (by decide +kernel))), (fun _ => ⟨rfl, by decide +kernel⟩), (fun h => by cases h)⟩
theorem jm_flk_13 : jm_flp ((3, 9), (3, 0, 2)) := ⟨RX3, TX3, 7, tyX3, rfl, rfl, (by decide), inX3, tyX3_ok, nmX3, Or.inl (jm_in (List.mem_of_getElem? (i := 100) (by decide +kernel))), (fun h => by cases h), (fun h => by cases h)⟩
theorem jm_flk_14 : jm_flp ((3, 15), (3, 1, 2)) := ⟨RX3, TX3, 7, tyX3, rfl, rfl, (by decide), inX3, tyX3_ok, nmX3, Or.inl (jm_in (List.mem_of_getElem? (i := 101) (by decide +kernel))), (fun h => by cases h), (fun h => by cases h)⟩
theorem jm_flk_15 : jm_flp ((3, 18), (3, 2, 2)) := ⟨RX3, TX3, 7, tyX3, rfl, rfl, (by decide), inX3, tyX3_ok, nmX3, Or.inl (jm_in (List.mem_of_getElem? (i := 102) (by decide +kernel))), (fun h => by cases h), (fun h => by cases h)⟩
theorem jm_flk_16 : jm_flp ((3, 21), (3, 3, 2)) := ⟨RX3, TX3, 7, tyX3, rfl, rfl, (by decide), inX3, tyX3_ok, nmX3, Or.inl (jm_in (List.mem_of_getElem? (i := 103) (by decide +kernel))), (fun h => by cases h), (fun h => by cases h)⟩
theorem jm_flk_17 : jm_flp ((3, 24), (3, 4, 2)) := ⟨RX3, TX3, 7, tyX3, rfl, rfl, (by decide), inX3, tyX3_ok, nmX3, Or.inl (jm_in (List.mem_of_getElem? (i := 105) (by decide +kernel))), (fun h => by cases h), (fun h => by cases h)⟩
theorem jm_flk_18 : jm_flp ((3, 28), (3, 5, 0)) := ⟨RX3, TX3, 7, tyX3, rfl, rfl, (by decide), inX3, tyX3_ok, nmX3, Or.inl (jm_in (List.mem_of_getElem? (i := 106) (by decide +kernel))), (fun _ => ⟨rfl, by decide +kernel⟩), (fun h => by cases h)⟩
theorem jm_flk_19 : jm_flp ((3, 32), (3, 6, 1)) := ⟨RX3, TX3, 7, tyX3, rfl, rfl, (by decide), inX3, tyX3_ok, nmX3, Or.inl (jm_in (List.mem_of_getElem? (i := 107) (by decide +kernel))), (fun h => by cases h), (fun _ => ⟨rfl, by decide +kernel⟩)⟩
theorem jm_flk_20 : jm_flp ((3, 36), (2, 1, 0)) := ⟨RX2, TX2, 3, tyX2, rfl, rfl, (by decide), inX2, tyX2_ok, nmX2, Or.inr ⟨"ShaftDiscs", jm_in (List.mem_of_getElem? (i := 60) (by decide +kernel))⟩, (fun _ => ⟨rfl, by decide +kernel⟩), (fun h => by cases h)⟩
theorem jm_flk_21 : jm_flp ((4, 9), (4, 0, 2)) := ⟨RX4, TX4, 14, tyX4, rfl, rfl, (by decide), inX4, tyX4_ok, nmX4, Or.inl (jm_in (List.mem_of_getElem? (i := 124) (by decide +kernel))), (fun h => by cases h), (fun h => by cases h)⟩
theorem jm_flk_22 : jm_flp ((4, 13), (4, 1, 2)) := ⟨RX4, TX4, 14, tyX4, rfl, rfl, (by decide), inX4, tyX4_ok, nmX4, Or.inl (jm_in (List.mem_of_getElem? (i := 125) (by decide +kernel))), (fun h => by cases h), (fun h => by cases h)⟩
theorem jm_flk_23 : jm_flp ((4, 18), (4, 2, 2)) := ⟨RX4, TX4, 14, tyX4, rfl, rfl, (by decide), inX4, tyX4_ok, nmX4, Or.inl (jm_in (List.mem_of_getElem? (i := 126) (by decide +kernel))), (fun h => by cases h), (fun h => by cases h)⟩
theorem jm_flk_24 : jm_flp ((4, 24), (4, 3, 2)) := ⟨RX4, TX4, 14, tyX4, rfl, rfl, (by decide), inX4, tyX4_ok, nmX4, Or.inl (jm_in (List.mem_of_getElem? (i := 127) (by decide +kernel))), (fun h => by cases h), (fun h => by cases h)⟩
theorem jm_flk_25 : jm_flp ((4, 31), (4, 4, 2)) := ⟨RX4, TX4, 14, tyX4, rfl, rfl, (by decide), inX4, tyX4_ok, nmX4, Or.inl (jm_in (List.mem_of_getElem? (i := 128) (by decide +kernel))), (fun h => by cases h), (fun h => by cases h)⟩
theorem jm_flk_26 : jm_flp ((4, 35), (4, 5, 2)) := ⟨RX4, TX4, 14, tyX4, rfl, rfl, (by decide), inX4, tyX4_ok, nmX4, Or.inl (jm_in (List.mem_of_getElem? (i := 129) (by decide +kernel))), (fun h => by cases h), (fun h => by cases h)⟩
theorem jm_flk_27 : jm_flp ((4, 38), (4, 6, 2)) := ⟨RX4, TX4, 14, tyX4, rfl, rfl, (by decide), inX4, tyX4_ok, nmX4, Or.inl (jm_in (List.mem_of_getElem? (i := 130) (by decide +kernel))), (fun h => by cases h), (fun h => by cases h)⟩
theorem jm_flk_28 : jm_flp ((4, 41), (4, 7, 2)) := ⟨RX4, TX4, 14, tyX4, rfl, rfl, (by decide), inX4, tyX4_ok, nmX4, Or.inl (jm_in (List.mem_of_getElem? (i := 131) (by decide +kernel))), (fun h => by cases h), (fun h => by cases h)⟩
theorem jm_flk_29 : jm_flp ((4, 47), (4, 8, 2)) := ⟨RX4, TX4, 14, tyX4, rfl, rfl, (by decide), inX4, tyX4_ok, nmX4, Or.inl (jm_in (List.mem_of_getElem? (i := 132) (by decide +kernel))), (fun h => by cases h), (fun h => by cases h)⟩
theorem jm_flk_30 : jm_flp ((4, 54), (4, 9, 2)) := ⟨RX4, TX4, 14, tyX4, rfl, rfl, (by decide), inX4, tyX4_ok, nmX4, Or.inl (jm_in (List.mem_of_getElem? (i := 133) (by decide +kernel))), (fun h => by cases h), (fun h => by cases h)⟩
theorem jm_flk_31 : jm_flp ((4, 58), (4, 10, 2)) := ⟨RX4, TX4, 14, tyX4, rfl, rfl, (by decide), inX4, tyX4_ok, nmX4, Or.inl (jm_in (List.mem_of_getElem? (i := 134) (by decide +kernel))), (fun h => by cases h), (fun h => by cases h)⟩
theorem jm_flk_32 : jm_flp ((4, 61), (4, 11, 0)) := ⟨RX4, TX4, 14, tyX4, rfl, rfl, (by decide), inX4, tyX4_ok, nmX4, Or.inl (jm_in (List.mem_of_getElem? (i := 135) (by decide +kernel))), (fun _ => ⟨rfl, by decide +kernel⟩), (fun h => by cases h)⟩
theorem jm_flk_33 : jm_flp ((4, 65), (4, 12, 0)) := ⟨RX4, TX4, 14, tyX4, rfl, rfl, (by decide), inX4, tyX4_ok, nmX4, Or.inl (jm_in (List.mem_of_getElem? (i := 136) (by decide +kernel))), (fun _ => ⟨rfl, by decide +kernel⟩), (fun h => by cases h)⟩
theorem jm_flk_34 : jm_flp ((4, 68), (4, 13, 0)) := ⟨RX4, TX4, 14, tyX4, rfl, rfl, (by decide), inX4, tyX4_ok, nmX4, Or.inl (jm_in (List.mem_of_getElem? (i := 137) (by decide +kernel))), (fun _ => ⟨rfl, by decide +kernel⟩), (fun h => by cases h)⟩
theorem jm_flk_35 : jm_flp ((4, 103), (1, 1, 0)) := ⟨RX1, TX1, 6, tyX1, rfl, rfl, (by decide), inX1, tyX1_ok, nmX1, Or.inr ⟨"ShaftDiscs", jm_in (List.mem_of_getElem? (i := 27) (by decide +kernel))⟩, (fun _ => ⟨rfl, by decide +kernel⟩), (fun h => by cases h)⟩
theorem jm_flk_36 : jm_flp ((4, 111), (1, 4, 0)) := ⟨RX1, TX1, 6, tyX1, rfl, rfl, (by decide), inX1, tyX1_ok, nmX1, Or.inr ⟨"ShaftDiscs", jm_in (List.mem_of_getElem? (i := 31) (by decide +kernel))⟩, (fun _ => ⟨rfl, by decide +kernel⟩), (fun h => by cases h)⟩
theorem jm_flk_37 : jm_flp ((4, 115), (1, 5, 0)) := ⟨RX1, TX1, 6, tyX1, rfl, rfl, (by decide), inX1, tyX1_ok, nmX1, Or.inr ⟨"ShaftDiscs", jm_in (List.mem_of_getElem? (i := 33) (by decide +kernel))⟩, (fun _ => ⟨rfl, by decide +kernel⟩), (fun h => by cases h)⟩
theorem jm_flk_38 : jm_flp ((4, 125), (2, 1, 0)) := ⟨RX2, TX2, 3, tyX2, rfl, rfl, (by decide), inX2, tyX2_ok, nmX2, Or.inr ⟨"ShaftDiscs", jm_in (List.mem_of_getElem? (i := 62) (by decide +kernel))⟩, (fun _ => ⟨rfl, by decide +kernel⟩), (fun h => by cases h)⟩
theorem jm_flk_39 : jm_flp ((4, 131), (0, 3, 0)) := ⟨RX0, TX0, 4, tyX0, rfl, rfl, (by decide), inX0, tyX0_ok, nmX0, Or.inr ⟨"ShaftDiscs", jm_in (List.mem_of_getElem? (i := 84) (by decide +kernel))⟩, (fun _ => ⟨rfl, by decide +kernel⟩), (fun h => by cases h)⟩
theorem jm_flk_40 : jm_flp ((4, 146), (2, 0, 2)) := ⟨RX2, TX2, 3, tyX2, rfl, rfl, (by decide), inX2, tyX2_ok, nmX2, Or.inr ⟨"ShaftDiscs", jm_in (List.mem_of_getElem? (i := 58) (by decide +kernel))⟩, (fun h => by cases h), (fun h => by cases h)⟩
theorem jm_flk_41 : jm_flp ((4, 152), (2, 2, 0)) := ⟨RX2, TX2, 3, tyX2, rfl, rfl, (by decide), inX2, tyX2_ok, nmX2, Or.inr ⟨"ShaftDiscs", jm_in (List.mem_of_getElem? (i := 66) (by decide +kernel))⟩, (fun _ => ⟨rfl, by decide +kernel⟩), (fun h => by cases h)⟩
theorem jm_flk_42 : jm_flp ((4, 191), (3, 3, 2)) := ⟨RX3, TX3, 7, tyX3, rfl, rfl, (by decide), inX3, tyX3_ok, nmX3, Or.inr ⟨"ShaftDiscs", jm_in (List.mem_of_getElem? (i := 104) (by decide +kernel))⟩, (fun h => by cases h), (fun h => by cases h)⟩
theorem jm_flk_43 : jm_flp ((5, 7), (5, 2, 2)) := ⟨RX5, TX5, 26, tyX5, rfl, rfl, (by decide), inX5, tyX5_ok, nmX5, Or.inl (jm_in (List.mem_of_getElem? (i := 591) (by decide +kernel))), (fun h => by cases h), (fun h => by cases h)⟩
theorem jm_flk_44 : jm_flp ((5, 13), (5, 3, 2)) := ⟨RX5, TX5, 26, tyX5, rfl, rfl, (by decide), inX5, tyX5_ok, nmX5, Or.inl (jm_in (List.mem_of_getElem? (i := 592) (by decide +kernel))), (fun h => by cases h), (fun h => by cases h)⟩
theorem jm_flk_45 : jm_flp ((5, 16), (5, 4, 2)) := ⟨RX5, TX5, 26, tyX5, rfl, rfl, (by decide), inX5, tyX5_ok, nmX5, Or.inl (jm_in (List.mem_of_getElem? (i := 593) (by decide +kernel))), (fun h => by cases h), (fun h => by cases h)⟩
theorem jm_flk_46 : jm_flp ((5, 19), (5, 5, 2)) := ⟨RX5, TX5, 26, tyX5, rfl, rfl, (by decide), inX5, tyX5_ok, nmX5, Or.inl (jm_in (List.mem_of_getElem? (i := 594) (by decide +kernel))), (fun h => by cases h), (fun h => by cases h)⟩
theorem jm_flk_47 : jm_flp ((5, 22), (5, 6, 2)) := ⟨RX5, TX5, 26, tyX5, rfl, rfl, (by decide), inX5, tyX5_ok, nmX5, Or.inl (jm_in (List.mem_of_getElem? (i := 595) (by decide +kernel))), (fun h => by cases h), (fun h => by cases h)⟩
theorem jm_flk_48 : jm_flp ((5, 25), (5, 7, 2)) := ⟨RX5, TX5, 26, tyX5, rfl, rfl, (by decide), inX5, tyX5_ok, nmX5, Or.inl (jm_in (List.mem_of_getElem? (i := 596) (by decide +kernel))), (fun h => by cases h), (fun h => by cases h)⟩
theorem jm_flk_49 : jm_flp ((5, 28), (5, 8, 2)) := ⟨RX5, TX5, 26, tyX5, rfl, rfl, (by decide), inX5, tyX5_ok, nmX5, Or.inl (jm_in (List.mem_of_getElem? (i := 597) (by decide +kernel))), (fun h => by cases h), (fun h => by cases h)⟩
theorem jm_flk_50 : jm_flp ((5, 31), (5, 10, 2)) := ⟨RX5, TX5, 26, tyX5, rfl, rfl, (by decide), inX5, tyX5_ok, nmX5, Or.inl (jm_in (List.mem_of_getElem? (i := 599) (by decide +kernel))), (fun h => by cases h), (fun h => by cases h)⟩
theorem jm_flk_51 : jm_flp ((5, 34), (5, 20, 2)) := ⟨RX5, TX5, 26, tyX5, rfl, rfl, (by decide), inX5, tyX5_ok, nmX5, Or.inl (jm_in (List.mem_of_getElem? (i := 609) (by decide +kernel))), (fun h => by cases h), (fun h => by cases h)⟩
theorem jm_flk_52 : jm_flp ((5, 38), (5, 21, 2)) := ⟨RX5, TX5, 26, tyX5, rfl, rfl, (by decide), inX5, tyX5_ok, nmX5, Or.inl (jm_in (List.mem_of_getElem? (i := 610) (by decide +kernel))), (fun h => by cases h), (fun h => by cases h)⟩
theorem jm_flk_53 : jm_flp ((5, 41), (5, 22, 2)) := ⟨RX5, TX5, 26, tyX5, rfl, rfl, (by decide), inX5, tyX5_ok, nmX5, Or.inl (jm_in (List.mem_of_getElem? (i := 611) (by decide +kernel))), (fun h => by cases h), (fun h => by cases h)⟩
theorem jm_flk_54 : jm_flp ((5, 45), (5, 23, 2)) := ⟨RX5, TX5, 26, tyX5, rfl, rfl, (by decide), inX5, tyX5_ok, nmX5, Or.inl (jm_in (List.mem_of_getElem? (i := 612) (by decide +kernel))), (fun h => by cases h), (fun h => by cases h)⟩
theorem jm_flk_55 : jm_flp ((5, 48), (5, 24, 2)) := ⟨RX5, TX5, 26, tyX5, rfl, rfl, (by decide), inX5, tyX5_ok, nmX5, Or.inl (jm_in (List.mem_of_getElem? (i := 613) (by decide +kernel))), (fun h => by cases h), (fun h => by cases h)⟩
theorem jm_flk_56 : jm_flp ((5, 55), (5, 1, 0)) := ⟨RX5, TX5, 26, tyX5, rfl, rfl, (by decide), inX5, tyX5_ok, nmX5, Or.inl (jm_in (List.mem_of_getElem? (i := 590) (by decide +kernel))), (fun _ => ⟨rfl, by decide +kernel⟩), (fun h => by cases h)⟩
theorem jm_flk_57 : jm_flp ((5, 78), (5, 11, 0)) := ⟨RX5, TX5, 26, tyX5, rfl, rfl, (by decide), inX5, tyX5_ok, nmX5, Or.inl (jm_in (List.mem_of_getElem? (i := 600) (by decide +kernel))), (fun _ => ⟨rfl, by decide +kernel⟩), (fun h => by cases h)⟩
theorem jm_flk_58 : jm_flp ((5, 82), (5, 16, 0)) := ⟨RX5, TX5, 26, tyX5, rfl, rfl, (by decide), inX5, tyX5_ok, nmX5, Or.inl (jm_in (List.mem_of_getElem? (i := 605) (by decide +kernel))), (fun _ => ⟨rfl, by decide +kernel⟩), (fun h => by cases h)⟩
theorem jm_flk_59 : jm_flp ((5, 85), (5, 13, 0)) := ⟨RX5, TX5, 26, tyX5, rfl, rfl, (by decide), inX5, tyX5_ok, nmX5, Or.inl (jm_in (List.mem_of_getElem? (i := 602) (by decide +kernel))), (fun _ => ⟨rfl, by decide +kernel⟩), (fun h => by cases h)⟩
theorem jm_flk_60 : jm_flp ((5, 88), (5, 17, 0)) := ⟨RX5, TX5, 26, tyX5, rfl, rfl, (by decide), inX5, tyX5_ok, nmX5, Or.inl (jm_in (List.mem_of_getElem? (i := 606) (by decide +kernel))), (fun _ => ⟨rfl, by decide +kernel⟩), (fun h => by cases h)⟩
theorem jm_flk_61 : jm_flp ((5, 91), (5, 12, 0)) := ⟨RX5, TX5, 26, tyX5, rfl, rfl, (by decide), inX5, tyX5_ok, nmX5, Or.inl (jm_in (List.mem_of_getElem? (i := 601) (by decide +kernel))), (fun _ => ⟨rfl, by decide +kernel⟩), (fun h => by cases h)⟩
theorem jm_flk_62 : jm_flp ((5, 95), (5, 15, 0)) := ⟨RX5, TX5, 26, tyX5, rfl, rfl, (by decide), inX5, tyX5_ok, nmX5, Or.inl (jm_in (List.mem_of_getElem? (i := 604) (by decide +kernel))), (fun _ => ⟨rfl, by decide +kernel⟩), (fun h => by cases h)⟩
theorem jm_flk_63 : jm_flp ((5, 106), (5, 14, 0)) := ⟨RX5, TX5, 26, tyX5, rfl, rfl, (by decide), inX5, tyX5_ok, nmX5, Or.inl (jm_in (List.mem_of_getElem? (i := 603) (by decide +kernel))), (fun _ => ⟨rfl, by decide +kernel⟩), (fun h => by cases h)⟩
theorem jm_flk_64 : jm_flp ((5, 120), (5, 18, 0)) := ⟨RX5, TX5, 26, tyX5, rfl, rfl, (by decide), inX5, tyX5_ok, nmX5, Or.inl (jm_in (List.mem_of_getElem? (i := 607) (by decide +kernel))), (fun _ => ⟨rfl, by decide +kernel⟩), (fun h => by cases h)⟩
theorem jm_flk_65 : jm_flp ((5, 150), (5, 9, 0)) := ⟨RX5, TX5, 26, tyX5, rfl, rfl, (by decide), inX5, tyX5_ok, nmX5, Or.inl (jm_in (List.mem_of_getElem? (i := 598) (by decide +kernel))), (fun _ => ⟨rfl, by decide +kernel⟩), (fun h => by cases h)⟩
theorem jm_flk_66 : jm_flp ((5, 165), (5, 19, 1)) := ⟨RX5, TX5, 26, tyX5, rfl, rfl, (by decide), inX5, tyX5_ok, nmX5, Or.inl (jm_in (List.mem_of_getElem? (i := 608) (by decide +kernel))), (fun h => by cases h), (fun _ => ⟨rfl, by decide +kernel⟩)⟩
theorem jm_flk_67 : jm_flp ((5, 272), (5, 25, 0)) := ⟨RX5, TX5, 26, tyX5, rfl, rfl, (by decide), inX5, tyX5_ok, nmX5, Or.inl (jm_in (List.mem_of_getElem? (i := 614) (by decide +kernel))), (fun _ => ⟨rfl, by decide +kernel⟩), (fun h => by cases h)⟩
theorem jm_flk_68 : jm_flp ((0, 34), (2, 2, 0)) := ⟨RX2, TX2, 3, tyX2, rfl, rfl, (by decide), inX2, tyX2_ok, nmX2, Or.inr ⟨"ShaftDiscs", jm_in (List.mem_of_getElem? (i := 65) (by decide +kernel))⟩, (fun _ => ⟨rfl, by decide +kernel⟩), (fun h => by cases h)⟩
theorem jm_flk_69 : jm_flp ((1, 25), (1, 4, 0)) := ⟨RX1, TX1, 6, tyX1, rfl, rfl, (by decide), inX1, tyX1_ok, nmX1, Or.inl (jm_in (List.mem_of_getElem? (i := 30) (by decide +kernel))), (fun _ => ⟨rfl, by decide +kernel⟩), (fun h => by cases h)⟩
theorem jm_flk_70 : jm_flp ((1, 28), (1, 5, 0)) := ⟨RX1, TX1, 6, tyX1, rfl, rfl, (by decide), inX1, tyX1_ok, nmX1, Or.inl (jm_in (List.mem_of_getElem? (i := 32) (by decide +kernel))), (fun _ => ⟨rfl, by decide +kernel⟩), (fun h => by cases h)⟩
theorem jm_flk_71 : jm_flp ((1, 52), (2, 2, 0)) := ⟨RX2, TX2, 3, tyX2, rfl, rfl, (by decide), inX2, tyX2_ok, nmX2, Or.inr ⟨"ShaftDiscs", jm_in (List.mem_of_getElem? (i := 64) (by decide +kernel))⟩, (fun _ => ⟨rfl, by decide +kernel⟩), (fun h => by cases h)⟩
theorem jm_flk_72 : jm_flp ((1, 57), (2, 1, 0)) := ⟨RX2, TX2, 3, tyX2, rfl, rfl, (by decide), inX2, tyX2_ok, nmX2, Or.inr ⟨"ShaftDiscs", jm_in (List.mem_of_getElem? (i := 61) (by decide +kernel))⟩, (fun _ => ⟨rfl, by decide +kernel⟩), (fun h => by cases h)⟩
theorem jm_flk_73 : jm_flp ((5, 51), (5, 0, 0)) := ⟨RX5, TX5, 26, tyX5, rfl, rfl, (by decide), inX5, tyX5_ok, nmX5, Or.inl (jm_in (List.mem_of_getElem? (i := 589) (by decide +kernel))), (fun _ => ⟨rfl, by decide +kernel⟩), (fun h => by cases h)⟩
theorem jm_flk : ∀ e ∈ jm_flL, jm_flp e := List.forall_mem_cons.mpr ⟨jm_flk_0, List.forall_mem_cons.mpr ⟨jm_flk_1, List.forall_mem_cons.mpr ⟨jm_flk_2, List.forall_mem_cons.mpr ⟨jm_flk_3, List.forall_mem_cons.mpr ⟨jm_flk_4, List.forall_mem_cons.mpr ⟨jm_flk_5, List.forall_mem_cons.mpr ⟨jm_flk_6, List.forall_mem_cons.mpr ⟨jm_flk_7, List.forall_mem_cons.mpr ⟨jm_flk_8, List.forall_mem_cons.mpr ⟨jm_flk_9, List.forall_mem_cons.mpr ⟨jm_flk_10, List.forall_mem_cons.mpr ⟨jm_flk_11, List.forall_mem_cons.mpr ⟨jm_flk_12, List.forall_mem_cons.mpr ⟨jm_flk_13, List.forall_mem_cons.mpr ⟨jm_flk_14, List.forall_mem_cons.mpr ⟨jm_flk_15, List.forall_mem_cons.mpr ⟨jm_flk_16, List.forall_mem_cons.mpr ⟨jm_flk_17, List.forall_mem_cons.mpr ⟨jm_flk_18, List.forall_mem_cons.mpr ⟨jm_flk_19, List.forall_mem_cons.mpr ⟨jm_flk_20, List.forall_mem_cons.mpr ⟨jm_flk_21, List.forall_mem_cons.mpr ⟨jm_flk_22, List.forall_mem_cons.mpr ⟨jm_flk_23, List.forall_mem_cons.mpr ⟨jm_flk_24, List.forall_mem_cons.mpr ⟨jm_flk_25, List.forall_mem_cons.mpr ⟨jm_flk_26, List.forall_mem_cons.mpr ⟨jm_flk_27, List.forall_mem_cons.mpr ⟨jm_flk_28, List.forall_mem_cons.mpr ⟨jm_flk_29, List.forall_mem_cons.mpr ⟨jm_flk_30, List.forall_mem_cons.mpr ⟨jm_flk_31, List.forall_mem_cons.mpr ⟨jm_flk_32, List.forall_mem_cons.mpr ⟨jm_flk_33, List.forall_mem_cons.mpr ⟨jm_flk_34, List.forall_mem_cons.mpr ⟨jm_flk_35, List.forall_mem_cons.mpr ⟨jm_flk_36, List.forall_mem_cons.mpr ⟨jm_flk_37, List.forall_mem_cons.mpr ⟨jm_flk_38, List.forall_mem_cons.mpr ⟨jm_flk_39, List.forall_mem_cons.mpr ⟨jm_flk_40, List.forall_mem_cons.mpr ⟨jm_flk_41, List.forall_mem_cons.mpr ⟨jm_flk_42, List.forall_mem_cons.mpr ⟨jm_flk_43, List.forall_mem_cons.mpr ⟨jm_flk_44, List.forall_mem_cons.mpr ⟨jm_flk_45, List.forall_mem_cons.mpr ⟨jm_flk_46, List.forall_mem_cons.mpr ⟨jm_flk_47, List.forall_mem_cons.mpr ⟨jm_flk_48, List.forall_mem_cons.mpr ⟨jm_flk_49, List.forall_mem_cons.mpr ⟨jm_flk_50, List.forall_mem_cons.mpr ⟨jm_flk_51, List.forall_mem_cons.mpr ⟨jm_flk_52, List.forall_mem_cons.mpr ⟨jm_flk_53, List.forall_mem_cons.mpr ⟨jm_flk_54, List.forall_mem_cons.mpr ⟨jm_flk_55, List.forall_mem_cons.mpr ⟨jm_flk_56, List.forall_mem_cons.mpr ⟨jm_flk_57, List.forall_mem_cons.mpr ⟨jm_flk_58, List.forall_mem_cons.mpr ⟨jm_flk_59, List.forall_mem_cons.mpr ⟨jm_flk_60, List.forall_mem_cons.mpr ⟨jm_flk_61, List.forall_mem_cons.mpr ⟨jm_flk_62, List.forall_mem_cons.mpr ⟨jm_flk_63, List.forall_mem_cons.mpr ⟨jm_flk_64, List.forall_mem_cons.mpr ⟨jm_flk_65, List.forall_mem_cons.mpr ⟨jm_flk_66, List.forall_mem_cons.mpr ⟨jm_flk_67, List.forall_mem_cons.mpr ⟨jm_flk_68, List.forall_mem_cons.mpr ⟨jm_flk_69, List.forall_mem_cons.mpr ⟨jm_flk_70, List.forall_mem_cons.mpr ⟨jm_flk_71, List.forall_mem_cons.mpr ⟨jm_flk_72, List.forall_mem_cons.mpr ⟨jm_flk_73, fun _ h => absurd h List.not_mem_nil⟩⟩⟩⟩⟩⟩⟩⟩⟩⟩⟩⟩⟩⟩⟩⟩⟩⟩⟩⟩⟩⟩⟩⟩⟩⟩⟩⟩⟩⟩⟩⟩⟩⟩⟩⟩⟩⟩⟩⟩⟩⟩⟩⟩⟩⟩⟩⟩⟩⟩⟩⟩⟩⟩⟩⟩⟩⟩⟩⟩⟩⟩⟩⟩⟩⟩⟩⟩⟩⟩⟩⟩⟩⟩
theorem jm_gsk_0 : jm_gsp ((1, 79), 0) := ⟨(by decide), Or.inr ⟨"ShaftDiscs", jm_in (List.mem_of_getElem? (i := 264) (by decide +kernel))⟩⟩
theorem jm_gsk_1 : jm_gsp ((1, 82), 1) := ⟨(by decide), Or.inr ⟨"ShaftDiscs", jm_in (List.mem_of_getElem? (i := 266) (by decide +kernel))⟩⟩
theorem jm_gsk_2 : jm_gsp ((4, 136), 0) := ⟨(by decide), Or.inl (jm_in (List.mem_of_getElem? (i := 304) (by decide +kernel)))⟩
theorem jm_gsk_3 : jm_gsp ((4, 139), 1) := ⟨(by decide), Or.inl (jm_in (List.mem_of_getElem? (i := 305) (by decide +kernel)))⟩
theorem jm_gsk_4 : jm_gsp ((4, 292), 2) := ⟨(by decide), Or.inl (jm_in (List.mem_of_getElem? (i := 545) (by decide +kernel)))⟩
theorem jm_gsk_5 : jm_gsp ((4, 295), 3) := ⟨(by decide), Or.inl (jm_in (List.mem_of_getElem? (i := 555) (by decide +kernel)))⟩
theorem jm_gsk_6 : jm_gsp ((4, 298), 4) := ⟨(by decide), Or.inl (jm_in (List.mem_of_getElem? (i := 557) (by decide +kernel)))⟩
theorem jm_gsk : ∀ e ∈ jm_gsL, jm_gsp e := List.forall_mem_cons.mpr ⟨jm_gsk_0, List.forall_mem_cons.mpr ⟨jm_gsk_1, List.forall_mem_cons.mpr ⟨jm_gsk_2, List.forall_mem_cons.mpr ⟨jm_gsk_3, List.forall_mem_cons.mpr ⟨jm_gsk_4, List.forall_mem_cons.mpr ⟨jm_gsk_5, List.forall_mem_cons.mpr ⟨jm_gsk_6, fun _ h => absurd h List.not_mem_nil⟩⟩⟩⟩⟩⟩⟩
theorem jm_kik_0 : jm_kip ((3, 68), (-1000016)) := jm_in (List.mem_of_getElem? (i := 399) (by decide +kernel))
theorem jm_kik_1 : jm_kip ((3, 72), (-1000000)) := jm_in (List.mem_of_getElem? (i := 414) (by decide +kernel))
theorem jm_kik_2 : jm_kip ((4, 75), (-1000001)) := jm_in (List.mem_of_getElem? (i := 174) (by decide +kernel))
theorem jm_kik_3 : jm_kip ((4, 106), (-1000003)) := jm_in (List.mem_of_getElem? (i := 218) (by decide +kernel))
theorem jm_kik_4 : jm_kip ((4, 114), (-1000100)) := jm_in (List.mem_of_getElem? (i := 268) (by decide +kernel))
theorem jm_kik_5 : jm_kip ((4, 132), (-1000002)) := jm_in (List.mem_of_getElem? (i := 298) (by decide +kernel))
theorem jm_kik_6 : jm_kip ((4, 212), (-1000000)) := jm_in (List.mem_of_getElem? (i := 432) (by decide +kernel))
theorem jm_kik_7 : jm_kip ((4, 222), (-1000016)) := jm_in (List.mem_of_getElem? (i := 404) (by decide +kernel))
theorem jm_kik_8 : jm_kip ((4, 248), (999999)) := jm_in (List.mem_of_getElem? (i := 507) (by decide +kernel))
theorem jm_kik_9 : jm_kip ((5, 58), (-1000010)) := jm_in (List.mem_of_getElem? (i := 686) (by decide +kernel))
theorem jm_kik_10 : jm_kip ((5, 71), (-1000001)) := jm_in (List.mem_of_getElem? (i := 681) (by decide +kernel))
theorem jm_kik_11 : jm_kip ((5, 81), (-1000003)) := jm_in (List.mem_of_getElem? (i := 704) (by decide +kernel))
theorem jm_kik_12 : jm_kip ((5, 94), (-1000000)) := jm_in (List.mem_of_getElem? (i := 721) (by decide +kernel))
theorem jm_kik_13 : jm_kip ((5, 149), (-1000100)) := jm_in (List.mem_of_getElem? (i := 761) (by decide +kernel))
theorem jm_kik_14 : jm_kip ((5, 207), (-1000002)) := jm_in (List.mem_of_getElem? (i := 784) (by decide +kernel))
theorem jm_kik_15 : jm_kip ((4, 308), (-1000010)) := jm_in (List.mem_of_getElem? (i := 179) (by decide +kernel))
theorem jm_kik : ∀ e ∈ jm_kiL, jm_kip e := List.forall_mem_cons.mpr ⟨jm_kik_0, List.forall_mem_cons.mpr ⟨jm_kik_1, List.forall_mem_cons.mpr ⟨jm_kik_2, List.forall_mem_cons.mpr ⟨jm_kik_3, List.forall_mem_cons.mpr ⟨jm_kik_4, List.forall_mem_cons.mpr ⟨jm_kik_5, List.forall_mem_cons.mpr ⟨jm_kik_6, List.forall_mem_cons.mpr ⟨jm_kik_7, List.forall_mem_cons.mpr ⟨jm_kik_8, List.forall_mem_cons.mpr ⟨jm_kik_9, List.forall_mem_cons.mpr ⟨jm_kik_10, List.forall_mem_cons.mpr ⟨jm_kik_11, List.forall_mem_cons.mpr ⟨jm_kik_12, List.forall_mem_cons.mpr ⟨jm_kik_13, List.forall_mem_cons.mpr ⟨jm_kik_14, List.forall_mem_cons.mpr ⟨jm_kik_15, fun _ h => absurd h List.not_mem_nil⟩⟩⟩⟩⟩⟩⟩⟩⟩⟩⟩⟩⟩⟩⟩⟩
theorem jm_klk_0 : jm_klp ((3, 60), (-1)) := jm_in (List.mem_of_getElem? (i := 384) (by decide +kernel))
theorem jm_klk_1 : jm_klp ((3, 62), (-9223372036854775808)) := jm_in (List.mem_of_getElem? (i := 385) (by decide +kernel))
theorem jm_klk_2 : jm_klp ((4, 180), (-1000002)) := jm_in (List.mem_of_getElem? (i := 363) (by decide +kernel))
theorem jm_klk_3 : jm_klp ((4, 182), (-1000001)) := jm_in (List.mem_of_getElem? (i := 364) (by decide +kernel))
theorem jm_klk_4 : jm_klp ((4, 238), (10)) := jm_in (List.mem_of_getElem? (i := 495) (by decide +kernel))
theorem jm_klk_5 : jm_klp ((4, 249), (16807)) := jm_in (List.mem_of_getElem? (i := 508) (by decide +kernel))
theorem jm_klk_6 : jm_klp ((4, 251), (2147483647)) := jm_in (List.mem_of_getElem? (i := 509) (by decide +kernel))
theorem jm_klk_7 : jm_klp ((4, 273), (3)) := jm_in (List.mem_of_getElem? (i := 514) (by decide +kernel))
theorem jm_klk_8 : jm_klp ((4, 275), (16)) := jm_in (List.mem_of_getElem? (i := 515) (by decide +kernel))
theorem jm_klk_9 : jm_klp ((4, 277), (41)) := jm_in (List.mem_of_getElem? (i := 516) (by decide +kernel))
theorem jm_klk_10 : jm_klp ((4, 279), (256)) := jm_in (List.mem_of_getElem? (i := 517) (by decide +kernel))
theorem jm_klk_11 : jm_klp ((4, 281), (5)) := jm_in (List.mem_of_getElem? (i := 518) (by decide +kernel))
theorem jm_klk_12 : jm_klp ((5, 59), (7)) := jm_in (List.mem_of_getElem? (i := 676) (by decide +kernel))
theorem jm_klk_13 : jm_klp ((5, 69), (2)) := jm_in (List.mem_of_getElem? (i := 680) (by decide +kernel))
theorem jm_klk_14 : jm_klp ((5, 76), (255)) := jm_in (List.mem_of_getElem? (i := 703) (by decide +kernel))
theorem jm_klk_15 : jm_klp ((5, 98), (97)) := jm_in (List.mem_of_getElem? (i := 722) (by decide +kernel))
theorem jm_klk_16 : jm_klp ((5, 100), (122)) := jm_in (List.mem_of_getElem? (i := 723) (by decide +kernel))
theorem jm_klk_17 : jm_klp ((5, 102), (48)) := jm_in (List.mem_of_getElem? (i := 724) (by decide +kernel))
theorem jm_klk_18 : jm_klp ((5, 104), (57)) := jm_in (List.mem_of_getElem? (i := 725) (by decide +kernel))
theorem jm_klk_19 : jm_klp ((5, 161), (-1)) := jm_in (List.mem_of_getElem? (i := 832) (by decide +kernel))
theorem jm_klk_20 : jm_klp ((5, 163), (-9223372036854775808)) := jm_in (List.mem_of_getElem? (i := 833) (by decide +kernel))
theorem jm_klk_21 : jm_klp ((5, 195), (5)) := jm_in (List.mem_of_getElem? (i := 766) (by decide +kernel))
theorem jm_klk_22 : jm_klp ((5, 197), (40)) := jm_in (List.mem_of_getElem? (i := 767) (by decide +kernel))
theorem jm_klk_23 : jm_klp ((5, 199), (9)) := jm_in (List.mem_of_getElem? (i := 768) (by decide +kernel))
theorem jm_klk_24 : jm_klp ((5, 211), (200)) := jm_in (List.mem_of_getElem? (i := 793) (by decide +kernel))
theorem jm_klk_25 : jm_klp ((5, 213), (-1000002)) := jm_in (List.mem_of_getElem? (i := 822) (by decide +kernel))
theorem jm_klk_26 : jm_klp ((5, 215), (-1000001)) := jm_in (List.mem_of_getElem? (i := 823) (by decide +kernel))
theorem jm_klk_27 : jm_klp ((5, 228), (6)) := jm_in (List.mem_of_getElem? (i := 878) (by decide +kernel))
theorem jm_klk_28 : jm_klp ((5, 233), (99)) := jm_in (List.mem_of_getElem? (i := 887) (by decide +kernel))
theorem jm_klk_29 : jm_klp ((5, 238), (999)) := jm_in (List.mem_of_getElem? (i := 895) (by decide +kernel))
theorem jm_klk_30 : jm_klp ((5, 243), (3)) := jm_in (List.mem_of_getElem? (i := 904) (by decide +kernel))
theorem jm_klk_31 : jm_klp ((5, 255), (10)) := jm_in (List.mem_of_getElem? (i := 925) (by decide +kernel))
theorem jm_klk_32 : jm_klp ((5, 257), (999999)) := jm_in (List.mem_of_getElem? (i := 930) (by decide +kernel))
theorem jm_klk_33 : jm_klp ((5, 259), (16807)) := jm_in (List.mem_of_getElem? (i := 931) (by decide +kernel))
theorem jm_klk_34 : jm_klp ((5, 261), (2147483647)) := jm_in (List.mem_of_getElem? (i := 932) (by decide +kernel))
theorem jm_klk_35 : jm_klp ((5, 263), (16)) := jm_in (List.mem_of_getElem? (i := 933) (by decide +kernel))
theorem jm_klk_36 : jm_klp ((5, 265), (41)) := jm_in (List.mem_of_getElem? (i := 934) (by decide +kernel))
theorem jm_klk_37 : jm_klp ((5, 267), (256)) := jm_in (List.mem_of_getElem? (i := 935) (by decide +kernel))
theorem jm_klk : ∀ e ∈ jm_klL, jm_klp e := List.forall_mem_cons.mpr ⟨jm_klk_0, List.forall_mem_cons.mpr ⟨jm_klk_1, List.forall_mem_cons.mpr ⟨jm_klk_2, List.forall_mem_cons.mpr ⟨jm_klk_3, List.forall_mem_cons.mpr ⟨jm_klk_4, List.forall_mem_cons.mpr ⟨jm_klk_5, List.forall_mem_cons.mpr ⟨jm_klk_6, List.forall_mem_cons.mpr ⟨jm_klk_7, List.forall_mem_cons.mpr ⟨jm_klk_8, List.forall_mem_cons.mpr ⟨jm_klk_9, List.forall_mem_cons.mpr ⟨jm_klk_10, List.forall_mem_cons.mpr ⟨jm_klk_11, List.forall_mem_cons.mpr ⟨jm_klk_12, List.forall_mem_cons.mpr ⟨jm_klk_13, List.forall_mem_cons.mpr ⟨jm_klk_14, List.forall_mem_cons.mpr ⟨jm_klk_15, List.forall_mem_cons.mpr ⟨jm_klk_16, List.forall_mem_cons.mpr ⟨jm_klk_17, List.forall_mem_cons.mpr ⟨jm_klk_18, List.forall_mem_cons.mpr ⟨jm_klk_19, List.forall_mem_cons.mpr ⟨jm_klk_20, List.forall_mem_cons.mpr ⟨jm_klk_21, List.forall_mem_cons.mpr ⟨jm_klk_22, List.forall_mem_cons.mpr ⟨jm_klk_23, List.forall_mem_cons.mpr ⟨jm_klk_24, List.forall_mem_cons.mpr ⟨jm_klk_25, List.forall_mem_cons.mpr ⟨jm_klk_26, List.forall_mem_cons.mpr ⟨jm_klk_27, List.forall_mem_cons.mpr ⟨jm_klk_28, List.forall_mem_cons.mpr ⟨jm_klk_29, List.forall_mem_cons.mpr ⟨jm_klk_30, List.forall_mem_cons.mpr ⟨jm_klk_31, List.forall_mem_cons.mpr ⟨jm_klk_32, List.forall_mem_cons.mpr ⟨jm_klk_33, List.forall_mem_cons.mpr ⟨jm_klk_34, List.forall_mem_cons.mpr ⟨jm_klk_35, List.forall_mem_cons.mpr ⟨jm_klk_36, List.forall_mem_cons.mpr ⟨jm_klk_37, fun _ h => absurd h List.not_mem_nil⟩⟩⟩⟩⟩⟩⟩⟩⟩⟩⟩⟩⟩⟩⟩⟩⟩⟩⟩⟩⟩⟩⟩⟩⟩⟩⟩⟩⟩⟩⟩⟩⟩⟩⟩⟩⟩⟩
theorem jm_imk_0 : jm_imp ((0, 28), 13) := ⟨(fun h => by cases h), (fun h => by cases h), (fun h => by cases h), (fun _ => jm_in (List.mem_of_getElem? (i := 318) (by decide +kernel)))⟩
theorem jm_imk_1 : jm_imp ((1, 46), 11) := ⟨(fun h => by cases h), (fun _ => jm_in (List.mem_of_getElem? (i := 250) (by decide +kernel))), (fun h => by cases h), (fun h => by cases h)⟩
theorem jm_imk_2 : jm_imp ((2, 23), 13) := ⟨(fun h => by cases h), (fun h => by cases h), (fun h => by cases h), (fun _ => jm_in (List.mem_of_getElem? (i := 273) (by decide +kernel)))⟩
theorem jm_imk_3 : jm_imp ((3, 79), 10) := ⟨(fun _ => jm_in (List.mem_of_getElem? (i := 442) (by decide +kernel))), (fun h => by cases h), (fun h => by cases h), (fun h => by cases h)⟩
theorem jm_imk_4 : jm_imp ((4, 94), 13) := ⟨(fun h => by cases h), (fun h => by cases h), (fun h => by cases h), (fun _ => jm_in (List.mem_of_getElem? (i := 203) (by decide +kernel)))⟩
theorem jm_imk_5 : jm_imp ((4, 163), 10) := ⟨(fun _ => jm_in (List.mem_of_getElem? (i := 335) (by decide +kernel))), (fun h => by cases h), (fun h => by cases h), (fun h => by cases h)⟩
theorem jm_imk_6 : jm_imp ((4, 264), 11) := ⟨(fun h => by cases h), (fun _ => jm_in (List.mem_of_getElem? (i := 471) (by decide +kernel))), (fun h => by cases h), (fun h => by cases h)⟩
theorem jm_imk_7 : jm_imp ((4, 267), 12) := ⟨(fun h => by cases h), (fun h => by cases h), (fun _ => jm_in (List.mem_of_getElem? (i := 472) (by decide +kernel))), (fun h => by cases h)⟩
theorem jm_imk : ∀ e ∈ jm_imL, jm_imp e := List.forall_mem_cons.mpr ⟨jm_imk_0, List.forall_mem_cons.mpr ⟨jm_imk_1, List.forall_mem_cons.mpr ⟨jm_imk_2, List.forall_mem_cons.mpr ⟨jm_imk_3, List.forall_mem_cons.mpr ⟨jm_imk_4, List.forall_mem_cons.mpr ⟨jm_imk_5, List.forall_mem_cons.mpr ⟨jm_imk_6, List.forall_mem_cons.mpr ⟨jm_imk_7, fun _ h => absurd h List.not_mem_nil⟩⟩⟩⟩⟩⟩⟩⟩
theorem jm_abs : Cond.static Lib.Math.abs.name ∈ lw_tbl ∧ Cond.initialized "java/lang/Math" ∈ lw_tbl ∧ Cond.code Lib.Math.abs.name Lib.Math.abs.code 1 (some .int) ∈ lw_tbl := ⟨jm_in (List.mem_of_getElem? (i := 336) (by decide +kernel)), jm_in (List.mem_of_getElem? (i := 8) (by decide +kernel)), jm_in (List.mem_of_getElem? (i := 337) (by decide +kernel))⟩
theorem jm_min : Cond.static Lib.Math.min.name ∈ lw_tbl ∧ Cond.initialized "java/lang/Math" ∈ lw_tbl ∧ Cond.code Lib.Math.min.name Lib.Math.min.code 2 (some .int) ∈ lw_tbl := ⟨jm_in (List.mem_of_getElem? (i := 251) (by decide +kernel)), jm_in (List.mem_of_getElem? (i := 8) (by decide +kernel)), jm_in (List.mem_of_getElem? (i := 252) (by decide +kernel))⟩
theorem jm_max : Cond.static Lib.Math.max.name ∈ lw_tbl ∧ Cond.initialized "java/lang/Math" ∈ lw_tbl ∧ Cond.code Lib.Math.max.name Lib.Math.max.code 2 (some .int) ∈ lw_tbl := ⟨jm_in (List.mem_of_getElem? (i := 473) (by decide +kernel)), jm_in (List.mem_of_getElem? (i := 8) (by decide +kernel)), jm_in (List.mem_of_getElem? (i := 474) (by decide +kernel))⟩
theorem jm_acp : Cond.native arraycopyName ∈ lw_tbl ∧ Cond.static arraycopyName ∈ lw_tbl ∧ Cond.initialized "java/lang/System" ∈ lw_tbl := ⟨jm_in (List.mem_of_getElem? (i := 205) (by decide +kernel)), jm_in (List.mem_of_getElem? (i := 204) (by decide +kernel)), jm_in (List.mem_of_getElem? (i := 7) (by decide +kernel))⟩
end
section
-- THE WORLD of both classes, by the store; values; locals
def jm_cv (α : Nat → Nat → Nat) (v : jm_V) : Value := match v with
  | .inl (.inl x) => .int x
  | .inl (.inr x) => .long x
  | .inr (k, r) => .ref (α k r)
abbrev jm_C : Type := ClassId × ClassId × ClassId × ClassId
def jm_tys (cy : jm_C) : List (ClassId × FieldType) := [(cy.1, .int), (cy.2.1, .long), (cy.2.2.1, .boolean), (cy.2.2.2, .array .int)]
def jm_ce (α : Nat → Nat → Nat) (cy : jm_C) (σ : jm_S) (k r : Nat) : va_E := match jm_sh k with
  | (0, ci) => .inr (ci, (List.range (jm_nf ci)).map fun j => match jm_rf k r j with
    | some q => .ref (α q.1 q.2)
    | none => .int (σ.1 k r j))
  | (1, n) => .inl (cy.1, n, .inl (σ.1 k r))
  | (2, n) => .inl (cy.2.1, n, .inr (.inl (σ.2 k r)))
  | (3, n) => .inl (cy.2.2.1, n, .inl (σ.1 k r))
  | (_, n) => .inl (cy.2.2.2, n, .inr (.inr (.inr (.inr fun i => if i < n then some (α (jm_ra k r i).1 (jm_ra k r i).2) else none))))
def jm_wd (α : Nat → Nat → Nat) (cy : jm_C) (σ : jm_S) : va_W := (List.range 63).map fun p => (α (jm_pk p).1 (jm_pk p).2, jm_ce α cy σ (jm_pk p).1 (jm_pk p).2)
theorem jm_pk_ps : ∀ k, k < 33 → ∀ r, r < jm_nr k → jm_pk (jm_bs k + r) = (k, r) ∧ jm_bs k + r < 63 := by decide
theorem jm_ps_pk : ∀ p, p < 63 → jm_bs (jm_pk p).1 + (jm_pk p).2 = p := by decide
theorem jm_wd_at {α : Nat → Nat → Nat} {cy : jm_C} {σ : jm_S} {k r : Nat} (hk : k < 33) (hr : r < jm_nr k) : (jm_wd α cy σ)[jm_bs k + r]? = some (α k r, jm_ce α cy σ k r) := by
  obtain ⟨h1, h2⟩ := jm_pk_ps k hk r hr
  unfold jm_wd
  rw [List.getElem?_map, List.getElem?_range h2]
  simp only [Option.map_some, h1]
theorem jm_ce_congr {α : Nat → Nat → Nat} {cy : jm_C} {σ σ' : jm_S} {k r : Nat} (h1 : σ'.1 k r = σ.1 k r) (h2 : σ'.2 k r = σ.2 k r) : jm_ce α cy σ' k r = jm_ce α cy σ k r := by
  unfold jm_ce
  rw [h1, h2]
theorem jm_wd_set {α : Nat → Nat → Nat} {cy : jm_C} {σ σ' : jm_S} {k r : Nat} (hk : k < 33) (hr : r < jm_nr k) (h1 : ∀ k' r', ¬ (k' = k ∧ r' = r) → σ'.1 k' r' = σ.1 k' r') (h2 : ∀ k' r', ¬ (k' = k ∧ r' = r) → σ'.2 k' r' = σ.2 k' r') : (jm_wd α cy σ).set (jm_bs k + r) (α k r, jm_ce α cy σ' k r) = jm_wd α cy σ' := by
  obtain ⟨e1, e2⟩ := jm_pk_ps k hk r hr
  apply List.ext_getElem?
  intro i
  rw [List.getElem?_set]
  by_cases hi : jm_bs k + r = i
  · subst hi
    rw [if_pos rfl, jm_wd_at hk hr]
    have hlen : jm_bs k + r < (jm_wd α cy σ).length := by simp [jm_wd]; exact e2
    rw [if_pos hlen]
  · rw [if_neg hi]
    by_cases hlt : i < 63
    · unfold jm_wd
      rw [List.getElem?_map, List.getElem?_map, List.getElem?_range hlt]
      simp only [Option.map_some]
      have hne : ¬ ((jm_pk i).1 = k ∧ (jm_pk i).2 = r) := fun q => hi (by have := jm_ps_pk i hlt; rw [q.1, q.2] at this; exact this)
      rw [jm_ce_congr (h1 _ _ hne) (h2 _ _ hne)]
    · rw [List.getElem?_eq_none (by simp [jm_wd]; omega), List.getElem?_eq_none (by simp [jm_wd]; omega)]
/-- addresses don't move -/
theorem jm_wd_ad {α : Nat → Nat → Nat} {cy : jm_C} {σ σ' : jm_S} {i : Nat} {q : Nat × va_E} (h : (jm_wd α cy σ)[i]? = some q) : ∃ q', (jm_wd α cy σ')[i]? = some q' ∧ q'.1 = q.1 := by
  unfold jm_wd at h ⊢
  rw [List.getElem?_map] at h ⊢
  cases hi : (List.range 63)[i]? with
  | none => rw [hi] at h; cases h
  | some p => rw [hi] at h; cases h; exact ⟨_, rfl, rfl⟩
theorem jm_wd_A {α : Nat → Nat → Nat} {cy : jm_C} {σ σ' : jm_S} {sz q : Nat} (h : va_A (jm_wd α cy σ) sz q) : va_A (jm_wd α cy σ') sz q := by
  rcases h with ⟨k, e, h⟩ | h
  · obtain ⟨⟨a, e'⟩, h1, h2⟩ := jm_wd_ad (σ' := σ') h
    dsimp only at h2
    subst h2
    exact Or.inl ⟨k, e', h1⟩
  · exact Or.inr h
theorem jm_wd_D {α : Nat → Nat → Nat} {cy : jm_C} {σ σ' : jm_S} {A : Nat → Prop} (h : va_D A (jm_wd α cy σ)) : va_D A (jm_wd α cy σ') := by
  refine ⟨fun i j p q hi hj hpq => ?_, fun k q hk => ?_⟩
  · obtain ⟨p', h1, h2⟩ := jm_wd_ad (σ' := σ) hi
    obtain ⟨q', h3, h4⟩ := jm_wd_ad (σ' := σ) hj
    exact h.1 i j p' q' h1 h3 (by rw [h2, h4, hpq])
  · obtain ⟨q', h1, h2⟩ := jm_wd_ad (σ' := σ) hk
    rw [← h2]
    exact h.2 k q' h1
-- valid refs
def jm_okr (q : Nat × Nat) : Prop := (q.1 < 33 ∧ q.2 < jm_nr q.1) ∨ (40 ≤ q.1 ∧ q.1 < 45 ∧ q.2 = 0)
def jm_okv (v : jm_V) : Prop := match v with
  | .inl _ => True
  | .inr q => jm_okr q
def jm_oks : List jm_V → Prop
  | [] => True
  | v :: l => jm_okv v ∧ jm_oks l
def jm_oko (o : Option jm_V) : Prop := match o with
  | none => True
  | some v => jm_okv v
def jm_okl : List (Option jm_V) → Prop
  | [] => True
  | o :: l => jm_oko o ∧ jm_okl l
theorem jm_okl_gl : ∀ {ls : List (Option jm_V)} {i : Nat} {v : jm_V}, jm_okl ls → jm_gl ls i = some v → jm_okv v
  | [], _, _, _, e => by cases e
  | o :: l, 0, v, h, e => by
    have e : o = some v := e
    subst e
    exact h.1
  | o :: l, n + 1, v, h, e => jm_okl_gl h.2 e
theorem jm_oko_kl {o : Option jm_V} (h : jm_oko o) : jm_oko (jm_kl o) := by
  match o, h with
  | none, _ => exact trivial
  | some (.inl (.inl x)), _ => exact trivial
  | some (.inl (.inr x)), _ => exact trivial
  | some (.inr q), h => exact h
theorem jm_okl_s1 : ∀ {ls : List (Option jm_V)} {i : Nat} {v : jm_V}, jm_okl ls → jm_okv v → jm_okl (jm_s1 ls i v)
  | [], _, _, _, _ => trivial
  | o :: l, 0, v, h, hv => ⟨hv, h.2⟩
  | o :: l, 1, v, h, hv => ⟨jm_oko_kl h.1, jm_okl_s1 (i := 0) h.2 hv⟩
  | o :: l, n + 2, v, h, hv => ⟨h.1, jm_okl_s1 (i := n + 1) h.2 hv⟩
theorem jm_okl_s2 : ∀ {ls : List (Option jm_V)} {i : Nat} {v : jm_V}, jm_okl ls → jm_okv v → jm_okl (jm_s2 ls i v)
  | [], _, _, _, _ => trivial
  | [o], 0, v, h, hv => ⟨hv, trivial⟩
  | o :: o2 :: l, 0, v, h, hv => ⟨hv, trivial, h.2.2⟩
  | o :: l, 1, v, h, hv => ⟨jm_oko_kl h.1, jm_okl_s2 (i := 0) h.2 hv⟩
  | o :: l, n + 2, v, h, hv => ⟨h.1, jm_okl_s2 (i := n + 1) h.2 hv⟩
-- locals as the kit has them
def jm_lc (α : Nat → Nat → Nat) : Nat → List (Option jm_V) → List (Nat × Value)
  | _, [] => []
  | i, none :: l => jm_lc α (i + 1) l
  | i, some v :: l => (i, jm_cv α v) :: jm_lc α (i + 1) l
theorem jm_lc_gl {α : Nat → Nat → Nat} : ∀ {ls : List (Option jm_V)} {i j : Nat} {v : jm_V}, jm_gl ls i = some v → (j + i, jm_cv α v) ∈ jm_lc α j ls
  | [], _, _, _, e => by cases e
  | o :: l, 0, j, v, e => by
    have e : o = some v := e
    subst e
    exact List.mem_cons_self
  | none :: l, n + 1, j, v, e => by
    have h := jm_lc_gl (α := α) (j := j + 1) (show jm_gl l n = some v from e)
    rw [show j + (n + 1) = j + 1 + n by omega]
    exact h
  | some u :: l, n + 1, j, v, e => by
    have h := jm_lc_gl (α := α) (j := j + 1) (show jm_gl l n = some v from e)
    rw [show j + (n + 1) = j + 1 + n by omega]
    exact List.mem_cons_of_mem _ h
theorem jm_lc_le {α : Nat → Nat → Nat} : ∀ {ls : List (Option jm_V)} {j : Nat} {q : Nat × Value}, q ∈ jm_lc α j ls → j ≤ q.1
  | [], _, _, h => by cases h
  | none :: l, j, q, h => Nat.le_of_succ_le (jm_lc_le (ls := l) (j := j + 1) h)
  | some u :: l, j, q, h => by
    rcases List.mem_cons.mp h with e | h
    · rw [e]; exact Nat.le_refl _
    · exact Nat.le_of_succ_le (jm_lc_le (ls := l) (j := j + 1) h)
theorem jm_cv_kl {α : Nat → Nat → Nat} {o : Option jm_V} {v : jm_V} (h : jm_kl o = some v) : o = some v ∧ (jm_cv α v).category = 1 := by
  match o, h with
  | none, h => cases h
  | some (.inl (.inl x)), h => cases h; exact ⟨rfl, rfl⟩
  | some (.inl (.inr x)), h => cases h
  | some (.inr (a, b)), h => cases h; exact ⟨rfl, rfl⟩
theorem jm_lc_s1 {α : Nat → Nat → Nat} : ∀ {ls : List (Option jm_V)} {i j : Nat} {v : jm_V} {q : Nat × Value}, q ∈ jm_lc α j (jm_s1 ls i v) → q = (j + i, jm_cv α v) ∨ (q ∈ jm_lc α j ls ∧ q.1 ≠ j + i ∧ ¬ (q.1 + 1 = j + i ∧ q.2.category = 2))
  | [], _, _, _, _, h => by cases h
  | o :: l, 0, j, v, q, h => by
    rcases List.mem_cons.mp h with e | h9
    · exact Or.inl e
    · have hle := jm_lc_le h9
      refine Or.inr ⟨?_, by omega, fun z => by omega⟩
      clear h
      cases o with
      | none => exact h9
      | some u => exact List.mem_cons_of_mem _ h9
  | o :: l, 1, j, v, q, h => by
    have key : ∀ {q}, q ∈ jm_lc α (j + 1) (jm_s1 l 0 v) → q = (j + 1, jm_cv α v) ∨ (q ∈ jm_lc α j (o :: l) ∧ q.1 ≠ j + 1 ∧ ¬ (q.1 + 1 = j + 1 ∧ q.2.category = 2)) := by
      intro q h
      rcases jm_lc_s1 (ls := l) (i := 0) (j := j + 1) h with e | ⟨h1, h2, h3⟩
      · exact Or.inl e
      · have hle := jm_lc_le h1
        refine Or.inr ⟨?_, by omega, fun z => by omega⟩
        cases o with
        | none => exact h1
        | some u => exact List.mem_cons_of_mem _ h1
    have h : q ∈ jm_lc α j (jm_kl o :: jm_s1 l 0 v) := h
    cases hk : jm_kl o with
    | none => rw [hk] at h; exact key h
    | some u =>
      rw [hk] at h
      rcases List.mem_cons.mp h with e | h
      · obtain ⟨e1, e2⟩ := jm_cv_kl (α := α) hk
        subst e1
        rw [e]
        refine Or.inr ⟨List.mem_cons_self, by show j ≠ j + 1; omega, fun z => ?_⟩
        have : (jm_cv α u).category = 2 := z.2
        omega
      · exact key h
  | o :: l, n + 2, j, v, q, h => by
    have key : ∀ {q}, q ∈ jm_lc α (j + 1) (jm_s1 l (n + 1) v) → q = (j + (n + 2), jm_cv α v) ∨ (q ∈ jm_lc α j (o :: l) ∧ q.1 ≠ j + (n + 2) ∧ ¬ (q.1 + 1 = j + (n + 2) ∧ q.2.category = 2)) := by
      intro q h
      rcases jm_lc_s1 (ls := l) (i := n + 1) (j := j + 1) h with e | ⟨h1, h2, h3⟩
      · exact Or.inl (by rw [e]; congr 1; omega)
      · refine Or.inr ⟨?_, by omega, fun z => h3 ⟨by omega, z.2⟩⟩
        cases o with
        | none => exact h1
        | some u => exact List.mem_cons_of_mem _ h1
    have h : q ∈ jm_lc α j (o :: jm_s1 l (n + 1) v) := h
    cases o with
    | none => exact key h
    | some u =>
      rcases List.mem_cons.mp h with e | h
      · rw [e]
        exact Or.inr ⟨List.mem_cons_self, by show j ≠ j + (n + 2); omega, fun z => by have := z.1; dsimp only at this; omega⟩
      · exact key h
theorem jm_lc_s2 {α : Nat → Nat → Nat} : ∀ {ls : List (Option jm_V)} {i j : Nat} {v : jm_V} {q : Nat × Value}, q ∈ jm_lc α j (jm_s2 ls i v) → q = (j + i, jm_cv α v) ∨ (q ∈ jm_lc α j ls ∧ q.1 ≠ j + i ∧ q.1 ≠ j + i + 1 ∧ ¬ (q.1 + 1 = j + i ∧ q.2.category = 2))
  | [], _, _, _, _, h => by cases h
  | [o], 0, j, v, q, h => by
    rcases List.mem_cons.mp h with e | h
    · exact Or.inl e
    · cases h
  | o :: o2 :: l, 0, j, v, q, h => by
    rcases List.mem_cons.mp h with e | h
    · exact Or.inl e
    · have h : q ∈ jm_lc α (j + 1 + 1) l := h
      have hle := jm_lc_le h
      refine Or.inr ⟨?_, by omega, by omega, fun z => by omega⟩
      have h2 : q ∈ jm_lc α (j + 1) (o2 :: l) := by
        cases o2 with
        | none => exact h
        | some u => exact List.mem_cons_of_mem _ h
      cases o with
      | none => exact h2
      | some u => exact List.mem_cons_of_mem _ h2
  | o :: l, 1, j, v, q, h => by
    have key : ∀ {q}, q ∈ jm_lc α (j + 1) (jm_s2 l 0 v) → q = (j + 1, jm_cv α v) ∨ (q ∈ jm_lc α j (o :: l) ∧ q.1 ≠ j + 1 ∧ q.1 ≠ j + 1 + 1 ∧ ¬ (q.1 + 1 = j + 1 ∧ q.2.category = 2)) := by
      intro q h
      rcases jm_lc_s2 (ls := l) (i := 0) (j := j + 1) h with e | ⟨h1, h2, h3, h4⟩
      · exact Or.inl e
      · have hle := jm_lc_le h1
        refine Or.inr ⟨?_, by omega, by omega, fun z => by omega⟩
        cases o with
        | none => exact h1
        | some u => exact List.mem_cons_of_mem _ h1
    have h : q ∈ jm_lc α j (jm_kl o :: jm_s2 l 0 v) := h
    cases hk : jm_kl o with
    | none => rw [hk] at h; exact key h
    | some u =>
      rw [hk] at h
      rcases List.mem_cons.mp h with e | h
      · obtain ⟨e1, e2⟩ := jm_cv_kl (α := α) hk
        subst e1
        rw [e]
        refine Or.inr ⟨List.mem_cons_self, by show j ≠ j + 1; omega, by show j ≠ j + 1 + 1; omega, fun z => ?_⟩
        have : (jm_cv α u).category = 2 := z.2
        omega
      · exact key h
  | o :: l, n + 2, j, v, q, h => by
    have key : ∀ {q}, q ∈ jm_lc α (j + 1) (jm_s2 l (n + 1) v) → q = (j + (n + 2), jm_cv α v) ∨ (q ∈ jm_lc α j (o :: l) ∧ q.1 ≠ j + (n + 2) ∧ q.1 ≠ j + (n + 2) + 1 ∧ ¬ (q.1 + 1 = j + (n + 2) ∧ q.2.category = 2)) := by
      intro q h
      rcases jm_lc_s2 (ls := l) (i := n + 1) (j := j + 1) h with e | ⟨h1, h2, h3, h4⟩
      · exact Or.inl (by rw [e]; congr 1; omega)
      · refine Or.inr ⟨?_, by omega, by omega, fun z => h4 ⟨by omega, z.2⟩⟩
        cases o with
        | none => exact h1
        | some u => exact List.mem_cons_of_mem _ h1
    have h : q ∈ jm_lc α j (o :: jm_s2 l (n + 1) v) := h
    cases o with
    | none => exact key h
    | some u =>
      rcases List.mem_cons.mp h with e | h
      · rw [e]
        exact Or.inr ⟨List.mem_cons_self, by show j ≠ j + (n + 2); omega, by show j ≠ j + (n + 2) + 1; omega, fun z => by have := z.1; dsimp only at this; omega⟩
      · exact key h
/-- locals behind a store, as the kit's rows give them -/
theorem jm_lv_s1 {α : Nat → Nat → Nat} {ls' : Array Slot} {nL i : Nat} {ls : List (Option jm_V)} {v : jm_V} (h : lv_has ls' nL ((i, jm_cv α v) :: (jm_lc α 0 ls).filter (fun q => !(q.1 == i) && !(q.1 + 1 == i && q.2.category == 2)))) : lv_has ls' nL (jm_lc α 0 (jm_s1 ls i v)) := by
  refine ⟨h.1, h.2.1, fun q hq => h.2.2 q ?_⟩
  rcases jm_lc_s1 hq with e | ⟨h1, h2, h3⟩
  · rw [Nat.zero_add] at e
    rw [e]
    exact List.mem_cons_self
  · rw [Nat.zero_add] at h2 h3
    refine List.mem_cons_of_mem _ (List.mem_filter.mpr ⟨h1, ?_⟩)
    simp only [Bool.and_eq_true, Bool.not_eq_true', beq_eq_false_iff_ne, ne_eq, Bool.and_eq_false_iff]
    refine ⟨h2, ?_⟩
    by_cases e1 : q.1 + 1 = i
    · exact Or.inr fun e2 => h3 ⟨e1, e2⟩
    · exact Or.inl e1
theorem jm_lv_s2 {α : Nat → Nat → Nat} {ls' : Array Slot} {nL i : Nat} {ls : List (Option jm_V)} {v : jm_V} (h : lv_has ls' nL ((i, jm_cv α v) :: (jm_lc α 0 ls).filter (fun q => !(q.1 == i) && (!(q.1 == i + 1) && !(q.1 + 1 == i && q.2.category == 2))))) : lv_has ls' nL (jm_lc α 0 (jm_s2 ls i v)) := by
  refine ⟨h.1, h.2.1, fun q hq => h.2.2 q ?_⟩
  rcases jm_lc_s2 hq with e | ⟨h1, h2, h3, h4⟩
  · rw [Nat.zero_add] at e
    rw [e]
    exact List.mem_cons_self
  · rw [Nat.zero_add] at h2 h3 h4
    refine List.mem_cons_of_mem _ (List.mem_filter.mpr ⟨h1, ?_⟩)
    simp only [Bool.and_eq_true, Bool.not_eq_true', beq_eq_false_iff_ne, ne_eq, Bool.and_eq_false_iff]
    refine ⟨h2, h3, ?_⟩
    by_cases e1 : q.1 + 1 = i
    · exact Or.inr fun e2 => h4 ⟨e1, e2⟩
    · exact Or.inl e1
theorem jm_lv_at {α : Nat → Nat → Nat} {lsA : Array Slot} {nL i : Nat} {ls : List (Option jm_V)} {v : jm_V} (h : lv_has lsA nL (jm_lc α 0 ls)) (e : jm_gl ls i = some v) : lsA[i]? = some (.val (jm_cv α v)) := by
  have h1 := h.2.2 _ (jm_lc_gl (α := α) (j := 0) e)
  rw [Nat.zero_add] at h1
  exact h1
end
section
-- SOUNDNESS, its words: what holds in a method's activation, what a method's contract says
def jm_nest (w : Cond) : Bool := match w with
  | .fieldLinkNest .. => true
  | .methodLinkNest .. => true
  | _ => false
def jm_tgd : List Cond := lw_tbl.filter goodWord
theorem jm_tgd_mem {w : Cond} (h : w ∈ lw_tbl) (hg : goodWord w = true) : w ∈ jm_tgd := List.mem_filter.mpr ⟨h, hg⟩
theorem jm_good_lay {C : String} {T : u_T} {N : Nat} (h : ∀ w ∈ u_ws C T N, w ∈ lw_tbl) : ∀ w ∈ u_ws C T N, w ∈ jm_tgd := by
  intro w hw
  refine jm_tgd_mem (h w hw) ?_
  obtain ⟨k, -, rfl⟩ := List.mem_map.mp hw
  unfold u_lay
  split <;> rfl
def jm_rm (d : Nat) : Room := { frames := d + 1, cells := 0, slots := 0, locals := 60 * (d + 1) }
def jm_Zs (α : Nat → Nat → Nat) (A : Nat → Prop) (s : State) : Prop := ∀ i, i < 5 → va_Z "ShaftDiscs" (jm_sn i) "[I" (.ref (α (40 + i) 0)) A s s.heap ∧ va_T .int (α (40 + i) 0) (jm_tb (40 + i)).length (fun j => .int ((jm_tb (40 + i)).getD j 0)) A s s.heap
def jm_X (α : Nat → Nat → Nat) (cy : jm_C) (D : va_G) (A : Nat → Prop) (M : jm_M) (cc : ByteArray) (ret : Option FieldType) (p : Program) (s : State) (m : MethodId) (args : Array Value) (meth : Method) (c : Code) : Prop :=
  p.tables.exec = Jvm.exec ∧ c.code = cc ∧ c.maxLocals = M.2.2.1 ∧ s.vm.findClass (jm_cn M.1) = some m.cls ∧ (∀ w ∈ jm_tgd, w.before args s = true) ∧ (∀ w ∈ lw_tbl, jm_nest w = true → va_Nw w s) ∧ va_K D vwCl (jm_tys cy) s ∧ jm_Zs α A s ∧ (∀ q, s.heap.size ≤ q → A q) ∧ meth.sig.returnType = ret ∧ meth.locks = false
def jm_H (α : Nat → Nat → Nat) (cy : jm_C) (D : va_G) (A : Nat → Prop) (s : State) (σ : jm_S) (H : Heap) (locs : List Loc) : Prop := va_P D vwCl (jm_wd α cy σ) H ∧ va_D A (jm_wd α cy σ) ∧ va_S A s.heap H locs
def jm_Q (α : Nat → Nat → Nat) (cy : jm_C) (D : va_G) (A : Nat → Prop) (r : Option jm_V) (σ' : jm_S) : Array Value → State → Outcome → State → Prop := fun _ st oc t => oc = .returned (r.map (jm_cv α)) ∧ jm_oko r ∧ va_P D vwCl (jm_wd α cy σ') t.heap ∧ va_F A st t
def jm_Pw (α : Nat → Nat → Nat) (cy : jm_C) (D : va_G) (sz : Nat) (σ : jm_S) (U : State) : Prop := U.heap.size = sz ∧ va_P D vwCl (jm_wd α cy σ) U.heap ∧ va_D (fun _ => True) (jm_wd α cy σ) ∧ va_K D vwCl (jm_tys cy) U ∧ (∀ w ∈ lw_tbl, jm_nest w = true → va_Nw w U) ∧ jm_Zs α (va_A (jm_wd α cy σ) sz) U
def jm_Body (l : Launch) (α : Nat → Nat → Nat) (cy : jm_C) (D : va_G) (n : Nat) : Prop := ∀ (d : Nat) (M : jm_M) (y : MethodName) (cc : ByteArray) (ret : Option FieldType), jm_ok M y cc ret → ∀ (pc : Nat) (ls : List (Option jm_V)) (st : List jm_V) (σ : jm_S) (r : Option jm_V) (σ' : jm_S), jm_run n d (M, pc, ls, st, σ) = some (r, σ') →
  ∀ (p : Program) (e : Env) (s : State) (m : MethodId) (args : Array Value) (below : List Frame) (meth : Method) (c : Code) (A : Nat → Prop) (H : Heap) (locs : List Loc) (lsA : Array Slot), jm_X α cy D A M cc ret p s m args meth c → jm_H α cy D A s σ H locs → lv_has lsA M.2.2.1 (jm_lc α 0 ls) → jm_okl ls → jm_oks st →
  W p l e (jm_rm d) s m args below meth c H locs 0 0 (MQ below (jm_Q α cy D A r σ') args s 0 0 A) (F0 m pc lsA (st.map (jm_cv α)))
def jm_Metn (l : Launch) (α : Nat → Nat → Nat) (cy : jm_C) (D : va_G) (n : Nat) : Prop := ∀ (d : Nat) (M : jm_M) (y : MethodName) (cc : ByteArray) (ret : Option FieldType), jm_ok M y cc ret → ∀ (as : List jm_V) (σ : jm_S) (r : Option jm_V) (σ' : jm_S), jm_oks as → jm_cats as ≤ M.2.2.1 → jm_run n d (jm_en M as σ) = some (r, σ') →
  ∀ sz, Met l y (Cond.code y cc M.2.2.1 ret :: jm_tgd) (jm_rm d) (va_Pc (as.map (jm_cv α)) (jm_Pw α cy D sz σ)) (jm_Q α cy D (va_A (jm_wd α cy σ) sz) r σ') 0 0 (va_A (jm_wd α cy σ) sz)
-- entry
theorem jm_cat_cv (α : Nat → Nat → Nat) (v : jm_V) : (jm_cv α v).category = jm_cat v := by
  match v with
  | .inl (.inl x) => rfl
  | .inl (.inr x) => rfl
  | .inr (k, r) => rfl
theorem jm_cats_sl (α : Nat → Nat → Nat) : ∀ as : List jm_V, (lg_sl (as.map (jm_cv α))).length = jm_cats as
  | [] => rfl
  | v :: l => by
    have ih := jm_cats_sl α l
    unfold lg_sl at ih ⊢
    rw [List.map_cons, List.flatMap_cons, List.length_append, ih]
    show _ = jm_cat v + jm_cats l
    rw [jm_cat_cv]
    match v with
    | .inl (.inl x) => rfl
    | .inl (.inr x) => rfl
    | .inr (k, r) => rfl
theorem jm_cats_sum (α : Nat → Nat → Nat) : ∀ as : List jm_V, ((as.map (jm_cv α)).map fun v => v.category).sum = jm_cats as
  | [] => rfl
  | v :: l => by
    rw [List.map_cons, List.map_cons, List.sum_cons, jm_cats_sum α l, jm_cat_cv]
    rfl
theorem jm_lc_rep (α : Nat → Nat → Nat) : ∀ (n j : Nat), jm_lc α j (List.replicate n none) = []
  | 0, _ => rfl
  | n + 1, j => jm_lc_rep α n (j + 1)
theorem jm_lc_lo (α : Nat → Nat → Nat) : ∀ (as : List jm_V) (n j : Nat) (q : Nat × Value), q ∈ jm_lc α j (jm_lo as n) → q ∈ lv_args j (as.map (jm_cv α))
  | [], n, j, q, h => by
    have h : q ∈ jm_lc α j (List.replicate n none) := h
    rw [jm_lc_rep] at h
    cases h
  | .inl (.inl x) :: l, n, j, q, h => by
    rcases List.mem_cons.mp h with e | h
    · rw [e]; exact List.mem_cons_self
    · exact List.mem_cons_of_mem _ (jm_lc_lo α l _ _ q h)
  | .inl (.inr x) :: l, n, j, q, h => by
    rcases List.mem_cons.mp h with e | h
    · rw [e]; exact List.mem_cons_self
    · exact List.mem_cons_of_mem _ (jm_lc_lo α l _ _ q h)
  | .inr (k, r) :: l, n, j, q, h => by
    rcases List.mem_cons.mp h with e | h
    · rw [e]; exact List.mem_cons_self
    · exact List.mem_cons_of_mem _ (jm_lc_lo α l _ _ q h)
theorem jm_okl_rep : ∀ n : Nat, jm_okl (List.replicate n none)
  | 0 => trivial
  | n + 1 => ⟨trivial, jm_okl_rep n⟩
theorem jm_okl_lo : ∀ (as : List jm_V) (n : Nat), jm_oks as → jm_okl (jm_lo as n)
  | [], n, _ => jm_okl_rep n
  | .inl (.inl x) :: l, n, h => ⟨trivial, jm_okl_lo l _ h.2⟩
  | .inl (.inr x) :: l, n, h => ⟨trivial, trivial, jm_okl_lo l _ h.2⟩
  | .inr q :: l, n, h => ⟨h.1, jm_okl_lo l _ h.2⟩
theorem jm_nw_same {U V : State} (hv : U.vm = V.vm) (h : ∀ w ∈ lw_tbl, jm_nest w = true → va_Nw w U) : ∀ w ∈ lw_tbl, jm_nest w = true → va_Nw w V := by
  intro w hw hn
  have h1 := h w hw hn
  match w, hn, h1 with
  | .fieldLinkNest a b c d e f, _, h1 => exact va_Nw.same rfl hv h1
  | .methodLinkNest a b c d, _, h1 => exact va_Nw.same rfl hv h1
theorem jm_nw_warm {s U : State} (hW : s.WarmedH U.vm) (h : ∀ w ∈ lw_tbl, jm_nest w = true → va_Nw w s) : ∀ w ∈ lw_tbl, jm_nest w = true → va_Nw w U := by
  intro w hw hn
  have h1 := h w hw hn
  match w, hn, h1 with
  | .fieldLinkNest a b c d e f, _, h1 => exact va_Nw.warmF hW h1
  | .methodLinkNest a b c d, _, h1 => exact va_Nw.warmM hW h1
theorem jm_blind (α : Nat → Nat → Nat) (cy : jm_C) (D : va_G) (sz : Nat) (σ : jm_S) (as : List Value) : FrameBlind (va_Pc as (jm_Pw α cy D sz σ)) := by
  intro a U g mk h
  obtain ⟨h0, h1, h2, h3, h4, h5, h6⟩ := h
  refine ⟨h0, h1, h2, h3, va_K.moved (u := U) (U := U.calling g mk a) (Vm.Alike.refl U.vm) h4, jm_nw_same (U := U) (V := U.calling g mk a) rfl h5, fun i hi => ?_⟩
  obtain ⟨z1, z2⟩ := h6 i hi
  exact ⟨va_Z.moved (u := U) (U := U.calling g mk a) (Vm.Alike.refl U.vm) z1, va_T.moved (u := U) (U := U.calling g mk a) (Vm.Alike.refl U.vm) z2⟩
set_option maxHeartbeats 4000000 in
theorem jm_met_of {l : Launch} {α : Nat → Nat → Nat} {cy : jm_C} {D : va_G} {n : Nat} (hB : jm_Body l α cy D n) : jm_Metn l α cy D n := by
  intro d M y cc ret hM as σ r σ' hok hcat hrun sz
  have hM' := hM
  obtain ⟨-, -, -, hcls, hpl, -, -⟩ := hM'
  refine Met.ofW (cc := cc) (maxL := M.2.2.1) (ret := ret) hpl rfl ?_
  intro p e s m args below meth c s₁ B hml hv
  obtain ⟨rfl, hsz, hP, hD, hK, hN, hZ⟩ := hv
  subst hsz
  have hts := atoms_spec (ws := Cond.code y cc M.2.2.1 ret :: jm_tgd) B.pre
  have hown : s.vm.findClass (jm_cn M.1) = some m.cls := by
    rw [← hcls]
    exact findClass_of_methodNamed B.named
  have hl := lv_entry (as.map (jm_cv α)) (n := M.2.2.1) (by rw [jm_cats_sl]; exact hcat)
  rw [lg_entry_eq]
  generalize (lg_sl (as.map (jm_cv α)) ++ List.replicate (M.2.2.1 - (lg_sl (as.map (jm_cv α))).length) Slot.unset).toArray = lsA at hl ⊢
  exact hB d M y cc ret hM 0 (jm_lo as M.2.2.1) [] σ r σ' hrun p e s m _ below meth c (va_A (jm_wd α cy σ) s.heap.size) s.heap [] lsA
    ⟨B.exec, B.bytes, hml, hown, fun w hw => hts w (List.mem_cons_of_mem _ hw), hN, hK, hZ, fun q hq => Or.inr hq, B.returns, B.notSynchronized⟩
    ⟨hP, hD.self, va_S.rf⟩ ⟨hl.1, hl.2.1, fun q hq => hl.2.2 q (jm_lc_lo α as _ 0 q hq)⟩ (jm_okl_lo as _ hok) trivial
-- the machine's step, taken apart
def jm_ax (rec : Nat → jm_F → Option jm_Rs) (d : Nat) (a : jm_A) : Option jm_Rs := match a with
  | none => none
  | some (.inl (l, o)) => jm_sel (rec d) l o
  | some (.inr (.inl (b, r))) => cond b (some r) none
  | some (.inr (.inr (M, as, g))) => (jm_cal rec d M as g.2.2.2.2).bind fun r => rec d (jm_psh g r)
section JAX
variable {rec : Nat → jm_F → Option jm_Rs} {d : Nat} {st : List jm_V} {z : jm_Rs}
theorem jm_ax_if {b : Bool} {f : jm_F} (e : jm_ax rec d (jm_if b f) = some z) : b = true ∧ rec d f = some z := by
  cases b with
  | true => exact ⟨rfl, e⟩
  | false => cases e
theorem jm_ax_p1 {k : Int32 → List jm_V → jm_A} (e : jm_ax rec d (jm_p1 st k) = some z) : ∃ x st', st = jm_I x :: st' ∧ jm_ax rec d (k x st') = some z := by
  match st, e with
  | .inl (.inl x) :: st, e => exact ⟨x, st, rfl, e⟩
  | [], e => cases e
  | .inl (.inr x) :: st, e => cases e
  | .inr q :: st, e => cases e
theorem jm_ax_q1 {k : Int64 → List jm_V → jm_A} (e : jm_ax rec d (jm_q1 st k) = some z) : ∃ x st', st = jm_L x :: st' ∧ jm_ax rec d (k x st') = some z := by
  match st, e with
  | .inl (.inr x) :: st, e => exact ⟨x, st, rfl, e⟩
  | [], e => cases e
  | .inl (.inl x) :: st, e => cases e
  | .inr q :: st, e => cases e
theorem jm_ax_p2 {k : Int32 → Int32 → List jm_V → jm_A} (e : jm_ax rec d (jm_p2 st k) = some z) : ∃ x y st', st = jm_I y :: jm_I x :: st' ∧ jm_ax rec d (k x y st') = some z := by
  match st, e with
  | .inl (.inl y) :: .inl (.inl x) :: st, e => exact ⟨x, y, st, rfl, e⟩
  | [], e => cases e
  | [.inl (.inl y)], e => cases e
  | .inl (.inl y) :: .inl (.inr x) :: st, e => cases e
  | .inl (.inl y) :: .inr x :: st, e => cases e
  | .inl (.inr x) :: st, e => cases e
  | .inr q :: st, e => cases e
theorem jm_ax_q2 {k : Int64 → Int64 → List jm_V → jm_A} (e : jm_ax rec d (jm_q2 st k) = some z) : ∃ x y st', st = jm_L y :: jm_L x :: st' ∧ jm_ax rec d (k x y st') = some z := by
  match st, e with
  | .inl (.inr y) :: .inl (.inr x) :: st, e => exact ⟨x, y, st, rfl, e⟩
  | [], e => cases e
  | [.inl (.inr y)], e => cases e
  | .inl (.inr y) :: .inl (.inl x) :: st, e => cases e
  | .inl (.inr y) :: .inr x :: st, e => cases e
  | .inl (.inl x) :: st, e => cases e
  | .inr q :: st, e => cases e
theorem jm_ax_pr {k : Nat → Nat → List jm_V → jm_A} (e : jm_ax rec d (jm_pr st k) = some z) : ∃ g r st', st = jm_R g r :: st' ∧ jm_ax rec d (k g r st') = some z := by
  match st, e with
  | .inr (g, r) :: st, e => exact ⟨g, r, st, rfl, e⟩
  | [], e => cases e
  | .inl (.inr x) :: st, e => cases e
  | .inl (.inl x) :: st, e => cases e
theorem jm_ax_ix {k : Int32 → Nat → Nat → List jm_V → jm_A} (e : jm_ax rec d (jm_ix st k) = some z) : ∃ i g r st', st = jm_I i :: jm_R g r :: st' ∧ jm_ax rec d (k i g r st') = some z := by
  match st, e with
  | .inl (.inl i) :: .inr (g, r) :: st, e => exact ⟨i, g, r, st, rfl, e⟩
  | [], e => cases e
  | [.inl (.inl y)], e => cases e
  | .inl (.inl y) :: .inl x :: st, e => cases e
  | .inl (.inr x) :: st, e => cases e
  | .inr q :: st, e => cases e
end JAX
theorem jm_lk_mem : ∀ {l : List (Nat × Instr × Nat)} {pc : Nat} {q : Instr × Nat}, jm_lk l pc = some q → (pc, q) ∈ l
  | [], _, _, e => by cases e
  | (a, i) :: t, pc, q, e => by
    unfold jm_lk at e
    split at e
    · next h =>
      cases e
      rw [Nat.eq_of_beq_eq_true h]
      exact List.mem_cons_self
    · exact List.mem_cons_of_mem _ (jm_lk_mem e)
theorem jm_lk2_mem {β : Type} : ∀ {l : List ((Nat × Nat) × β)} {c i : Nat} {a : β}, jm_lk2 l c i = some a → ((c, i), a) ∈ l
  | [], _, _, _, e => by cases e
  | (q, b) :: t, c, i, a, e => by
    unfold jm_lk2 at e
    split at e
    · next h1 h2 =>
      cases e
      have e1 := Nat.eq_of_beq_eq_true h1
      have e2 := Nat.eq_of_beq_eq_true h2
      have : q = (c, i) := Prod.ext e2 e1
      rw [this]
      exact List.mem_cons_self
    · exact List.mem_cons_of_mem _ (jm_lk2_mem e)
end
section
-- rows of the machine over the world: fields, arrays, statics, calls
theorem jm_okw {k r : Nat} (h : jm_okr (k, r)) (h5 : (jm_sh k).1 ≠ 5) : k < 33 ∧ r < jm_nr k := by
  rcases h with h | ⟨h1, h2, -⟩
  · exact h
  · have : ∀ k, k < 45 → 40 ≤ k → (jm_sh k).1 = 5 := by decide
    exact absurd (this k h2 h1) h5
theorem jm_ce0 {α : Nat → Nat → Nat} {cy : jm_C} {σ : jm_S} {k r ci : Nat} (h : jm_sh k = (0, ci)) : jm_ce α cy σ k r = .inr (ci, (List.range (jm_nf ci)).map fun j => match jm_rf k r j with
    | some q => .ref (α q.1 q.2)
    | none => .int (σ.1 k r j)) := by
  unfold jm_ce
  rw [h]
  rfl
theorem jm_ce1 {α : Nat → Nat → Nat} {cy : jm_C} {σ : jm_S} {k r n : Nat} (h : jm_sh k = (1, n)) : jm_ce α cy σ k r = .inl (cy.1, n, .inl (σ.1 k r)) := by
  unfold jm_ce
  rw [h]
  rfl
theorem jm_ce2 {α : Nat → Nat → Nat} {cy : jm_C} {σ : jm_S} {k r n : Nat} (h : jm_sh k = (2, n)) : jm_ce α cy σ k r = .inl (cy.2.1, n, .inr (.inl (σ.2 k r))) := by
  unfold jm_ce
  rw [h]
  rfl
theorem jm_ce3 {α : Nat → Nat → Nat} {cy : jm_C} {σ : jm_S} {k r n : Nat} (h : jm_sh k = (3, n)) : jm_ce α cy σ k r = .inl (cy.2.2.1, n, .inl (σ.1 k r)) := by
  unfold jm_ce
  rw [h]
  rfl
theorem jm_ce4 {α : Nat → Nat → Nat} {cy : jm_C} {σ : jm_S} {k r n : Nat} (h : jm_sh k = (4, n)) : jm_ce α cy σ k r = .inl (cy.2.2.2, n, .inr (.inr (.inr (.inr fun i => if i < n then some (α (jm_ra k r i).1 (jm_ra k r i).2) else none)))) := by
  unfold jm_ce
  rw [h]
  rfl
theorem jm_wr_at {σ : jm_S} {k r : Nat} {f : Nat → Int32} : (jm_wr σ k r f).1 k r = f := by simp [jm_wr]
theorem jm_wr_ne {σ : jm_S} {k r k' r' : Nat} {f : Nat → Int32} (h : ¬ (k' = k ∧ r' = r)) : (jm_wr σ k r f).1 k' r' = σ.1 k' r' := by simp [jm_wr, h]
theorem jm_wl_at {σ : jm_S} {k r : Nat} {f : Nat → Int64} : (jm_wl σ k r f).2 k r = f := by simp [jm_wl]
theorem jm_wl_ne {σ : jm_S} {k r k' r' : Nat} {f : Nat → Int64} (h : ¬ (k' = k ∧ r' = r)) : (jm_wl σ k r f).2 k' r' = σ.2 k' r' := by simp [jm_wl, h]
theorem jm_set_r {α : Nat → Nat → Nat} {cy : jm_C} {σ : jm_S} {k r : Nat} {f : Nat → Int32} (hk : k < 33) (hr : r < jm_nr k) : (jm_wd α cy σ).set (jm_bs k + r) (α k r, jm_ce α cy (jm_wr σ k r f) k r) = jm_wd α cy (jm_wr σ k r f) :=
  jm_wd_set hk hr (fun _ _ h => jm_wr_ne h) (fun _ _ _ => rfl)
theorem jm_set_l {α : Nat → Nat → Nat} {cy : jm_C} {σ : jm_S} {k r : Nat} {f : Nat → Int64} (hk : k < 33) (hr : r < jm_nr k) : (jm_wd α cy σ).set (jm_bs k + r) (α k r, jm_ce α cy (jm_wl σ k r f) k r) = jm_wd α cy (jm_wl σ k r f) :=
  jm_wd_set hk hr (fun _ _ _ => rfl) (fun _ _ h => jm_wl_ne h)
theorem jm_in_of {i : Int32} {n : Nat} (h : jm_in3 i n = true) : vp_in i n := by
  have h9 := of_decide_eq_true (show decide (¬ (i < 0 ∨ n ≤ i.toNatClampNeg)) = true from h)
  exact h9
section JR
variable {l : Launch} {α : Nat → Nat → Nat} {cy : jm_C} {D : va_G} {M : jm_M} {cc : ByteArray} {ret : Option FieldType} {R : Room} {Q : State → Prop}
  {p : Program} {e : Env} {s : State} {m : MethodId} {args : Array Value} {below : List Frame} {meth : Method} {c : Code} {A : Nat → Prop} {H : Heap} {locs : List Loc} {ls : Array Slot} {rest : List Value} {σ : jm_S} {pc ix : Nat} {cells slots : Nat}
theorem jm_rget (X : jm_X α cy D A M cc ret p s m args meth c) (hH : jm_H α cy D A s σ H locs) {k r ci j z : Nat} (hlk : jm_lk2 jm_flL M.1 ix = some (ci, j, z)) (hok : jm_okr (k, r)) (hsh : jm_sh k = (0, ci)) (hd : decode cc pc = .ok (.getfield ix, 3)) {v : Value} (hv : (match jm_rf k r j with
    | some q => Value.ref (α q.1 q.2)
    | none => .int (σ.1 k r j)) = v)
    (kk : W p l e R s m args below meth c H locs cells slots Q (F0 m (pc + 3) ls (v :: rest))) : W p l e R s m args below meth c H locs cells slots Q (F0 m pc ls (.ref (α k r) :: rest)) := by
  obtain ⟨hx, hb, hml, hown, hts, hN, hK, hZ, hA, hr, hlocks⟩ := X
  obtain ⟨hP, hD, hS⟩ := hH
  obtain ⟨h1, h2⟩ := jm_okw hok (by rw [hsh]; intro h9; cases h9)
  obtain ⟨C, T, N, ty0, hc, hnf, hj, hin, -, -, hlink, -, -⟩ := jm_flk _ (jm_lk2_mem hlk)
  dsimp only at hc hnf hj hlink
  have he := jm_wd_at (α := α) (cy := cy) (σ := σ) h1 h2
  rw [jm_ce0 hsh] at he
  have hfs : ((List.range (jm_nf ci)).map fun j => match jm_rf k r j with
      | some q => Value.ref (α q.1 q.2)
      | none => .int (σ.1 k r j))[j]? = some v := by
    rw [List.getElem?_map, List.getElem?_range (by rw [hnf]; exact hj), ← hv]
    rfl
  rcases hlink with hlink | ⟨host, hlink⟩
  · exact va_get hx hb hts (jm_good_lay hin) hown hK hP _ he hc j hj (hts _ (jm_tgd_mem hlink rfl)) (fun _ h => h) hfs hd kk
  · exact va_getN hx hb hts (jm_good_lay hin) hown hK hP _ he hc j hj (va_Nw.use rfl (hN _ hlink rfl)) (fun _ h => h) hfs hd kk
theorem jm_rput (X : jm_X α cy D A M cc ret p s m args meth c) (hH : jm_H α cy D A s σ H locs) {k r ci j z : Nat} {x : Int32} (hlk : jm_lk2 jm_flL M.1 ix = some (ci, j, z)) (hok : jm_okr (k, r)) (hsh : jm_sh k = (0, ci)) (hrf : jm_rf k r j = none) (hz : z = 0 ∨ (z = 1 ∧ (x = 0 ∨ x = 1))) (hd : decode cc pc = .ok (.putfield ix, 3))
    (kk : ∀ (H1 : Heap) (locs1 : List Loc), jm_H α cy D A s (jm_wi σ k r j x) H1 locs1 → W p l e R s m args below meth c H1 locs1 cells slots Q (F0 m (pc + 3) ls rest)) : W p l e R s m args below meth c H locs cells slots Q (F0 m pc ls (.int x :: .ref (α k r) :: rest)) := by
  obtain ⟨hx, hb, hml, hown, hts, hN, hK, hZ, hA, hr, hlocks⟩ := X
  obtain ⟨hP, hD, hS⟩ := hH
  obtain ⟨h1, h2⟩ := jm_okw hok (by rw [hsh]; intro h9; cases h9)
  obtain ⟨C, T, N, ty0, hc, hnf, hj, hin, hty, hnm, hlink, hz0, hz1⟩ := jm_flk _ (jm_lk2_mem hlk)
  dsimp only at hc hnf hj hlink hz0 hz1
  have he := jm_wd_at (α := α) (cy := cy) (σ := σ) h1 h2
  rw [jm_ce0 hsh] at he
  obtain ⟨ty, hfin, hpd, hnar, hfit⟩ : ∃ ty : FieldType, (T j).2.2.2 = false ∧ parseFieldDescriptor (T j).2.2.1 = some ty ∧ narrow ty (.int x) = .int x ∧ fits ty (.int x) = true := by
    rcases hz with hz | ⟨hz, hx01⟩
    · obtain ⟨a, b⟩ := hz0 hz
      exact ⟨.int, a, b, rfl, rfl⟩
    · obtain ⟨a, b⟩ := hz1 hz
      refine ⟨.boolean, a, b, ?_, ?_⟩ <;> rcases hx01 with rfl | rfl <;> decide
  have hset : ((List.range (jm_nf ci)).map fun j => match jm_rf k r j with
      | some q => Value.ref (α q.1 q.2)
      | none => .int (σ.1 k r j)).set j (.int x) = (List.range (jm_nf ci)).map fun i => match jm_rf k r i with
      | some q => Value.ref (α q.1 q.2)
      | none => .int ((jm_wi σ k r j x).1 k r i) := by
    apply List.ext_getElem?
    intro i
    rw [List.getElem?_set]
    by_cases hi : j = i
    · subst hi
      rw [if_pos rfl, if_pos (by simp [hnf, hj]), List.getElem?_map, List.getElem?_range (by rw [hnf]; exact hj)]
      simp [hrf, jm_wi, jm_wr_at, upd]
    · rw [if_neg hi, List.getElem?_map, List.getElem?_map]
      by_cases hlt : i < jm_nf ci
      · rw [List.getElem?_range hlt]
        have hi' : ¬ i = j := fun q => hi q.symm
        simp [jm_wi, jm_wr_at, upd, hi']
      · rw [List.getElem?_eq_none (by simp; omega)]
        rfl
  have hw : (jm_wd α cy σ).set (jm_bs k + r) (α k r, .inr (ci, ((List.range (jm_nf ci)).map fun j => match jm_rf k r j with
      | some q => Value.ref (α q.1 q.2)
      | none => .int (σ.1 k r j)).set j (.int x))) = jm_wd α cy (jm_wi σ k r j x) := by
    rw [hset]
    have := jm_set_r (α := α) (cy := cy) (σ := σ) (f := upd (σ.1 k r) j x) h1 h2
    rw [jm_ce0 hsh] at this
    exact this
  have hl : j < ((List.range (jm_nf ci)).map fun j => match jm_rf k r j with
      | some q => Value.ref (α q.1 q.2)
      | none => .int (σ.1 k r j)).length := by simp [hnf, hj]
  rcases hlink with hlink | ⟨host, hlink⟩
  · exact va_put hx hb hts (jm_good_lay hin) ty0 hty hnm hown hK hP hD hS _ he hc j hj (hts _ (jm_tgd_mem hlink rfl)) (fun _ h => h) hfin hpd hnar hfit hl hd (fun H1 locs1 hP1 hD1 hS1 => kk H1 locs1 ⟨by rw [← hw]; exact hP1, by rw [← hw]; exact hD1, hS1⟩)
  · exact va_putN hx hb hts (jm_good_lay hin) ty0 hty hnm hown hK hP hD hS _ he hc j hj (va_Nw.use rfl (hN _ hlink rfl)) (fun _ h => h) hfin hpd hnar hfit hl hd (fun H1 locs1 hP1 hD1 hS1 => kk H1 locs1 ⟨by rw [← hw]; exact hP1, by rw [← hw]; exact hD1, hS1⟩)
theorem jm_rild (X : jm_X α cy D A M cc ret p s m args meth c) (hH : jm_H α cy D A s σ H locs) {k r n : Nat} {i : Int32} (hok : jm_okr (k, r)) (hsh : jm_sh k = (1, n)) (hi : jm_in3 i n = true) (hd : decode cc pc = .ok (.iaload, 1))
    (kk : W p l e R s m args below meth c H locs cells slots Q (F0 m (pc + 1) ls (.int (σ.1 k r i.toNatClampNeg) :: rest))) : W p l e R s m args below meth c H locs cells slots Q (F0 m pc ls (.int i :: .ref (α k r) :: rest)) := by
  obtain ⟨hx, hb, hml, hown, hts, hN, hK, hZ, hA, hr, hlocks⟩ := X
  obtain ⟨h1, h2⟩ := jm_okw hok (by rw [hsh]; intro h9; cases h9)
  have he := jm_wd_at (α := α) (cy := cy) (σ := σ) h1 h2
  rw [jm_ce1 hsh] at he
  exact va_iald hx hb hK hH.1 _ 0 he rfl (jm_in_of hi) hd kk
theorem jm_rzld (X : jm_X α cy D A M cc ret p s m args meth c) (hH : jm_H α cy D A s σ H locs) {k r n : Nat} {i : Int32} (hok : jm_okr (k, r)) (hsh : jm_sh k = (3, n)) (hi : jm_in3 i n = true) (hd : decode cc pc = .ok (.baload, 1))
    (kk : W p l e R s m args below meth c H locs cells slots Q (F0 m (pc + 1) ls (.int (σ.1 k r i.toNatClampNeg) :: rest))) : W p l e R s m args below meth c H locs cells slots Q (F0 m pc ls (.int i :: .ref (α k r) :: rest)) := by
  obtain ⟨hx, hb, hml, hown, hts, hN, hK, hZ, hA, hr, hlocks⟩ := X
  obtain ⟨h1, h2⟩ := jm_okw hok (by rw [hsh]; intro h9; cases h9)
  have he := jm_wd_at (α := α) (cy := cy) (σ := σ) h1 h2
  rw [jm_ce3 hsh] at he
  exact va_zald hx hb hK hH.1 _ 2 he rfl (jm_in_of hi) hd kk
theorem jm_rlld (X : jm_X α cy D A M cc ret p s m args meth c) (hH : jm_H α cy D A s σ H locs) {k r n : Nat} {i : Int32} (hok : jm_okr (k, r)) (hsh : jm_sh k = (2, n)) (hi : jm_in3 i n = true) (hd : decode cc pc = .ok (.laload, 1))
    (kk : W p l e R s m args below meth c H locs cells slots Q (F0 m (pc + 1) ls (.long (σ.2 k r i.toNatClampNeg) :: rest))) : W p l e R s m args below meth c H locs cells slots Q (F0 m pc ls (.int i :: .ref (α k r) :: rest)) := by
  obtain ⟨hx, hb, hml, hown, hts, hN, hK, hZ, hA, hr, hlocks⟩ := X
  obtain ⟨h1, h2⟩ := jm_okw hok (by rw [hsh]; intro h9; cases h9)
  have he := jm_wd_at (α := α) (cy := cy) (σ := σ) h1 h2
  rw [jm_ce2 hsh] at he
  exact va_lald hx hb hK hH.1 _ 1 he rfl (jm_in_of hi) hd kk
theorem jm_rald (X : jm_X α cy D A M cc ret p s m args meth c) (hH : jm_H α cy D A s σ H locs) {k r n : Nat} {i : Int32} (hok : jm_okr (k, r)) (hsh : jm_sh k = (4, n)) (hi : jm_in3 i n = true) (hd : decode cc pc = .ok (.aaload, 1))
    (kk : W p l e R s m args below meth c H locs cells slots Q (F0 m (pc + 1) ls (.ref (α (jm_ra k r i.toNatClampNeg).1 (jm_ra k r i.toNatClampNeg).2) :: rest))) : W p l e R s m args below meth c H locs cells slots Q (F0 m pc ls (.int i :: .ref (α k r) :: rest)) := by
  obtain ⟨hx, hb, hml, hown, hts, hN, hK, hZ, hA, hr, hlocks⟩ := X
  obtain ⟨h1, h2⟩ := jm_okw hok (by rw [hsh]; intro h9; cases h9)
  have he := jm_wd_at (α := α) (cy := cy) (σ := σ) h1 h2
  rw [jm_ce4 hsh] at he
  have hin := jm_in_of hi
  have hlt : i.toNatClampNeg < n := Nat.not_le.mp fun q => hin (Or.inr q)
  have kk' : W p l e R s m args below meth c H locs cells slots Q (F0 m (pc + 1) ls (va_rf ((fun i => if i < n then some (α (jm_ra k r i).1 (jm_ra k r i).2) else none) i.toNatClampNeg) :: rest)) := by
    dsimp only
    rw [if_pos hlt]
    exact kk
  exact W.aald (v := va_rf ((fun i => if i < n then some (α (jm_ra k r i).1 (jm_ra k r i).2) else none) i.toNatClampNeg)) (ty := .array .int) hx hb (hH.1 _ _ he) ((hK.2 3 _ rfl).1 n (fun j => va_rf ((fun i => if i < n then some (α (jm_ra k r i).1 (jm_ra k r i).2) else none) j))) rfl (fun q => by cases q) (by show ¬ (i < 0 ∨ (arrV _ _ _).slots.size ≤ _); rw [arrV_size]; exact hin) (by show (arrV _ _ _).slots[_]? = _; rw [arrV_read _ _ hlt]) rfl rfl hd kk'
theorem jm_rist (X : jm_X α cy D A M cc ret p s m args meth c) (hH : jm_H α cy D A s σ H locs) {k r n : Nat} {i x : Int32} (hok : jm_okr (k, r)) (hsh : jm_sh k = (1, n)) (hi : jm_in3 i n = true) (hd : decode cc pc = .ok (.iastore, 1))
    (kk : ∀ (H1 : Heap) (locs1 : List Loc), jm_H α cy D A s (jm_wi σ k r i.toNatClampNeg x) H1 locs1 → W p l e R s m args below meth c H1 locs1 cells slots Q (F0 m (pc + 1) ls rest)) : W p l e R s m args below meth c H locs cells slots Q (F0 m pc ls (.int x :: .int i :: .ref (α k r) :: rest)) := by
  obtain ⟨hx, hb, hml, hown, hts, hN, hK, hZ, hA, hr, hlocks⟩ := X
  obtain ⟨h1, h2⟩ := jm_okw hok (by rw [hsh]; intro h9; cases h9)
  obtain ⟨hP, hD, hS⟩ := hH
  have he := jm_wd_at (α := α) (cy := cy) (σ := σ) h1 h2
  rw [jm_ce1 hsh] at he
  have hw := jm_set_r (α := α) (cy := cy) (σ := σ) (f := upd (σ.1 k r) i.toNatClampNeg x) h1 h2
  rw [jm_ce1 hsh, jm_wr_at] at hw
  exact va_iast hx hb hK hP hD hS _ 0 he rfl (jm_in_of hi) hd (fun H1 locs1 hP1 hD1 hS1 => kk H1 locs1 ⟨by rw [hw] at hP1; exact hP1, by rw [hw] at hD1; exact hD1, hS1⟩)
theorem jm_rzst (X : jm_X α cy D A M cc ret p s m args meth c) (hH : jm_H α cy D A s σ H locs) {k r n : Nat} {i x : Int32} (hok : jm_okr (k, r)) (hsh : jm_sh k = (3, n)) (hi : jm_in3 i n = true) (hd : decode cc pc = .ok (.bastore, 1))
    (kk : ∀ (H1 : Heap) (locs1 : List Loc), jm_H α cy D A s (jm_wi σ k r i.toNatClampNeg (vp_nar .boolean x)) H1 locs1 → W p l e R s m args below meth c H1 locs1 cells slots Q (F0 m (pc + 1) ls rest)) : W p l e R s m args below meth c H locs cells slots Q (F0 m pc ls (.int x :: .int i :: .ref (α k r) :: rest)) := by
  obtain ⟨hx, hb, hml, hown, hts, hN, hK, hZ, hA, hr, hlocks⟩ := X
  obtain ⟨h1, h2⟩ := jm_okw hok (by rw [hsh]; intro h9; cases h9)
  obtain ⟨hP, hD, hS⟩ := hH
  have he := jm_wd_at (α := α) (cy := cy) (σ := σ) h1 h2
  rw [jm_ce3 hsh] at he
  have hw := jm_set_r (α := α) (cy := cy) (σ := σ) (f := upd (σ.1 k r) i.toNatClampNeg (vp_nar .boolean x)) h1 h2
  rw [jm_ce3 hsh, jm_wr_at] at hw
  exact va_zast hx hb hK hP hD hS _ 2 he rfl (jm_in_of hi) hd (fun H1 locs1 hP1 hD1 hS1 => kk H1 locs1 ⟨by rw [hw] at hP1; exact hP1, by rw [hw] at hD1; exact hD1, hS1⟩)
theorem jm_rlst (X : jm_X α cy D A M cc ret p s m args meth c) (hH : jm_H α cy D A s σ H locs) {k r n : Nat} {i : Int32} {x : Int64} (hok : jm_okr (k, r)) (hsh : jm_sh k = (2, n)) (hi : jm_in3 i n = true) (hd : decode cc pc = .ok (.lastore, 1))
    (kk : ∀ (H1 : Heap) (locs1 : List Loc), jm_H α cy D A s (jm_wj σ k r i.toNatClampNeg x) H1 locs1 → W p l e R s m args below meth c H1 locs1 cells slots Q (F0 m (pc + 1) ls rest)) : W p l e R s m args below meth c H locs cells slots Q (F0 m pc ls (.long x :: .int i :: .ref (α k r) :: rest)) := by
  obtain ⟨hx, hb, hml, hown, hts, hN, hK, hZ, hA, hr, hlocks⟩ := X
  obtain ⟨h1, h2⟩ := jm_okw hok (by rw [hsh]; intro h9; cases h9)
  obtain ⟨hP, hD, hS⟩ := hH
  have he := jm_wd_at (α := α) (cy := cy) (σ := σ) h1 h2
  rw [jm_ce2 hsh] at he
  have hw := jm_set_l (α := α) (cy := cy) (σ := σ) (f := vp_updL (σ.2 k r) i.toNatClampNeg x) h1 h2
  rw [jm_ce2 hsh, jm_wl_at] at hw
  exact va_last hx hb hK hP hD hS _ 1 he rfl (jm_in_of hi) hd (fun H1 locs1 hP1 hD1 hS1 => kk H1 locs1 ⟨by rw [hw] at hP1; exact hP1, by rw [hw] at hD1; exact hD1, hS1⟩)
theorem jm_rsld (X : jm_X α cy D A M cc ret p s m args meth c) (hH : jm_H α cy D A s σ H locs) {k n : Nat} {i : Int32} (h40 : 40 ≤ k) (h45 : k < 45) (hsh : jm_sh k = (5, n)) (hi : jm_in3 i n = true) (hd : decode cc pc = .ok (.iaload, 1))
    (kk : W p l e R s m args below meth c H locs cells slots Q (F0 m (pc + 1) ls (.int ((jm_tb k).getD i.toNatClampNeg 0) :: rest))) : W p l e R s m args below meth c H locs cells slots Q (F0 m pc ls (.int i :: .ref (α k 0) :: rest)) := by
  obtain ⟨hx, hb, hml, hown, hts, hN, hK, hZ, hA, hr, hlocks⟩ := X
  obtain ⟨k', rfl⟩ : ∃ k', k = 40 + k' := ⟨k - 40, by omega⟩
  obtain ⟨-, hT⟩ := hZ k' (by omega)
  have hn : (jm_tb (40 + k')).length = n := by
    have : ∀ k, k < 45 → 40 ≤ k → (jm_tb k).length = (jm_sh k).2 := by decide
    rw [this _ h45 h40, hsh]
  rw [hn] at hT
  exact va_ti hx hb hT hH.2.2 (jm_in_of hi) rfl hd kk
theorem jm_rgs (X : jm_X α cy D A M cc ret p s m args meth c) (hH : jm_H α cy D A s σ H locs) {k : Nat} (hlk : jm_lk2 jm_gsL M.1 ix = some k) (hd : decode cc pc = .ok (.getstatic ix, 3))
    (kk : k < 5 → W p l e R s m args below meth c H locs cells slots Q (F0 m (pc + 3) ls (.ref (α (40 + k) 0) :: rest))) : W p l e R s m args below meth c H locs cells slots Q (F0 m pc ls rest) := by
  obtain ⟨hx, hb, hml, hown, hts, hN, hK, hZ, hA, hr, hlocks⟩ := X
  obtain ⟨hk, hlink⟩ := jm_gsk _ (jm_lk2_mem hlk)
  dsimp only at hk hlink
  obtain ⟨hz, -⟩ := hZ k hk
  rcases hlink with hlink | ⟨host, hlink⟩
  · exact va_gets hx hb hz hH.2.2 hown (hts _ (jm_tgd_mem hlink rfl)) (fun _ h => h) hd (kk hk)
  · exact va_getsN hx hb hz hH.2.2 hown (va_Nw.use rfl (hN _ hlink rfl)) (fun _ h => h) hd (kk hk)
end JR
end
section
-- rows of the machine over the world: calls
theorem jm_gtt : GoodIn jm_tgd jm_tgd := fun _ h => ⟨h, good_of_word (List.mem_filter.mp h).2⟩
theorem jm_gin {w : Cond} (h : w ∈ lw_tbl) (hg : goodWord w = true) : w ∈ jm_tgd ∧ ((w.onTables && w.keeps) = true ∨ ∃ ty, w = .arrayClass ty) := ⟨jm_tgd_mem h hg, good_of_word hg⟩
section JC
variable {l : Launch} {α : Nat → Nat → Nat} {cy : jm_C} {D : va_G} {M : jm_M} {cc : ByteArray} {ret : Option FieldType} {Q : State → Prop}
  {p : Program} {e : Env} {s : State} {m : MethodId} {args : Array Value} {below : List Frame} {meth : Method} {c : Code} {A : Nat → Prop} {H : Heap} {locs : List Loc} {ls : Array Slot} {rest : List Value} {σ σ1 : jm_S} {pc ix n d : Nat} {r1 : Option jm_V} {R : Room}
theorem jm_fre (hH : jm_H α cy D A s σ H locs) (hA : ∀ q, s.heap.size ≤ q → A q) : ∀ q, va_A (jm_wd α cy σ) H.size q → A q := by
  intro q h
  rcases h with ⟨k, e, h⟩ | h
  · exact hH.2.1.2 k _ h
  · exact hA q (Nat.le_trans hH.2.2.1 h)
theorem jm_pw (X : jm_X α cy D A M cc ret p s m args meth c) (hH : jm_H α cy D A s σ H locs) {U : State} (hU : U.heap = H) (hW : s.WarmedH U.vm) : jm_Pw α cy D H.size σ U := by
  have hH0 := hH
  obtain ⟨hx, hb, hml, hown, hts, hN, hK, hZ, hA, hr, hlocks⟩ := X
  obtain ⟨hP, hD, hS⟩ := hH
  refine ⟨by rw [hU], by rw [hU]; exact hP, hD.weaken (fun _ _ _ _ => trivial), va_K.moved hW.alike hK, jm_nw_warm hW hN, fun i hi => ?_⟩
  obtain ⟨z1, z2⟩ := hZ i hi
  rw [hU]
  exact ⟨((z1.kept hS.2.1).moved hW.alike).narrow (jm_fre hH0 hA), ((z2.kept hS.2.1).moved hW.alike).narrow (jm_fre hH0 hA)⟩
theorem jm_rcall {st0 : List Value} {a : Array Value} (hA : ∀ q, s.heap.size ≤ q → A q) (hH : jm_H α cy D A s σ H locs)
    (hr : va_Run p l e R s m args below meth c H locs 0 0 0 0 (F0 m pc ls st0) rest (jm_Q α cy D (va_A (jm_wd α cy σ) H.size) r1 σ1 a) (va_A (jm_wd α cy σ) H.size))
    (kk : ∀ (H1 : Heap) (locs1 : List Loc), jm_H α cy D A s σ1 H1 locs1 → jm_oko r1 → W p l e R s m args below meth c H1 locs1 0 0 Q (F0 m (pc + 3) ls ((r1.map (jm_cv α)).toList ++ rest))) : W p l e R s m args below meth c H locs 0 0 Q (F0 m pc ls st0) := by
  have hf := jm_fre hH hA
  obtain ⟨hP, hD, hS⟩ := hH
  intro T hT X
  obtain ⟨v, st₀, t, T', L, h0, X', hL, e1, e2, ⟨hv, ho, hp, hz, hk⟩, st⟩ := hr T hT X
  cases hv
  rw [h0] at hz hk
  have hS' : va_S A s.heap T'.heap (locs ++ L) := ⟨Nat.le_trans hS.1 (by rw [e1]; exact hz), fun q h1 h2 => by rw [e1, hk q (Nat.lt_of_lt_of_le h1 hS.1) (fun z => h2 (hf q z))]; exact hS.2.1 q h1 h2, fun q hq => by
      rcases List.mem_append.mp hq with h | h
      · exact hS.2.2 q h
      · exact hf _ (hL q h)⟩
  obtain ⟨t2, a1, b1⟩ := kk T'.heap (locs ++ L) ⟨by rw [e1]; exact hp, jm_wd_D hD, hS'⟩ ho T' rfl X'
  exact ⟨t2, st t2 a1, b1⟩
theorem jm_rcv (hMn : jm_Metn l α cy D n) (X : jm_X α cy D A M cc ret p s m args meth c) (hH : jm_H α cy D A s σ H locs) {M' : jm_M} {as st : List jm_V} {k r na : Nat} (hlk : jm_lk2 jm_cvL M.1 ix = some (M', na)) (hna : as.length = na) (hok : jm_okr (k, r)) (hoks : jm_oks as) (hsh : jm_sh k = (0, M'.1)) (hcat : jm_cats (jm_R k r :: as) ≤ M'.2.2.1) (h8 : jm_cats st ≤ 8) (hrun : jm_run n d (jm_en M' (jm_R k r :: as) σ) = some (r1, σ1)) (hsz : ls.size = M.2.2.1) (hd : decode cc pc = .ok (.invokevirtual ix, 3))
    (kk : ∀ (H1 : Heap) (locs1 : List Loc), jm_H α cy D A s σ1 H1 locs1 → jm_oko r1 → W p l e (jm_rm (d + 1)) s m args below meth c H1 locs1 0 0 Q (F0 m (pc + 3) ls ((r1.map (jm_cv α)).toList ++ st.map (jm_cv α)))) : W p l e (jm_rm (d + 1)) s m args below meth c H locs 0 0 Q (F0 m pc ls ((as.map (jm_cv α)).reverse ++ .ref (α k r) :: st.map (jm_cv α))) := by
  have X0 := X
  obtain ⟨hx, hb, hml, hown, hts, hN, hK, hZ, hA, hr, hlocks⟩ := X
  obtain ⟨y, cc', ret', hM', hpd, hins, hsel, hini, hlink⟩ := jm_cvk _ (jm_lk2_mem hlk)
  dsimp only at hM' hpd hlink
  obtain ⟨h1, h2⟩ := jm_okw hok (by rw [hsh]; intro h9; cases h9)
  have he := jm_wd_at (α := α) (cy := cy) (σ := σ) h1 h2
  rw [jm_ce0 hsh] at he
  have hMet := hMn d M' y cc' ret' hM' (jm_R k r :: as) σ r1 σ1 ⟨hok, hoks⟩ hcat hrun H.size
  obtain ⟨-, -, hcode, hcls, hpl, h20, hmh⟩ := hM'
  have hcl : ∀ k, k < 33 → (jm_sh k).1 = 0 → ∃ q : vw_C, vwCl[(jm_sh k).2]? = some q ∧ q.1 = jm_cn (jm_sh k).2 := by
    intro k hk h0
    have : ∀ k, k < 33 → (jm_sh k).1 = 0 → ((vwCl[(jm_sh k).2]?).map fun q => q.1) = some (jm_cn (jm_sh k).2) := by decide
    have h := this k hk h0
    cases hq : vwCl[(jm_sh k).2]? with
    | none => rw [hq] at h; cases h
    | some q => rw [hq] at h; exact ⟨q, rfl, Option.some.inj h⟩
  obtain ⟨q, hq1, hq2⟩ := hcl k h1 (by rw [hsh])
  rw [hsh] at hq1 hq2
  dsimp only at hq1 hq2
  have hrecv := va_recv hK hH.1 hq1 he
  rw [hq2, ← hcls] at hrecv
  have hbl := jm_blind α cy D H.size σ ((jm_R k r :: as).map (jm_cv α))
  have hpre : PreV s H y.cls (α k r) (va_Pc ((jm_R k r :: as).map (jm_cv α)) (jm_Pw α cy D H.size σ)) (as.map (jm_cv α)) := ⟨hbl, hrecv, fun U hU hW => ⟨rfl, jm_pw X0 hH hU hW⟩⟩
  have hR : (jm_rm d).frames + 1 ≤ (jm_rm (d + 1)).frames ∧ 8 + (M'.2.2.1 + 11) + (jm_rm d).locals ≤ (jm_rm (d + 1)).locals := by
    constructor
    · show d + 1 + 1 ≤ d + 1 + 1
      omega
    · show 8 + (M'.2.2.1 + 11) + 60 * (d + 1) ≤ 60 * (d + 1 + 1)
      omega
  have hGc : GoodIn jm_tgd (Cond.code y cc' M'.2.2.1 ret' :: jm_tgd) := fun w h => (List.mem_cons.mp h).elim (fun e => by rw [e]; exact jm_gin hcode rfl) (jm_gtt w)
  have hlen : (as.map (jm_cv α)).length = na := by rw [List.length_map]; exact hna
  have h8' : 2 * (F0 m pc ls ((as.map (jm_cv α)).reverse ++ .ref (α k r) :: st.map (jm_cv α))).monitorRoom + ((st.map (jm_cv α)).map fun v => v.category).sum ≤ 8 := lv_room (by rw [jm_cats_sum]; exact h8)
  rcases hlink with hlink | ⟨host, hlink⟩
  · have hG : GoodIn jm_tgd (wsV (jm_cn M.1) ix y.cls y (Cond.code y cc' M'.2.2.1 ret' :: jm_tgd)) := by
      intro w hw
      unfold wsV at hw
      rcases List.mem_append.mp hw with hw | hw
      · simp only [List.mem_cons, List.not_mem_nil, or_false] at hw
        rcases hw with rfl | rfl | rfl | rfl
        · exact jm_gin hlink rfl
        · exact jm_gin hins rfl
        · exact jm_gin hsel rfl
        · exact jm_gin hini rfl
      · exact hGc w hw
    exact jm_rcall hA hH (va_runV ⟨hx, hb, hml, hown, hts⟩ hMet (cwV na hts hG rfl rfl rfl ⟨rfl, hmh.1, hmh.2, hpd⟩ hR) hpre rfl hlen hsz rfl h8' hd ⟨Nat.le_refl _, Nat.le_refl _⟩) kk
  · exact jm_rcall hA hH (va_runVN ⟨hx, hb, hml, hown, hts⟩ hMet ⟨va_cnB na hts hGc rfl rfl rfl (hN _ hlink rfl) (hts _ (jm_tgd_mem hini rfl)) ⟨hmh.1, hmh.2, hpd⟩ hR, hts _ (jm_tgd_mem hins rfl), hts _ (jm_tgd_mem hsel rfl)⟩ hpre rfl hlen hsz rfl h8' hd ⟨Nat.le_refl _, Nat.le_refl _⟩) kk
theorem jm_rcs (hMn : jm_Metn l α cy D n) (X : jm_X α cy D A M cc ret p s m args meth c) (hH : jm_H α cy D A s σ H locs) {M' : jm_M} {as st : List jm_V} {na : Nat} (hlk : jm_lk2 jm_csL M.1 ix = some (M', na)) (hna : as.length = na) (hoks : jm_oks as) (hcat : jm_cats as ≤ M'.2.2.1) (h8 : jm_cats st ≤ 8) (hrun : jm_run n d (jm_en M' as σ) = some (r1, σ1)) (hsz : ls.size = M.2.2.1) (hd : decode cc pc = .ok (.invokestatic ix, 3))
    (kk : ∀ (H1 : Heap) (locs1 : List Loc), jm_H α cy D A s σ1 H1 locs1 → jm_oko r1 → W p l e (jm_rm (d + 1)) s m args below meth c H1 locs1 0 0 Q (F0 m (pc + 3) ls ((r1.map (jm_cv α)).toList ++ st.map (jm_cv α)))) : W p l e (jm_rm (d + 1)) s m args below meth c H locs 0 0 Q (F0 m pc ls ((as.map (jm_cv α)).reverse ++ st.map (jm_cv α))) := by
  have X0 := X
  obtain ⟨hx, hb, hml, hown, hts, hN, hK, hZ, hA, hr, hlocks⟩ := X
  obtain ⟨y, cc', ret', hM', hpd, hst, hini, hlink⟩ := jm_csk _ (jm_lk2_mem hlk)
  dsimp only at hM' hpd hlink
  have hMet := hMn d M' y cc' ret' hM' as σ r1 σ1 hoks hcat hrun H.size
  obtain ⟨-, -, hcode, hcls, hpl, h20, hmh⟩ := hM'
  have hbl := jm_blind α cy D H.size σ (as.map (jm_cv α))
  have hpre : PreS s H (va_Pc (as.map (jm_cv α)) (jm_Pw α cy D H.size σ)) (as.map (jm_cv α)) := ⟨hbl, fun U hU hW => ⟨rfl, jm_pw X0 hH hU hW⟩⟩
  have hR : (jm_rm d).frames + 1 ≤ (jm_rm (d + 1)).frames ∧ 8 + (M'.2.2.1 + 11) + (jm_rm d).locals ≤ (jm_rm (d + 1)).locals := by
    constructor
    · show d + 1 + 1 ≤ d + 1 + 1
      omega
    · show 8 + (M'.2.2.1 + 11) + 60 * (d + 1) ≤ 60 * (d + 1 + 1)
      omega
  have hGc : GoodIn jm_tgd (Cond.code y cc' M'.2.2.1 ret' :: jm_tgd) := fun w h => (List.mem_cons.mp h).elim (fun e => by rw [e]; exact jm_gin hcode rfl) (jm_gtt w)
  have hlen : (as.map (jm_cv α)).length = na := by rw [List.length_map]; exact hna
  have h8' : 2 * (F0 m pc ls ((as.map (jm_cv α)).reverse ++ st.map (jm_cv α))).monitorRoom + ((st.map (jm_cv α)).map fun v => v.category).sum ≤ 8 := lv_room (by rw [jm_cats_sum]; exact h8)
  have hG : GoodIn jm_tgd (va_wsS (jm_cn M.1) ix y (Cond.code y cc' M'.2.2.1 ret' :: jm_tgd)) := by
    intro w hw
    unfold va_wsS at hw
    rcases List.mem_append.mp hw with hw | hw
    · simp only [List.mem_cons, List.not_mem_nil, or_false] at hw
      rcases hw with rfl | rfl | rfl
      · exact jm_gin hlink rfl
      · exact jm_gin hst rfl
      · exact jm_gin hini rfl
    · exact hGc w hw
  exact jm_rcall hA hH (va_runS ⟨hx, hb, hml, hown, hts⟩ hMet (va_cwS na hts hG rfl rfl rfl ⟨hmh.1, hmh.2, hpd⟩ hR) hpre rfl hlen hsz rfl h8' hd ⟨Nat.le_refl _, Nat.le_refl _⟩) kk
end JC
end
section
-- SOUNDNESS: the machine does what the picture says
section JAY
variable {rec : Nat → jm_F → Option jm_Rs} {d : Nat} {st : List jm_V} {z : jm_Rs} {M : jm_M} {pc i : Nat} {ls : List (Option jm_V)} {σ : jm_S}
theorem jm_ax_ild (e : jm_ax rec d (jm_ild M pc ls st σ i) = some z) : ∃ x, jm_gl ls i = some (jm_I x) ∧ rec d (M, pc, ls, jm_I x :: st, σ) = some z := by
  unfold jm_ild at e
  split at e
  · next x h => exact ⟨x, h, e⟩
  · cases e
theorem jm_ax_lld (e : jm_ax rec d (jm_lld M pc ls st σ i) = some z) : ∃ x, jm_gl ls i = some (jm_L x) ∧ rec d (M, pc, ls, jm_L x :: st, σ) = some z := by
  unfold jm_lld at e
  split at e
  · next x h => exact ⟨x, h, e⟩
  · cases e
theorem jm_ax_ald (e : jm_ax rec d (jm_ald M pc ls st σ i) = some z) : ∃ k r, jm_gl ls i = some (jm_R k r) ∧ rec d (M, pc, ls, jm_R k r :: st, σ) = some z := by
  unfold jm_ald at e
  split at e
  · next k r h => exact ⟨k, r, h, e⟩
  · cases e
theorem jm_ax_ist (e : jm_ax rec d (jm_ist M pc ls st σ i) = some z) : ∃ x st', i < M.2.2.1 ∧ st = jm_I x :: st' ∧ rec d (M, pc, jm_s1 ls i (jm_I x), st', σ) = some z := by
  unfold jm_ist at e
  split at e
  · next h =>
    obtain ⟨x, st', h1, h2⟩ := jm_ax_p1 e
    exact ⟨x, st', Nat.le_of_ble_eq_true h, h1, h2⟩
  · cases e
theorem jm_ax_lst (e : jm_ax rec d (jm_lst M pc ls st σ i) = some z) : ∃ x st', i + 1 < M.2.2.1 ∧ st = jm_L x :: st' ∧ rec d (M, pc, jm_s2 ls i (jm_L x), st', σ) = some z := by
  unfold jm_lst at e
  split at e
  · next h =>
    obtain ⟨x, st', h1, h2⟩ := jm_ax_q1 e
    exact ⟨x, st', Nat.le_of_ble_eq_true h, h1, h2⟩
  · cases e
theorem jm_ax_inc {c : Int} (e : jm_ax rec d (jm_inc M pc ls st σ i c) = some z) : ∃ x, i < M.2.2.1 ∧ jm_gl ls i = some (jm_I x) ∧ rec d (M, pc, jm_s1 ls i (jm_I (x + Int32.ofInt c)), st, σ) = some z := by
  unfold jm_inc at e
  split at e
  · next h =>
    split at e
    · next x h1 => exact ⟨x, Nat.le_of_ble_eq_true h, h1, e⟩
    · cases e
  · cases e
theorem jm_ax_br {b : Bool} {f g : jm_F} (e : jm_ax rec d (jm_br b f g) = some z) : (b = true → rec d f = some z) ∧ (b = false → rec d g = some z) := by
  cases b with
  | true => exact ⟨fun _ => e, fun h => by cases h⟩
  | false => exact ⟨(fun h => by cases h), fun _ => e⟩
theorem jm_ax_sh {k a : Nat} {f : Nat → jm_A} (e : jm_ax rec d (match jm_sh k with
    | (0, cj) => f cj
    | _ => none) = some z) (_ : a = 0) : ∃ cj, jm_sh k = (0, cj) ∧ jm_ax rec d (f cj) = some z := by
  generalize jm_sh k = q at e ⊢
  match q, e with
  | (0, cj), e => exact ⟨cj, rfl, e⟩
  | (n + 1, cj), e => cases e
theorem jm_ax_bq {a b : Nat} {f : jm_A} (e : jm_ax rec d (match Nat.beq a b with
    | true => f
    | false => none) = some z) : a = b ∧ jm_ax rec d f = some z := by
  cases h : Nat.beq a b with
  | true => rw [h] at e; exact ⟨Nat.eq_of_beq_eq_true h, e⟩
  | false => rw [h] at e; cases e
theorem jm_ax_getf {ix : Nat} (e : jm_ax rec d (jm_getf M pc ls st σ ix) = some z) : ∃ ci j w k r st', jm_lk2 jm_flL M.1 ix = some (ci, j, w) ∧ st = jm_R k r :: st' ∧ jm_sh k = (0, ci) ∧ ((∃ k' r', jm_rf k r j = some (k', r') ∧ rec d (M, pc, ls, jm_R k' r' :: st', σ) = some z) ∨ (jm_rf k r j = none ∧ rec d (M, pc, ls, jm_I (σ.1 k r j) :: st', σ) = some z)) := by
  unfold jm_getf at e
  cases h : jm_lk2 jm_flL M.1 ix with
  | none => rw [h] at e; cases e
  | some q =>
    obtain ⟨ci, j, w⟩ := q
    rw [h] at e
    obtain ⟨k, r, st', h1, e⟩ := jm_ax_pr e
    obtain ⟨cj, hsh, e⟩ := jm_ax_sh e (rfl : 0 = 0)
    obtain ⟨hcj, e3⟩ := jm_ax_bq e
    clear e
    subst hcj
    refine ⟨_, j, w, k, r, st', rfl, h1, hsh, ?_⟩
    cases h2 : jm_rf k r j with
    | none => rw [h2] at e3; exact Or.inr ⟨rfl, e3⟩
    | some q => rw [h2] at e3; exact Or.inl ⟨q.1, q.2, rfl, e3⟩
theorem jm_ax_putf {ix : Nat} (e : jm_ax rec d (jm_putf M pc ls st σ ix) = some z) : ∃ ci j w x k r st', jm_lk2 jm_flL M.1 ix = some (ci, j, w) ∧ st = jm_I x :: jm_R k r :: st' ∧ jm_sh k = (0, ci) ∧ jm_rf k r j = none ∧ (w = 0 ∨ (w = 1 ∧ (x = 0 ∨ x = 1))) ∧ rec d (M, pc, ls, st', jm_wi σ k r j x) = some z := by
  unfold jm_putf at e
  cases h : jm_lk2 jm_flL M.1 ix with
  | none => rw [h] at e; cases e
  | some q =>
    obtain ⟨ci, j, w⟩ := q
    rw [h] at e
    obtain ⟨x, st1, h0, e⟩ := jm_ax_p1 e
    obtain ⟨k, r, st', h1, e⟩ := jm_ax_pr e
    subst h1
    obtain ⟨cj, hsh, e⟩ := jm_ax_sh e (rfl : 0 = 0)
    obtain ⟨hcj, e3⟩ := jm_ax_bq e
    clear e
    subst hcj
    cases h2 : jm_rf k r j with
    | some q => rw [h2] at e3; cases e3
    | none =>
      rw [h2] at e3
      refine ⟨_, j, w, x, k, r, st', rfl, h0, hsh, h2, ?_⟩
      match w, e3 with
      | 0, e => exact ⟨Or.inl rfl, e⟩
      | 1, e =>
        obtain ⟨hb, e⟩ := jm_ax_if e
        exact ⟨Or.inr ⟨rfl, of_decide_eq_true hb⟩, e⟩
      | w + 2, e => cases e
theorem jm_take_eq : ∀ (n : Nat) (acc st as st' : List jm_V), jm_take n acc st = some (as, st') → ∃ bs, bs.length = n ∧ as = bs.reverse ++ acc ∧ st = bs ++ st'
  | 0, acc, st, as, st', e => by
    cases e
    exact ⟨[], rfl, rfl, rfl⟩
  | n + 1, acc, [], as, st', e => by cases e
  | n + 1, acc, v :: st, as, st', e => by
    obtain ⟨bs, h1, h2, h3⟩ := jm_take_eq n (v :: acc) st as st' e
    refine ⟨v :: bs, by rw [List.length_cons, h1], by rw [h2]; simp, by rw [h3]; rfl⟩
theorem jm_oks_app : ∀ {a b : List jm_V}, jm_oks (a ++ b) ↔ jm_oks a ∧ jm_oks b
  | [], b => ⟨fun h => ⟨trivial, h⟩, fun h => h.2⟩
  | v :: a, b => by
    have ih := jm_oks_app (a := a) (b := b)
    constructor
    · intro h
      exact ⟨⟨h.1, (ih.mp h.2).1⟩, (ih.mp h.2).2⟩
    · intro h
      exact ⟨h.1.1, ih.mpr ⟨h.1.2, h.2⟩⟩
theorem jm_oks_rev : ∀ {a : List jm_V}, jm_oks a → jm_oks a.reverse
  | [], _ => trivial
  | v :: a, h => by
    rw [List.reverse_cons]
    exact jm_oks_app.mpr ⟨jm_oks_rev h.2, h.1, trivial⟩
theorem jm_ax_b2 {a b a' b' : Nat} {f : jm_A} (e : jm_ax rec d (match Nat.ble a b, Nat.ble a' b' with
    | true, true => f
    | _, _ => none) = some z) : a ≤ b ∧ a' ≤ b' ∧ jm_ax rec d f = some z := by
  cases h : Nat.ble a b with
  | false => rw [h] at e; cases e
  | true =>
    cases h' : Nat.ble a' b' with
    | false => rw [h, h'] at e; cases e
    | true => rw [h, h'] at e; exact ⟨Nat.le_of_ble_eq_true h, Nat.le_of_ble_eq_true h', e⟩
theorem jm_ax_b3 {a b a' b' a2 b2 : Nat} {f : jm_A} (e : jm_ax rec d (match Nat.beq a2 b2, Nat.ble a b, Nat.ble a' b' with
    | true, true, true => f
    | _, _, _ => none) = some z) : a2 = b2 ∧ a ≤ b ∧ a' ≤ b' ∧ jm_ax rec d f = some z := by
  cases h2 : Nat.beq a2 b2 with
  | false => rw [h2] at e; cases e
  | true =>
    cases h : Nat.ble a b with
    | false => rw [h2, h] at e; cases e
    | true =>
      cases h' : Nat.ble a' b' with
      | false => rw [h2, h, h'] at e; cases e
      | true => rw [h2, h, h'] at e; exact ⟨Nat.eq_of_beq_eq_true h2, Nat.le_of_ble_eq_true h, Nat.le_of_ble_eq_true h', e⟩
theorem jm_ax_cv {ix : Nat} (e : jm_ax rec d (jm_callv M pc ls st σ ix) = some z) : ∃ M' n bs k r st' d' q, jm_lk2 jm_cvL M.1 ix = some (M', n) ∧ bs.length = n ∧ st = bs ++ jm_R k r :: st' ∧ jm_sh k = (0, M'.1) ∧ jm_cats (jm_R k r :: bs.reverse) ≤ M'.2.2.1 ∧ jm_cats st' ≤ 8 ∧ d = d' + 1 ∧ rec d' (jm_en M' (jm_R k r :: bs.reverse) σ) = some q ∧ rec d (jm_psh (M, pc, ls, st', σ) q) = some z := by
  unfold jm_callv at e
  cases h : jm_lk2 jm_cvL M.1 ix with
  | none => rw [h] at e; cases e
  | some q =>
    obtain ⟨M', n⟩ := q
    rw [h] at e
    dsimp only at e
    cases h1 : jm_take n [] st with
    | none => rw [h1] at e; cases e
    | some q =>
      obtain ⟨as, st1⟩ := q
      rw [h1] at e
      dsimp only at e
      obtain ⟨k, r, st', h2, e⟩ := jm_ax_pr e
      obtain ⟨bs, b1, b2, b3⟩ := jm_take_eq _ _ _ _ _ h1
      rw [List.append_nil] at b2
      subst b2
      subst h2
      obtain ⟨cj, hsh, e⟩ := jm_ax_sh e (rfl : 0 = 0)
      obtain ⟨hcj, g2, g3, e3⟩ := jm_ax_b3 e
      clear e
      subst hcj
      obtain ⟨q, q1, q2⟩ := Option.bind_eq_some_iff.mp (show Option.bind (jm_cal rec d M' (jm_R k r :: bs.reverse) σ) (fun r => rec d (jm_psh (M, pc, ls, st', σ) r)) = some z from e3)
      cases d with
      | zero => cases q1
      | succ d' => exact ⟨M', n, bs, k, r, st', d', q, rfl, b1, b3, hsh, g2, g3, rfl, q1, q2⟩
theorem jm_ax_cs {ix : Nat} (e : jm_ax rec d (jm_calls M pc ls st σ ix) = some z) : (∃ M' n bs st' d' q, jm_lk2 jm_csL M.1 ix = some (M', n) ∧ bs.length = n ∧ st = bs ++ st' ∧ jm_cats bs.reverse ≤ M'.2.2.1 ∧ jm_cats st' ≤ 8 ∧ d = d' + 1 ∧ rec d' (jm_en M' bs.reverse σ) = some q ∧ rec d (jm_psh (M, pc, ls, st', σ) q) = some z) ∨ (∃ w, jm_lk2 jm_imL M.1 ix = some w ∧ jm_ax rec d (jm_math M pc ls st σ w) = some z) := by
  unfold jm_calls at e
  cases h : jm_lk2 jm_csL M.1 ix with
  | some q =>
    obtain ⟨M', n⟩ := q
    rw [h] at e
    dsimp only at e
    refine Or.inl ?_
    cases h1 : jm_take n [] st with
    | none => rw [h1] at e; cases e
    | some q =>
      obtain ⟨as, st1⟩ := q
      rw [h1] at e
      dsimp only at e
      obtain ⟨bs, b1, b2, b3⟩ := jm_take_eq _ _ _ _ _ h1
      rw [List.append_nil] at b2
      subst b2
      obtain ⟨g2, g3, e⟩ := jm_ax_b2 e
      obtain ⟨q, q1, q2⟩ := Option.bind_eq_some_iff.mp (show Option.bind (jm_cal rec d M' bs.reverse σ) (fun r => rec d (jm_psh (M, pc, ls, st1, σ) r)) = some z from e)
      cases d with
      | zero => cases q1
      | succ d' => exact ⟨M', n, bs, st1, d', q, rfl, b1, b3, g2, g3, rfl, q1, q2⟩
  | none =>
    rw [h] at e
    dsimp only at e
    cases h2 : jm_lk2 jm_imL M.1 ix with
    | some w => rw [h2] at e; exact Or.inr ⟨w, rfl, e⟩
    | none => rw [h2] at e; cases e
theorem jm_sel_ts {k : jm_F → Option jm_Rs} {x : Int} {g : jm_F} : ∀ (l : List Int) (v : Int), jm_sel k (jm_ts M pc ls st σ x v l) (some g) = some z → (∃ (j : Nat) (off : Int), l[j]? = some off ∧ x = v + j ∧ k (M, jm_tg pc off, ls, st, σ) = some z) ∨ ((∀ j : Nat, j < l.length → x ≠ v + j) ∧ k g = some z)
  | [], v, e => Or.inr ⟨fun j hj => absurd hj (Nat.not_lt_zero j), e⟩
  | off :: l, v, e => by
    by_cases h : x = v
    · refine Or.inl ⟨0, off, rfl, by rw [h]; simp, ?_⟩
      have e : cond (decide (x = v)) (k (M, jm_tg pc off, ls, st, σ)) (jm_sel k (jm_ts M pc ls st σ x (v + 1) l) (some g)) = some z := e
      rw [decide_eq_true h] at e
      exact e
    · have e : cond (decide (x = v)) (k (M, jm_tg pc off, ls, st, σ)) (jm_sel k (jm_ts M pc ls st σ x (v + 1) l) (some g)) = some z := e
      rw [decide_eq_false h] at e
      rcases jm_sel_ts l (v + 1) e with ⟨j, o, h1, h2, h3⟩ | ⟨h1, h2⟩
      · exact Or.inl ⟨j + 1, o, h1, by rw [h2]; push_cast; omega, h3⟩
      · refine Or.inr ⟨fun j hj => ?_, h2⟩
        cases j with
        | zero => simpa using h
        | succ j =>
          have := h1 j (Nat.lt_of_succ_lt_succ hj)
          intro q
          apply this
          rw [q]
          push_cast
          omega
theorem jm_sel_ls {k : jm_F → Option jm_Rs} {x : Int} {dd : Int} : ∀ (l : List (Int × Int)), jm_sel k (jm_ls M pc ls st σ x l) (some (M, jm_tg pc dd, ls, st, σ)) = some z → k (M, jm_tg pc (Op.lookupswitch.offset l dd x), ls, st, σ) = some z ∧ (Op.lookupswitch.offset l dd x = dd ∨ ∃ q ∈ l, Op.lookupswitch.offset l dd x = q.2)
  | [], e => ⟨e, Or.inl rfl⟩
  | (v, off) :: l, e => by
    have e : cond (decide (x = v)) (k (M, jm_tg pc off, ls, st, σ)) (jm_sel k (jm_ls M pc ls st σ x l) (some (M, jm_tg pc dd, ls, st, σ))) = some z := e
    rw [Op.lookupswitch.offset_cons]
    by_cases h : x = v
    · rw [decide_eq_true h] at e
      rw [if_pos h.symm]
      exact ⟨e, Or.inr ⟨(v, off), List.mem_cons_self, rfl⟩⟩
    · rw [decide_eq_false h] at e
      rw [if_neg (fun q => h q.symm)]
      obtain ⟨h1, h2⟩ := jm_sel_ls l e
      refine ⟨h1, ?_⟩
      rcases h2 with h2 | ⟨q, hq, h2⟩
      · exact Or.inl h2
      · exact Or.inr ⟨q, List.mem_cons_of_mem _ hq, h2⟩
theorem jm_tg_ok {off : Int} (h : 0 ≤ (pc : Int) + off) : (pc : Int) + off = (jm_tg pc off : Int) := (Int.toNat_of_nonneg h).symm
theorem jm_ax_t1 {k : Nat} {f : Nat → jm_A} (e : jm_ax rec d (match jm_sh k with
    | (1, n) => f n
    | _ => none) = some z) : ∃ n, jm_sh k = (1, n) ∧ jm_ax rec d (f n) = some z := by
  generalize jm_sh k = q at e ⊢
  match q, e with
  | (0, n), e => cases e
  | (1, n), e => exact ⟨n, rfl, e⟩
  | (m + 2, n), e => cases e
theorem jm_ax_t2 {k : Nat} {f : Nat → jm_A} (e : jm_ax rec d (match jm_sh k with
    | (2, n) => f n
    | _ => none) = some z) : ∃ n, jm_sh k = (2, n) ∧ jm_ax rec d (f n) = some z := by
  generalize jm_sh k = q at e ⊢
  match q, e with
  | (0, n), e => cases e
  | (1, n), e => cases e
  | (2, n), e => exact ⟨n, rfl, e⟩
  | (m + 3, n), e => cases e
theorem jm_ax_t3 {k : Nat} {f : Nat → jm_A} (e : jm_ax rec d (match jm_sh k with
    | (3, n) => f n
    | _ => none) = some z) : ∃ n, jm_sh k = (3, n) ∧ jm_ax rec d (f n) = some z := by
  generalize jm_sh k = q at e ⊢
  match q, e with
  | (0, n), e => cases e
  | (1, n), e => cases e
  | (2, n), e => cases e
  | (3, n), e => exact ⟨n, rfl, e⟩
  | (m + 4, n), e => cases e
theorem jm_ax_t4 {k : Nat} {f : Nat → jm_A} (e : jm_ax rec d (match jm_sh k with
    | (4, n) => f n
    | _ => none) = some z) : ∃ n, jm_sh k = (4, n) ∧ jm_ax rec d (f n) = some z := by
  generalize jm_sh k = q at e ⊢
  match q, e with
  | (0, n), e => cases e
  | (1, n), e => cases e
  | (2, n), e => cases e
  | (3, n), e => cases e
  | (4, n), e => exact ⟨n, rfl, e⟩
  | (m + 5, n), e => cases e
theorem jm_ax_t15 {k : Nat} {f g : Nat → jm_A} (e : jm_ax rec d (match jm_sh k with
    | (1, n) => f n
    | (5, n) => g n
    | _ => none) = some z) : (∃ n, jm_sh k = (1, n) ∧ jm_ax rec d (f n) = some z) ∨ (∃ n, jm_sh k = (5, n) ∧ jm_ax rec d (g n) = some z) := by
  generalize jm_sh k = q at e ⊢
  match q, e with
  | (0, n), e => cases e
  | (1, n), e => exact Or.inl ⟨n, rfl, e⟩
  | (2, n), e => cases e
  | (3, n), e => cases e
  | (4, n), e => cases e
  | (5, n), e => exact Or.inr ⟨n, rfl, e⟩
  | (m + 6, n), e => cases e
theorem jm_ax_b8 {a b : Nat} {f : jm_A} (e : jm_ax rec d (match Nat.ble a b with
    | true => f
    | false => none) = some z) : a ≤ b ∧ jm_ax rec d f = some z := by
  cases h : Nat.ble a b with
  | true => rw [h] at e; exact ⟨Nat.le_of_ble_eq_true h, e⟩
  | false => rw [h] at e; cases e
theorem jm_ax_lk {β : Type} {o : Option β} {f : β → jm_A} (e : jm_ax rec d (match o with
    | some v => f v
    | none => none) = some z) : ∃ v, o = some v ∧ jm_ax rec d (f v) = some z := by
  cases o with
  | none => cases e
  | some v => exact ⟨v, rfl, e⟩
theorem jm_ax_ac (e : jm_ax rec d (jm_math M pc ls st σ 13) = some z) : ∃ n dp k1 r1 sp k0 r0 st' n0 n1, st = jm_I n :: jm_I dp :: jm_R k1 r1 :: jm_I sp :: jm_R k0 r0 :: st' ∧ jm_sh k0 = (1, n0) ∧ jm_sh k1 = (1, n1) ∧ jm_cats st' ≤ 8 ∧ (¬ sp < 0 ∧ ¬ dp < 0 ∧ ¬ n < 0 ∧ sp.toNatClampNeg + n.toNatClampNeg ≤ n0 ∧ dp.toNatClampNeg + n.toNatClampNeg ≤ n1) ∧ rec d (M, pc, ls, st', jm_wc σ k1 r1 k0 r0 sp.toNatClampNeg dp.toNatClampNeg n.toNatClampNeg) = some z := by
  simp only [jm_math] at e
  split at e
  · next n dp k1 r1 sp k0 r0 st' =>
    cases h0 : jm_sh k0 with
    | mk a0 n0 =>
    cases h1 : jm_sh k1 with
    | mk a1 n1 =>
    cases h8 : Nat.ble (jm_cats st') 8 with
    | false =>
      rw [h0, h1, h8] at e
      exfalso
      revert e
      split
      · next hh => cases hh
      · intro e; cases e
    | true =>
      rw [h0, h1, h8] at e
      revert e
      split
      · next n0' n1' hh0 hh1 hh8 =>
        intro e
        cases hh0
        cases hh1
        obtain ⟨hb, e⟩ := jm_ax_if e
        exact ⟨n, dp, k1, r1, sp, k0, r0, st', n0, n1, rfl, h0, h1, Nat.le_of_ble_eq_true h8, of_decide_eq_true hb, e⟩
      · intro e; cases e
  · cases e
theorem jm_ra_ok : ∀ k, k < 33 → ∀ r, r < jm_nr k → (jm_sh k).1 = 4 → ∀ i, i < (jm_sh k).2 → (jm_ra k r i).1 < 33 ∧ (jm_ra k r i).2 < jm_nr (jm_ra k r i).1 := by decide +kernel
theorem jm_rf_ok : ∀ k, k < 33 → ∀ r, r < jm_nr k → ∀ j, j < 26 → (match jm_rf k r j with
  | some q => decide (q.1 < 33 ∧ q.2 < jm_nr q.1)
  | none => true) = true := by decide +kernel
end JAY
end
section
theorem jm_ax_ret {rec : Nat → jm_F → Option jm_Rs} {d : Nat} {st : List jm_V} {z : jm_Rs} {M : jm_M} {σ : jm_S} (e : jm_ax rec d (jm_ret M st σ) = some z) : ∃ x, st = [jm_I x] ∧ (some (jm_I x), σ) = z ∧ (M.2.2.2 = true → x = 0 ∨ x = 1) := by
  unfold jm_ret at e
  split at e
  · next x =>
    have e1 : cond (cond M.2.2.2 (jm_b01 x) true) (some ((some (jm_I x), σ) : jm_Rs)) none = some z := e
    cases hbz : M.2.2.2 with
    | false =>
      rw [hbz] at e1
      exact ⟨x, rfl, Option.some.inj e1, fun h => by cases h⟩
    | true =>
      rw [hbz] at e1
      cases h01 : jm_b01 x with
      | true =>
        rw [h01] at e1
        exact ⟨x, rfl, Option.some.inj e1, fun _ => of_decide_eq_true h01⟩
      | false => rw [h01] at e1; cases e1
  · cases e
set_option maxHeartbeats 1000000 in
set_option maxRecDepth 100000 in
theorem jm_body_succ {l : Launch} {α : Nat → Nat → Nat} {cy : jm_C} {D : va_G} {n : Nat} (hB : jm_Body l α cy D n) : jm_Body l α cy D (n + 1) := by
  intro d M y cc ret hM pc ls st σ r σ' hrun p e s m args below meth c A H locs lsA X hH hl hol hos
  have hMn := jm_met_of hB
  have K : ∀ {pc : Nat} {ls : List (Option jm_V)} {st : List jm_V} {σ : jm_S}, jm_run n d (M, pc, ls, st, σ) = some (r, σ') → ∀ {H : Heap} {locs : List Loc} {lsA : Array Slot}, jm_H α cy D A s σ H locs → lv_has lsA M.2.2.1 (jm_lc α 0 ls) → jm_okl ls → jm_oks st → W p l e (jm_rm d) s m args below meth c H locs 0 0 (MQ below (jm_Q α cy D A r σ') args s 0 0 A) (F0 m pc lsA (st.map (jm_cv α))) :=
    by
    intro pc ls st σ h H locs lsA h1 h2 h3 h4
    exact hB d M y cc ret hM pc ls st σ r σ' h p e s m args below meth c A H locs lsA X h1 h2 h3 h4
  obtain ⟨hx, hb, hml, hown, hts, hN, hK, hZ, hA, hr, hlocks⟩ := id X
  have E : jm_ax (jm_run n) d (jm_act (M, pc, ls, st, σ)) = some (r, σ') := hrun
  unfold jm_act at E
  dsimp only at E
  cases hlk : jm_lk M.2.1 pc with
  | none => rw [hlk] at E; cases E
  | some q =>
  obtain ⟨i, k⟩ := q
  rw [hlk] at E
  dsimp only at E
  have hd : decode cc pc = .ok (i, k) := hM.1 (pc, i, k) (jm_lk_mem hlk)
  have hq : jm_qk ret M.2.2.2 (pc, i, k) = true := hM.2.1 (pc, i, k) (jm_lk_mem hlk)
  cases i
  case iconst c9 =>
    have hk : k = 1 := Nat.eq_of_beq_eq_true hq
    subst hk
    exact lv_iconst hx hb hd rfl (K E hH hl hol ⟨trivial, hos⟩)
  case bipush c9 =>
    have hk : k = 2 := Nat.eq_of_beq_eq_true hq
    subst hk
    exact lv_bipush hx hb hd rfl (K E hH hl hol ⟨trivial, hos⟩)
  case sipush c9 =>
    have hk : k = 3 := Nat.eq_of_beq_eq_true hq
    subst hk
    exact lv_sipush hx hb hd rfl (K E hH hl hol ⟨trivial, hos⟩)
  case lconst c9 =>
    have hk : k = 1 := Nat.eq_of_beq_eq_true hq
    subst hk
    exact lv_lconst hx hb hd rfl (K E hH hl hol ⟨trivial, hos⟩)
  case ldc ix =>
    have hk : k = 2 := Nat.eq_of_beq_eq_true hq
    subst hk
    have E1 : jm_ax (jm_run n) d (match jm_lk2 jm_kiL M.1 ix with
      | some v => jm_go (M, pc + 2, ls, jm_I v :: st, σ)
      | none => none) = some (r, σ') := E
    cases h : jm_lk2 jm_kiL M.1 ix with
    | none => rw [h] at E1; cases E1
    | some v => rw [h] at E1; exact lv_ldc hx hb hown (hts _ (jm_tgd_mem (jm_kik _ (jm_lk2_mem h)) rfl)) hd (K E1 hH hl hol ⟨trivial, hos⟩)
  case ldc_w ix =>
    have hk : k = 3 := Nat.eq_of_beq_eq_true hq
    subst hk
    have E1 : jm_ax (jm_run n) d (match jm_lk2 jm_kiL M.1 ix with
      | some v => jm_go (M, pc + 3, ls, jm_I v :: st, σ)
      | none => none) = some (r, σ') := E
    cases h : jm_lk2 jm_kiL M.1 ix with
    | none => rw [h] at E1; cases E1
    | some v => rw [h] at E1; exact lv_ldcw hx hb hown (hts _ (jm_tgd_mem (jm_kik _ (jm_lk2_mem h)) rfl)) hd (K E1 hH hl hol ⟨trivial, hos⟩)
  case ldc2_w ix =>
    have hk : k = 3 := Nat.eq_of_beq_eq_true hq
    subst hk
    have E1 : jm_ax (jm_run n) d (match jm_lk2 jm_klL M.1 ix with
      | some v => jm_go (M, pc + 3, ls, jm_L v :: st, σ)
      | none => none) = some (r, σ') := E
    cases h : jm_lk2 jm_klL M.1 ix with
    | none => rw [h] at E1; cases E1
    | some v => rw [h] at E1; exact lv_ldc2 hx hb hown (hts _ (jm_tgd_mem (jm_klk _ (jm_lk2_mem h)) rfl)) hd (K E1 hH hl hol ⟨trivial, hos⟩)
  case iload_n i9 =>
    have hk : k = 1 := Nat.eq_of_beq_eq_true hq
    subst hk
    obtain ⟨x, hg, E⟩ := jm_ax_ild E
    exact lv_iload_n hx hb hd rfl (jm_lv_at hl hg) (K E hH hl hol ⟨trivial, hos⟩)
  case iload i9 =>
    have hk : k = 2 := Nat.eq_of_beq_eq_true hq
    subst hk
    obtain ⟨x, hg, E⟩ := jm_ax_ild E
    exact lv_iload hx hb hd (jm_lv_at hl hg) (K E hH hl hol ⟨trivial, hos⟩)
  case lload_n i9 =>
    have hk : k = 1 := Nat.eq_of_beq_eq_true hq
    subst hk
    obtain ⟨x, hg, E⟩ := jm_ax_lld E
    exact lv_lload_n hx hb hd rfl (jm_lv_at hl hg) (K E hH hl hol ⟨trivial, hos⟩)
  case lload i9 =>
    have hk : k = 2 := Nat.eq_of_beq_eq_true hq
    subst hk
    obtain ⟨x, hg, E⟩ := jm_ax_lld E
    exact lv_lload hx hb hd (jm_lv_at hl hg) (K E hH hl hol ⟨trivial, hos⟩)
  case aload_n i9 =>
    have hk : k = 1 := Nat.eq_of_beq_eq_true hq
    subst hk
    obtain ⟨g, rr, hg, E⟩ := jm_ax_ald E
    exact lv_aload_n hx hb hd rfl (jm_lv_at hl hg) (K E hH hl hol ⟨jm_okl_gl hol hg, hos⟩)
  case aload i9 =>
    have hk : k = 2 := Nat.eq_of_beq_eq_true hq
    subst hk
    obtain ⟨g, rr, hg, E⟩ := jm_ax_ald E
    exact lv_aload hx hb hd (jm_lv_at hl hg) (K E hH hl hol ⟨jm_okl_gl hol hg, hos⟩)
  case istore_n i9 =>
    have hk : k = 1 := Nat.eq_of_beq_eq_true hq
    subst hk
    obtain ⟨x, st2, hlt, hst9, E9⟩ := jm_ax_ist E
    subst hst9
    exact lv_istore_n hx hb hd rfl hl hlt rfl (fun lsB hlB => K E9 hH (jm_lv_s1 (v := jm_I x) hlB) (jm_okl_s1 hol trivial) hos.2)
  case istore i9 =>
    have hk : k = 2 := Nat.eq_of_beq_eq_true hq
    subst hk
    obtain ⟨x, st2, hlt, hst9, E9⟩ := jm_ax_ist E
    subst hst9
    exact lv_istore hx hb hd hl hlt rfl (fun lsB hlB => K E9 hH (jm_lv_s1 (v := jm_I x) hlB) (jm_okl_s1 hol trivial) hos.2)
  case lstore_n i9 =>
    have hk : k = 1 := Nat.eq_of_beq_eq_true hq
    subst hk
    obtain ⟨x, st2, hlt, hst9, E9⟩ := jm_ax_lst E
    subst hst9
    exact lv_lstore_n hx hb hd rfl hl hlt rfl (fun lsB hlB => K E9 hH (jm_lv_s2 (v := jm_L x) hlB) (jm_okl_s2 hol trivial) hos.2)
  case lstore i9 =>
    have hk : k = 2 := Nat.eq_of_beq_eq_true hq
    subst hk
    obtain ⟨x, st2, hlt, hst9, E9⟩ := jm_ax_lst E
    subst hst9
    exact lv_lstore hx hb hd hl hlt rfl (fun lsB hlB => K E9 hH (jm_lv_s2 (v := jm_L x) hlB) (jm_okl_s2 hol trivial) hos.2)
  case iinc i9 c9 =>
    have hk : k = 3 := Nat.eq_of_beq_eq_true hq
    subst hk
    obtain ⟨x, hlt, hg, E⟩ := jm_ax_inc E
    have hm := jm_lc_gl (α := α) (j := 0) hg
    rw [Nat.zero_add] at hm
    obtain ⟨k9, hk9⟩ := List.getElem?_of_mem hm
    exact lv_iinc hx hb hd hl hk9 rfl hlt rfl (fun lsB hlB => K E hH (jm_lv_s1 (v := jm_I _) hlB) (jm_okl_s1 hol trivial) hos)
  case iadd =>
    have hk : k = 1 := Nat.eq_of_beq_eq_true hq
    subst hk
    obtain ⟨x, y9, st2, rfl, E⟩ := jm_ax_p2 E
    exact lv_iadd hx hb hd (K E hH hl hol ⟨trivial, hos.2.2⟩)
  case isub =>
    have hk : k = 1 := Nat.eq_of_beq_eq_true hq
    subst hk
    obtain ⟨x, y9, st2, rfl, E⟩ := jm_ax_p2 E
    exact lv_isub hx hb hd (K E hH hl hol ⟨trivial, hos.2.2⟩)
  case imul =>
    have hk : k = 1 := Nat.eq_of_beq_eq_true hq
    subst hk
    obtain ⟨x, y9, st2, rfl, E⟩ := jm_ax_p2 E
    exact lv_imul hx hb hd (K E hH hl hol ⟨trivial, hos.2.2⟩)
  case iand =>
    have hk : k = 1 := Nat.eq_of_beq_eq_true hq
    subst hk
    obtain ⟨x, y9, st2, rfl, E⟩ := jm_ax_p2 E
    exact lv_iand hx hb hd (K E hH hl hol ⟨trivial, hos.2.2⟩)
  case ior =>
    have hk : k = 1 := Nat.eq_of_beq_eq_true hq
    subst hk
    obtain ⟨x, y9, st2, rfl, E⟩ := jm_ax_p2 E
    exact lv_ior hx hb hd (K E hH hl hol ⟨trivial, hos.2.2⟩)
  case ishl =>
    have hk : k = 1 := Nat.eq_of_beq_eq_true hq
    subst hk
    obtain ⟨x, y9, st2, rfl, E⟩ := jm_ax_p2 E
    exact lv_ishl hx hb hd (K E hH hl hol ⟨trivial, hos.2.2⟩)
  case ishr =>
    have hk : k = 1 := Nat.eq_of_beq_eq_true hq
    subst hk
    obtain ⟨x, y9, st2, rfl, E⟩ := jm_ax_p2 E
    exact lv_ishr hx hb hd (K E hH hl hol ⟨trivial, hos.2.2⟩)
  case idiv =>
    have hk : k = 1 := Nat.eq_of_beq_eq_true hq
    subst hk
    obtain ⟨x, y9, st2, rfl, E⟩ := jm_ax_p2 E
    obtain ⟨hb9, E⟩ := jm_ax_if E
    exact lv_idiv hx hb hd (of_decide_eq_true hb9) (K E hH hl hol ⟨trivial, hos.2.2⟩)
  case ineg =>
    have hk : k = 1 := Nat.eq_of_beq_eq_true hq
    subst hk
    obtain ⟨x, st2, rfl, E⟩ := jm_ax_p1 E
    exact lv_ineg hx hb hd (K E hH hl hol ⟨trivial, hos.2⟩)
  case ladd =>
    have hk : k = 1 := Nat.eq_of_beq_eq_true hq
    subst hk
    obtain ⟨x, y9, st2, rfl, E⟩ := jm_ax_q2 E
    exact lv_ladd hx hb hd (K E hH hl hol ⟨trivial, hos.2.2⟩)
  case lsub =>
    have hk : k = 1 := Nat.eq_of_beq_eq_true hq
    subst hk
    obtain ⟨x, y9, st2, rfl, E⟩ := jm_ax_q2 E
    exact lv_lsub hx hb hd (K E hH hl hol ⟨trivial, hos.2.2⟩)
  case lmul =>
    have hk : k = 1 := Nat.eq_of_beq_eq_true hq
    subst hk
    obtain ⟨x, y9, st2, rfl, E⟩ := jm_ax_q2 E
    exact lv_lmul hx hb hd (K E hH hl hol ⟨trivial, hos.2.2⟩)
  case land =>
    have hk : k = 1 := Nat.eq_of_beq_eq_true hq
    subst hk
    obtain ⟨x, y9, st2, rfl, E⟩ := jm_ax_q2 E
    exact lv_land hx hb hd (K E hH hl hol ⟨trivial, hos.2.2⟩)
  case lxor =>
    have hk : k = 1 := Nat.eq_of_beq_eq_true hq
    subst hk
    obtain ⟨x, y9, st2, rfl, E⟩ := jm_ax_q2 E
    exact lv_lxor hx hb hd (K E hH hl hol ⟨trivial, hos.2.2⟩)
  case ldiv =>
    have hk : k = 1 := Nat.eq_of_beq_eq_true hq
    subst hk
    obtain ⟨x, y9, st2, rfl, E⟩ := jm_ax_q2 E
    obtain ⟨hb9, E⟩ := jm_ax_if E
    exact lv_ldiv hx hb hd (of_decide_eq_true hb9) (K E hH hl hol ⟨trivial, hos.2.2⟩)
  case lrem =>
    have hk : k = 1 := Nat.eq_of_beq_eq_true hq
    subst hk
    obtain ⟨x, y9, st2, rfl, E⟩ := jm_ax_q2 E
    obtain ⟨hb9, E⟩ := jm_ax_if E
    exact lv_lrem hx hb hd (of_decide_eq_true hb9) (K E hH hl hol ⟨trivial, hos.2.2⟩)
  case lcmp =>
    have hk : k = 1 := Nat.eq_of_beq_eq_true hq
    subst hk
    obtain ⟨x, y9, st2, rfl, E⟩ := jm_ax_q2 E
    exact W.lcmp hx hb hd (K E hH hl hol ⟨trivial, hos.2.2⟩)
  case i2l =>
    have hk : k = 1 := Nat.eq_of_beq_eq_true hq
    subst hk
    obtain ⟨x, st2, rfl, E⟩ := jm_ax_p1 E
    exact lv_i2l hx hb hd rfl (K E hH hl hol ⟨trivial, hos.2⟩)
  case l2i =>
    have hk : k = 1 := Nat.eq_of_beq_eq_true hq
    subst hk
    obtain ⟨x, st2, rfl, E⟩ := jm_ax_q1 E
    exact lv_l2i hx hb hd rfl (K E hH hl hol ⟨trivial, hos.2⟩)
  case i2b =>
    have hk : k = 1 := Nat.eq_of_beq_eq_true hq
    subst hk
    obtain ⟨x, st2, rfl, E⟩ := jm_ax_p1 E
    exact lv_i2b hx hb hd rfl (K E hH hl hol ⟨trivial, hos.2⟩)
  case i2s =>
    have hk : k = 1 := Nat.eq_of_beq_eq_true hq
    subst hk
    obtain ⟨x, st2, rfl, E⟩ := jm_ax_p1 E
    exact lv_i2s hx hb hd rfl (K E hH hl hol ⟨trivial, hos.2⟩)
  case dup =>
    have hk : k = 1 := Nat.eq_of_beq_eq_true hq
    subst hk
    match st, E, hos with
    | .inl (.inl x) :: st2, E, hos => exact lv_dup hx hb hd rfl (K E hH hl hol ⟨trivial, trivial, hos.2⟩)
    | .inr q :: st2, E, hos => exact lv_dup hx hb hd rfl (K E hH hl hol ⟨hos.1, hos.1, hos.2⟩)
    | [], E, _ => cases E
    | .inl (.inr x) :: st2, E, _ => cases E
  case dup2 =>
    have hk : k = 1 := Nat.eq_of_beq_eq_true hq
    subst hk
    match st, E, hos with
    | .inl (.inr x) :: st2, E, hos => exact lv_dup2_2 hx hb hd rfl (K E hH hl hol ⟨trivial, trivial, hos.2⟩)
    | .inl (.inl x) :: .inr q :: st2, E, hos => exact lv_dup2_11 hx hb hd rfl rfl (K E hH hl hol ⟨trivial, hos.2.1, trivial, hos.2.1, hos.2.2⟩)
    | [], E, _ => cases E
    | .inr q :: st2, E, _ => cases E
    | [.inl (.inl x)], E, _ => cases E
    | .inl (.inl x) :: .inl q :: st2, E, _ => cases E
  case goto off =>
    obtain ⟨hk, htg⟩ := (Bool.and_eq_true _ _).mp hq
    have hk : k = 3 := Nat.eq_of_beq_eq_true hk
    subst hk
    have htg := jm_tg_ok (of_decide_eq_true htg)
    exact lv_goto hx hb hd htg (K E hH hl hol hos)
  case ifCond c9 off =>
    obtain ⟨hk, htg⟩ := (Bool.and_eq_true _ _).mp hq
    have hk : k = 3 := Nat.eq_of_beq_eq_true hk
    subst hk
    have htg := jm_tg_ok (of_decide_eq_true htg)
    obtain ⟨x, st2, rfl, E⟩ := jm_ax_p1 E
    obtain ⟨Et, Ef⟩ := jm_ax_br E
    cases c9 with
    | eq => exact lv_if_eq hx hb hd htg (fun h => K (Et (decide_eq_true h)) hH hl hol hos.2) (fun h => K (Ef (decide_eq_false h)) hH hl hol hos.2)
    | ne => exact lv_if_ne hx hb hd htg (fun h => K (Et (decide_eq_true h)) hH hl hol hos.2) (fun h => K (Ef (decide_eq_false (fun h9 => h9 h))) hH hl hol hos.2)
    | lt => exact lv_if_lt hx hb hd htg (fun h => K (Et (decide_eq_true h)) hH hl hol hos.2) (fun h => K (Ef (decide_eq_false h)) hH hl hol hos.2)
    | ge => exact lv_if_ge hx hb hd htg (fun h => K (Et (decide_eq_true h)) hH hl hol hos.2) (fun h => K (Ef (decide_eq_false h)) hH hl hol hos.2)
    | gt => exact lv_if_gt hx hb hd htg (fun h => K (Et (decide_eq_true h)) hH hl hol hos.2) (fun h => K (Ef (decide_eq_false h)) hH hl hol hos.2)
    | le => exact lv_if_le hx hb hd htg (fun h => K (Et (decide_eq_true h)) hH hl hol hos.2) (fun h => K (Ef (decide_eq_false h)) hH hl hol hos.2)
  case if_icmp c9 off =>
    obtain ⟨hk, htg⟩ := (Bool.and_eq_true _ _).mp hq
    have hk : k = 3 := Nat.eq_of_beq_eq_true hk
    subst hk
    have htg := jm_tg_ok (of_decide_eq_true htg)
    obtain ⟨x, y9, st2, rfl, E⟩ := jm_ax_p2 E
    obtain ⟨Et, Ef⟩ := jm_ax_br E
    cases c9 with
    | eq => exact lv_icmp_eq hx hb hd htg (fun h => K (Et (decide_eq_true h)) hH hl hol hos.2.2) (fun h => K (Ef (decide_eq_false h)) hH hl hol hos.2.2)
    | ne => exact lv_icmp_ne hx hb hd htg (fun h => K (Et (decide_eq_true h)) hH hl hol hos.2.2) (fun h => K (Ef (decide_eq_false (fun h9 => h9 h))) hH hl hol hos.2.2)
    | lt => exact lv_icmp_lt hx hb hd htg (fun h => K (Et (decide_eq_true h)) hH hl hol hos.2.2) (fun h => K (Ef (decide_eq_false h)) hH hl hol hos.2.2)
    | ge => exact lv_icmp_ge hx hb hd htg (fun h => K (Et (decide_eq_true h)) hH hl hol hos.2.2) (fun h => K (Ef (decide_eq_false h)) hH hl hol hos.2.2)
    | gt => exact lv_icmp_gt hx hb hd htg (fun h => K (Et (decide_eq_true h)) hH hl hol hos.2.2) (fun h => K (Ef (decide_eq_false h)) hH hl hol hos.2.2)
    | le => exact lv_icmp_le hx hb hd htg (fun h => K (Et (decide_eq_true h)) hH hl hol hos.2.2) (fun h => K (Ef (decide_eq_false h)) hH hl hol hos.2.2)
  case tableswitch dd lo hi offs =>
    obtain ⟨x, st2, rfl, E⟩ := jm_ax_p1 E
    obtain ⟨h12, h3⟩ := (Bool.and_eq_true _ _).mp hq
    obtain ⟨h1, h2⟩ := (Bool.and_eq_true _ _).mp h12
    have h3 := of_decide_eq_true h3
    rcases jm_sel_ts _ _ E with ⟨j, off, hj, hx9, E⟩ | ⟨hno, E⟩
    · have hlt : j < offs.toList.length := (List.getElem?_eq_some_iff.mp hj).1
      have htg := jm_tg_ok (of_decide_eq_true (List.all_eq_true.mp h2 off (List.mem_of_getElem? hj)))
      have ho : offs[(x.toInt - lo).toNat]? = some off := by
        rw [show (x.toInt - lo).toNat = j by omega, ← Array.getElem?_toList]
        exact hj
      exact lv_tableIn hx hb hd (by omega) (by omega) ho htg (K E hH hl hol hos.2)
    · have htg := jm_tg_ok (of_decide_eq_true h1)
      refine lv_tableOut hx hb hd ?_ htg (K E hH hl hol hos.2)
      by_cases ha : x.toInt < lo
      · exact Or.inl ha
      · refine Or.inr ?_
        by_cases hc : (x.toInt - lo).toNat < offs.toList.length
        · exact absurd (by omega) (hno (x.toInt - lo).toNat hc)
        · omega
  case lookupswitch dd ps =>
    obtain ⟨x, st2, rfl, E⟩ := jm_ax_p1 E
    obtain ⟨h12, h3⟩ := (Bool.and_eq_true _ _).mp hq
    obtain ⟨h1, h2⟩ := (Bool.and_eq_true _ _).mp h12
    obtain ⟨E, hof⟩ := jm_sel_ls _ E
    refine lv_lookup hx hb hd h3 rfl (jm_tg_ok ?_) (K E hH hl hol hos.2)
    rcases hof with hof | ⟨q, hq9, hof⟩
    · rw [hof]; exact of_decide_eq_true h1
    · rw [hof]; exact of_decide_eq_true (List.all_eq_true.mp h2 q hq9)
  case getfield ix =>
    have hk : k = 3 := Nat.eq_of_beq_eq_true hq
    subst hk
    obtain ⟨ci, j, w, g, rr, st2, hlk2, rfl, hsh, E⟩ := jm_ax_getf E
    have hw9 := jm_okw hos.1 (by rw [hsh]; intro h9; cases h9)
    obtain ⟨C, T, N, ty0, hcl, hnf, hj, -⟩ := jm_flk _ (jm_lk2_mem hlk2)
    rcases E with ⟨k2, r2, hrf, E⟩ | ⟨hrf, E⟩
    · refine jm_rget X hH hlk2 hos.1 hsh hd (by rw [hrf]; rfl) (K E hH hl hol ⟨?_, hos.2⟩)
      have hj26 : j < 26 := by
        have : ∀ ci, ci < 33 → jm_nf ci ≤ 26 := by decide
        have h33 : ci < 33 := by
          have : ∀ k, k < 33 → (jm_sh k).1 = 0 → (jm_sh k).2 < 33 := by decide
          have h9 := this g hw9.1 (by rw [hsh])
          rw [hsh] at h9
          exact h9
        have h9 := this ci h33
        dsimp only at hnf hj
        omega
      have h9 := jm_rf_ok g hw9.1 rr hw9.2 j hj26
      rw [hrf] at h9
      exact Or.inl (of_decide_eq_true h9)
    · exact jm_rget X hH hlk2 hos.1 hsh hd (by rw [hrf]; rfl) (K E hH hl hol ⟨trivial, hos.2⟩)
  case putfield ix =>
    have hk : k = 3 := Nat.eq_of_beq_eq_true hq
    subst hk
    obtain ⟨ci, j, w, x, g, rr, st2, hlk2, rfl, hsh, hrf, hw9, E⟩ := jm_ax_putf E
    exact jm_rput X hH hlk2 hos.2.1 hsh hrf hw9 hd (fun H1 locs1 hH1 => K E hH1 hl hol hos.2.2)
  case getstatic ix =>
    have hk : k = 3 := Nat.eq_of_beq_eq_true hq
    subst hk
    have E1 : jm_ax (jm_run n) d (match jm_lk2 jm_gsL M.1 ix with
      | some k => jm_go (M, pc + 3, ls, jm_R (40 + k) 0 :: st, σ)
      | none => none) = some (r, σ') := E
    cases h : jm_lk2 jm_gsL M.1 ix with
    | none => rw [h] at E1; cases E1
    | some g => rw [h] at E1; exact jm_rgs X hH h hd (fun hlt => K E1 hH hl hol ⟨Or.inr ⟨Nat.le_add_right _ _, by show 40 + g < 45; omega, rfl⟩, hos⟩)
  case iaload =>
    have hk : k = 1 := Nat.eq_of_beq_eq_true hq
    subst hk
    obtain ⟨i9, g, rr, st2, hst9, E9⟩ := jm_ax_ix E
    subst hst9
    rcases jm_ax_t15 E9 with ⟨n9, hsh, Ea⟩ | ⟨n9, hsh, Ea⟩
    · obtain ⟨hb9, Eb⟩ := jm_ax_if Ea
      exact jm_rild X hH hos.2.1 hsh hb9 hd (K Eb hH hl hol ⟨trivial, hos.2.2⟩)
    · obtain ⟨hb9, Eb⟩ := jm_ax_if Ea
      rcases hos.2.1 with h9 | ⟨h9, h10, h11⟩
      · have : ∀ k, k < 33 → (jm_sh k).1 ≠ 5 := by decide
        exact absurd (by rw [hsh]) (this g h9.1)
      · dsimp only at h9 h10 h11
        subst h11
        exact jm_rsld X hH h9 h10 hsh hb9 hd (K Eb hH hl hol ⟨trivial, hos.2.2⟩)
  case laload =>
    have hk : k = 1 := Nat.eq_of_beq_eq_true hq
    subst hk
    obtain ⟨i9, g, rr, st2, hst9, E9⟩ := jm_ax_ix E
    subst hst9
    obtain ⟨n9, hsh, Ea⟩ := jm_ax_t2 E9
    obtain ⟨hb9, Eb⟩ := jm_ax_if Ea
    exact jm_rlld X hH hos.2.1 hsh hb9 hd (K Eb hH hl hol ⟨trivial, hos.2.2⟩)
  case baload =>
    have hk : k = 1 := Nat.eq_of_beq_eq_true hq
    subst hk
    obtain ⟨i9, g, rr, st2, hst9, E9⟩ := jm_ax_ix E
    subst hst9
    obtain ⟨n9, hsh, Ea⟩ := jm_ax_t3 E9
    obtain ⟨hb9, Eb⟩ := jm_ax_if Ea
    exact jm_rzld X hH hos.2.1 hsh hb9 hd (K Eb hH hl hol ⟨trivial, hos.2.2⟩)
  case aaload =>
    have hk : k = 1 := Nat.eq_of_beq_eq_true hq
    subst hk
    obtain ⟨i9, g, rr, st2, hst9, E9⟩ := jm_ax_ix E
    subst hst9
    obtain ⟨n9, hsh, Ea⟩ := jm_ax_t4 E9
    obtain ⟨hb9, Eb⟩ := jm_ax_if Ea
    have hin9 := jm_in_of hb9
    have hlt : i9.toNatClampNeg < n9 := Nat.not_le.mp fun q => hin9 (Or.inr q)
    have hw9 := jm_okw hos.2.1 (by rw [hsh]; intro h9; cases h9)
    have h9 := jm_ra_ok g hw9.1 rr hw9.2 (by rw [hsh]) i9.toNatClampNeg (by rw [hsh]; exact hlt)
    exact jm_rald X hH hos.2.1 hsh hb9 hd (K Eb hH hl hol ⟨Or.inl h9, hos.2.2⟩)
  case iastore =>
    have hk : k = 1 := Nat.eq_of_beq_eq_true hq
    subst hk
    obtain ⟨x, st1, hst8, E8⟩ := jm_ax_p1 E
    subst hst8
    obtain ⟨i9, g, rr, st2, hst9, E9⟩ := jm_ax_ix E8
    subst hst9
    obtain ⟨n9, hsh, Ea⟩ := jm_ax_t1 E9
    obtain ⟨hb9, Eb⟩ := jm_ax_if Ea
    exact jm_rist X hH hos.2.2.1 hsh hb9 hd (fun H1 locs1 hH1 => K Eb hH1 hl hol hos.2.2.2)
  case lastore =>
    have hk : k = 1 := Nat.eq_of_beq_eq_true hq
    subst hk
    obtain ⟨x, st1, hst8, E8⟩ := jm_ax_q1 E
    subst hst8
    obtain ⟨i9, g, rr, st2, hst9, E9⟩ := jm_ax_ix E8
    subst hst9
    obtain ⟨n9, hsh, Ea⟩ := jm_ax_t2 E9
    obtain ⟨hb9, Eb⟩ := jm_ax_if Ea
    exact jm_rlst X hH hos.2.2.1 hsh hb9 hd (fun H1 locs1 hH1 => K Eb hH1 hl hol hos.2.2.2)
  case bastore =>
    have hk : k = 1 := Nat.eq_of_beq_eq_true hq
    subst hk
    obtain ⟨x, st1, hst8, E8⟩ := jm_ax_p1 E
    subst hst8
    obtain ⟨i9, g, rr, st2, hst9, E9⟩ := jm_ax_ix E8
    subst hst9
    obtain ⟨n9, hsh, Ea⟩ := jm_ax_t3 E9
    obtain ⟨hb9, Eb⟩ := jm_ax_if Ea
    exact jm_rzst X hH hos.2.2.1 hsh hb9 hd (fun H1 locs1 hH1 => K Eb hH1 hl hol hos.2.2.2)
  case invokevirtual ix =>
    have hk : k = 3 := Nat.eq_of_beq_eq_true hq
    subst hk
    obtain ⟨M2, na, bs, g, rr, st2, d2, q, hlk2, hna, rfl, hsh, hcat, h8, rfl, E1, E2⟩ := jm_ax_cv E
    obtain ⟨r1, σ1⟩ := q
    obtain ⟨ho1, ho2⟩ := jm_oks_app.mp hos
    have hst : (bs ++ jm_R g rr :: st2).map (jm_cv α) = ((bs.reverse.map (jm_cv α)).reverse ++ .ref (α g rr) :: st2.map (jm_cv α)) := by
      rw [List.map_append, List.map_reverse, List.reverse_reverse]
      rfl
    rw [hst]
    refine jm_rcv hMn X hH hlk2 (by rw [List.length_reverse]; exact hna) ho2.1 (jm_oks_rev ho1) hsh hcat h8 E1 hl.1 hd (fun H1 locs1 hH1 hr1 => ?_)
    cases r1 with
    | none => exact K E2 hH1 hl hol ho2.2
    | some v => exact K E2 hH1 hl hol ⟨hr1, ho2.2⟩
  case invokestatic ix =>
    have hk : k = 3 := Nat.eq_of_beq_eq_true hq
    subst hk
    rcases jm_ax_cs E with ⟨M2, na, bs, st2, d2, q, hlk2, hna, rfl, hcat, h8, rfl, E1, E2⟩ | ⟨w, hlk2, E⟩
    · obtain ⟨r1, σ1⟩ := q
      obtain ⟨ho1, ho2⟩ := jm_oks_app.mp hos
      have hst : (bs ++ st2).map (jm_cv α) = ((bs.reverse.map (jm_cv α)).reverse ++ st2.map (jm_cv α)) := by
        rw [List.map_append, List.map_reverse, List.reverse_reverse]
      rw [hst]
      refine jm_rcs hMn X hH hlk2 (by rw [List.length_reverse]; exact hna) (jm_oks_rev ho1) hcat h8 E1 hl.1 hd (fun H1 locs1 hH1 hr1 => ?_)
      cases r1 with
      | none => exact K E2 hH1 hl hol ho2
      | some v => exact K E2 hH1 hl hol ⟨hr1, ho2⟩
    · obtain ⟨w10, w11, w12, w13⟩ := jm_imk _ (jm_lk2_mem hlk2)
      have hmls : c.maxLocals = lsA.size := hml.trans hl.1.symm
      have hfr : 1 ≤ (jm_rm d).frames := Nat.le_add_left 1 d
      by_cases hw : w = 10
      · subst hw
        obtain ⟨x, st2, hst9, E9⟩ := jm_ax_p1 (show jm_ax (jm_run n) d (jm_p1 st _) = _ from E)
        subst hst9
        obtain ⟨h8, Eb⟩ := jm_ax_b8 E9
        exact va_mabs hx hb hmls hown (hts _ (jm_tgd_mem (w10 rfl) rfl)) (hts _ (jm_tgd_mem jm_abs.1 rfl)) (hts _ (jm_tgd_mem jm_abs.2.1 rfl)) (hts _ (jm_tgd_mem jm_abs.2.2 rfl)) hfr (by rw [jm_cats_sum]; show _ ≤ 60 * (d + 1); omega) (Nat.zero_le _) (Nat.zero_le _) hd (K Eb hH hl hol ⟨trivial, hos.2⟩)
      by_cases hw : w = 11
      · subst hw
        obtain ⟨x, y9, st2, hst9, E9⟩ := jm_ax_p2 (show jm_ax (jm_run n) d (jm_p2 st _) = _ from E)
        subst hst9
        obtain ⟨h8, Eb⟩ := jm_ax_b8 E9
        exact va_mmin hx hb hmls hown (hts _ (jm_tgd_mem (w11 rfl) rfl)) (hts _ (jm_tgd_mem jm_min.1 rfl)) (hts _ (jm_tgd_mem jm_min.2.1 rfl)) (hts _ (jm_tgd_mem jm_min.2.2 rfl)) hfr (by rw [jm_cats_sum]; show _ ≤ 60 * (d + 1); omega) (Nat.zero_le _) (Nat.zero_le _) hd (K Eb hH hl hol ⟨trivial, hos.2.2⟩)
      by_cases hw : w = 12
      · subst hw
        obtain ⟨x, y9, st2, hst9, E9⟩ := jm_ax_p2 (show jm_ax (jm_run n) d (jm_p2 st _) = _ from E)
        subst hst9
        obtain ⟨h8, Eb⟩ := jm_ax_b8 E9
        exact va_mmax hx hb hmls hown (hts _ (jm_tgd_mem (w12 rfl) rfl)) (hts _ (jm_tgd_mem jm_max.1 rfl)) (hts _ (jm_tgd_mem jm_max.2.1 rfl)) (hts _ (jm_tgd_mem jm_max.2.2 rfl)) hfr (by rw [jm_cats_sum]; show _ ≤ 60 * (d + 1); omega) (Nat.zero_le _) (Nat.zero_le _) hd (K Eb hH hl hol ⟨trivial, hos.2.2⟩)
      by_cases hw : w = 13
      · subst hw
        obtain ⟨n9, dp, k1, r1, sp, k0, r0, st2, n0, n1, hst9, hs0, hs1, h8, ⟨a1, a2, a3, a4, a5⟩, E9⟩ := jm_ax_ac E
        subst hst9
        obtain ⟨g1, g2⟩ := jm_okw hos.2.2.1 (by rw [hs1]; intro h9; cases h9)
        obtain ⟨g3, g4⟩ := jm_okw hos.2.2.2.2.1 (by rw [hs0]; intro h9; cases h9)
        have he0 := jm_wd_at (α := α) (cy := cy) (σ := σ) g3 g4
        have he1 := jm_wd_at (α := α) (cy := cy) (σ := σ) g1 g2
        rw [jm_ce1 hs0] at he0
        rw [jm_ce1 hs1] at he1
        have hw := jm_set_r (α := α) (cy := cy) (σ := σ) (f := va_cpy (σ.1 k0 r0) (σ.1 k1 r1) sp.toNatClampNeg dp.toNatClampNeg n9.toNatClampNeg) g1 g2
        rw [jm_ce1 hs1, jm_wr_at] at hw
        exact va_copyi hx hb hmls hown (hts _ (jm_tgd_mem (w13 rfl) rfl)) (hts _ (jm_tgd_mem jm_acp.1 rfl)) (hts _ (jm_tgd_mem jm_acp.2.1 rfl)) (hts _ (jm_tgd_mem jm_acp.2.2 rfl)) hK hH.1 hH.2.1 hH.2.2 _ _ 0 0 he0 he1 rfl rfl rfl a1 a2 a3 a4 a5 (fun _ _ => rfl) hfr (by rw [jm_cats_sum]; show _ + 18 ≤ 60 * (d + 1); omega) hd (fun H1 locs1 hP1 hD1 hS1 => K E9 ⟨by rw [hw] at hP1; exact hP1, by rw [hw] at hD1; exact hD1, hS1⟩ hl hol hos.2.2.2.2.2)
      exfalso
      revert E
      unfold jm_math
      split
      · exact absurd rfl ‹_›
      · exact absurd rfl ‹_›
      · exact absurd rfl ‹_›
      · exact absurd rfl ‹_›
      · intro E; cases E
  case ireturn =>
    obtain ⟨hk, hrt⟩ := (Bool.and_eq_true _ _).mp hq
    have hk : k = 1 := Nat.eq_of_beq_eq_true hk
    subst hk
    obtain ⟨x, hst9, hz9, hb01⟩ := jm_ax_ret (show jm_ax (jm_run n) d (jm_ret M st σ) = _ from E)
    clear E
    subst hst9
    cases hz9
    cases hbz : M.2.2.2 with
    | true =>
      rw [hbz] at hrt
      have hrt : ret = some .boolean := of_decide_eq_true hrt
      have hn : narrow .boolean (.int x) = .int x := by
        rcases hb01 hbz with rfl | rfl <;> decide
      exact W.zret hx hb (hr.trans hrt) hn (fun t ht hW => ⟨rfl, trivial, by rw [ht]; exact hH.1, hH.2.2.F ht⟩) hH.2.2.2.2 hd
    | false =>
      rw [hbz] at hrt
      have hrt : ret = some .int := of_decide_eq_true hrt
      exact W.iret hx hb (hr.trans hrt) (fun t ht hW => ⟨rfl, trivial, by rw [ht]; exact hH.1, hH.2.2.F ht⟩) hH.2.2.2.2 hd
  case lreturn =>
    obtain ⟨hk, hrt⟩ := (Bool.and_eq_true _ _).mp hq
    have hk : k = 1 := Nat.eq_of_beq_eq_true hk
    subst hk
    have hrt : ret = some .long := of_decide_eq_true hrt
    dsimp only at E
    split at E
    · next x =>
      have E : some (some (jm_L x), σ) = some (r, σ') := E
      cases E
      exact W.lret hx hb (hr.trans hrt) (fun t ht hW => ⟨rfl, trivial, by rw [ht]; exact hH.1, hH.2.2.F ht⟩) hH.2.2.2.2 hd
    · cases E
  case areturn =>
    obtain ⟨hk, hrt⟩ := (Bool.and_eq_true _ _).mp hq
    have hk : k = 1 := Nat.eq_of_beq_eq_true hk
    subst hk
    have hrt : ret = some (.object "ShaftDiscs$Shaft") := of_decide_eq_true hrt
    dsimp only at E
    split at E
    · next q =>
      obtain ⟨g, rr⟩ := q
      have E : some (some (jm_R g rr), σ) = some (r, σ') := E
      cases E
      exact W.aret hx hb (hr.trans hrt) (Or.inl ⟨_, rfl⟩) (Or.inr ⟨_, rfl⟩) (fun t ht hW => ⟨rfl, hos.1, by rw [ht]; exact hH.1, hH.2.2.F ht⟩) hH.2.2.2.2 hd
    · cases E
  case return_ =>
    obtain ⟨hk, hrt⟩ := (Bool.and_eq_true _ _).mp hq
    have hk : k = 1 := Nat.eq_of_beq_eq_true hk
    subst hk
    have hrt : ret = none := of_decide_eq_true hrt
    dsimp only at E
    split at E
    · have E : some (none, σ) = some (r, σ') := E
      cases E
      exact W.vret hx hb (hr.trans hrt) (fun t ht hW => ⟨rfl, trivial, by rw [ht]; exact hH.1, hH.2.2.F ht⟩) hH.2.2.2.2 hd
    · cases E
  all_goals exact absurd (show (none : Option jm_Rs) = some _ from E) (by intro h; cases h)
theorem jm_body (l : Launch) (α : Nat → Nat → Nat) (cy : jm_C) (D : va_G) : ∀ n, jm_Body l α cy D n
  | 0 => fun _ _ _ _ _ _ _ _ _ _ _ _ e => by cases e
  | n + 1 => jm_body_succ (jm_body l α cy D n)
theorem jm_met (l : Launch) (α : Nat → Nat → Nat) (cy : jm_C) (D : va_G) (n : Nat) : jm_Metn l α cy D n := jm_met_of (jm_body l α cy D n)
end
section
-- MATHS: tools
theorem jm_ps (M : jm_M) (pc : Nat) (ls : List (Option jm_V)) (st : List jm_V) (σ σ' : jm_S) (v : jm_V) : jm_psh (M, pc, ls, st, σ) (some v, σ') = (M, pc, ls, v :: st, σ') := rfl
theorem jm_pn (M : jm_M) (pc : Nat) (ls : List (Option jm_V)) (st : List jm_V) (σ σ' : jm_S) : jm_psh (M, pc, ls, st, σ) (none, σ') = (M, pc, ls, st, σ') := rfl
/-- which cells changed -/
def jm_ag (C : Nat → Nat → Bool) (σ σ' : jm_S) : Prop := ∀ k r, C k r = false → σ'.1 k r = σ.1 k r ∧ σ'.2 k r = σ.2 k r
theorem jm_ag.rf {C : Nat → Nat → Bool} {σ : jm_S} : jm_ag C σ σ := fun _ _ _ => ⟨rfl, rfl⟩
theorem jm_ag.tr {C : Nat → Nat → Bool} {a b c : jm_S} (h : jm_ag C a b) (h' : jm_ag C b c) : jm_ag C a c := fun k r hc => ⟨(h' k r hc).1.trans (h k r hc).1, (h' k r hc).2.trans (h k r hc).2⟩
theorem jm_ag.mo {C C' : Nat → Nat → Bool} {a b : jm_S} (h : jm_ag C a b) (hc : ∀ k r, C' k r = false → C k r = false) : jm_ag C' a b := fun k r h9 => h k r (hc k r h9)
theorem jm_ag.wi {C : Nat → Nat → Bool} {σ : jm_S} {k r j : Nat} {x : Int32} (h : C k r = true) : jm_ag C σ (jm_wi σ k r j x) := fun k' r' hc => ⟨jm_wr_ne (fun q => by rw [q.1, q.2, h] at hc; cases hc), rfl⟩
theorem jm_ag.wj {C : Nat → Nat → Bool} {σ : jm_S} {k r j : Nat} {x : Int64} (h : C k r = true) : jm_ag C σ (jm_wj σ k r j x) := fun k' r' hc => ⟨rfl, jm_wl_ne (fun q => by rw [q.1, q.2, h] at hc; cases hc)⟩
theorem jm_ag.wc {C : Nat → Nat → Bool} {σ : jm_S} {k r k0 r0 a b n : Nat} (h : C k r = true) : jm_ag C σ (jm_wc σ k r k0 r0 a b n) := fun k' r' hc => ⟨jm_wr_ne (fun q => by rw [q.1, q.2, h] at hc; cases hc), rfl⟩
/-- reading behind a write -/
theorem jm_wi1 (σ : jm_S) (k r j : Nat) (x : Int32) (k' r' : Nat) : (jm_wi σ k r j x).1 k' r' = if k' = k ∧ r' = r then upd (σ.1 k r) j x else σ.1 k' r' := rfl
theorem jm_wi2 (σ : jm_S) (k r j : Nat) (x : Int32) : (jm_wi σ k r j x).2 = σ.2 := rfl
theorem jm_wj1 (σ : jm_S) (k r j : Nat) (x : Int64) : (jm_wj σ k r j x).1 = σ.1 := rfl
theorem jm_wj2 (σ : jm_S) (k r j : Nat) (x : Int64) (k' r' : Nat) : (jm_wj σ k r j x).2 k' r' = if k' = k ∧ r' = r then vp_updL (σ.2 k r) j x else σ.2 k' r' := rfl
theorem jm_wc1 (σ : jm_S) (k r k0 r0 a b n k' r' : Nat) : (jm_wc σ k r k0 r0 a b n).1 k' r' = if k' = k ∧ r' = r then va_cpy (σ.1 k0 r0) (σ.1 k r) a b n else σ.1 k' r' := rfl
theorem jm_wc2 (σ : jm_S) (k r k0 r0 a b n : Nat) : (jm_wc σ k r k0 r0 a b n).2 = σ.2 := rfl
-- numbers
theorem jm_b0 : jm_b01 0 = true := by decide
theorem jm_b1 : jm_b01 1 = true := by decide
theorem jm_in_nI {j n : Nat} (h : j < n) (hn : n < 2 ^ 31) : jm_in3 (nI j) n = true := decide_eq_true (vp_in_nI h hn)
theorem jm_cl {n : Nat} (h : n < 2 ^ 31) : (nI n).toNatClampNeg = n := nI_clamp h
/-- literals as nI -/
theorem jm_lit (n : Nat) : (OfNat.ofNat n : Int32) = nI n := rfl
theorem jm_lg_lt {x y : Int64} : lg_cmp x y < 0 ↔ x < y := by
  unfold lg_cmp
  by_cases h1 : x > y
  · rw [if_pos h1]
    constructor
    · intro h; exact absurd h (by decide)
    · intro h; exact absurd h (by have := Int64.lt_iff_toInt_lt.mp h1; intro h2; have := Int64.lt_iff_toInt_lt.mp h2; omega)
  · rw [if_neg h1]
    by_cases h2 : x = y
    · rw [if_pos h2]
      subst h2
      constructor
      · intro h; exact absurd h (by decide)
      · intro h; exact absurd h h1
    · rw [if_neg h2]
      constructor
      · intro _
        have a : ¬ y.toInt < x.toInt := fun q => h1 (Int64.lt_iff_toInt_lt.mpr q)
        have b : ¬ x.toInt = y.toInt := fun q => h2 (Int64.toInt_inj.mp q)
        exact Int64.lt_iff_toInt_lt.mpr (by omega)
      · intro _; decide
theorem jm_lg_eq {x y : Int64} : lg_cmp x y = 0 ↔ x = y := by
  unfold lg_cmp
  by_cases h1 : x > y
  · rw [if_pos h1]
    constructor
    · intro h; exact absurd h (by decide)
    · intro h
      subst h
      have := Int64.lt_iff_toInt_lt.mp h1
      omega
  · rw [if_neg h1]
    by_cases h2 : x = y
    · rw [if_pos h2]; exact ⟨fun _ => h2, fun _ => rfl⟩
    · rw [if_neg h2]
      exact ⟨fun h => absurd h (by decide), fun h => absurd h h2⟩
theorem jm_lg_gt {x y : Int64} : 0 < lg_cmp x y ↔ y < x := by
  unfold lg_cmp
  by_cases h1 : x > y
  · rw [if_pos h1]; exact ⟨fun _ => h1, fun _ => by decide⟩
  · rw [if_neg h1]
    by_cases h2 : x = y
    · rw [if_pos h2]
      exact ⟨fun h => absurd h (by decide), fun h => absurd h h1⟩
    · rw [if_neg h2]
      exact ⟨fun h => absurd h (by decide), fun h => absurd h h1⟩
/-- in(v, low, high) of the reference over ints -/
theorem jm_i64 (x : Int32) : x.toInt64.toInt = x.toInt := by simp
theorem jm_lt64 {x y : Int32} : x.toInt64 < y.toInt64 ↔ x < y := by
  rw [Int64.lt_iff_toInt_lt, Int32.lt_iff_toInt_lt, jm_i64, jm_i64]
theorem jm_ct {α : Type} {c : Prop} [Decidable c] {a b : α} (h : c) : cond (decide c) a b = a := by rw [decide_eq_true h]; rfl
theorem jm_cf {α : Type} {c : Prop} [Decidable c] {a b : α} (h : ¬ c) : cond (decide c) a b = b := by rw [decide_eq_false h]; rfl
theorem jm_ti32 {x y : Int32} : x < y ↔ x.toInt < y.toInt := Int32.lt_iff_toInt_lt
theorem jm_te32 {x y : Int32} : x ≤ y ↔ x.toInt ≤ y.toInt := Int32.le_iff_toInt_le
theorem jm_ti64 {x y : Int64} : x < y ↔ x.toInt < y.toInt := Int64.lt_iff_toInt_lt
theorem jm_te64 {x y : Int64} : x ≤ y ↔ x.toInt ≤ y.toInt := Int64.le_iff_toInt_le
theorem jm_q32 {x y : Int32} : x = y ↔ x.toInt = y.toInt := Int32.toInt_inj.symm
/-- a number in a range is one of these -/
theorem jm_nI_of {x : Int32} {n : Nat} (h0 : 0 ≤ x.toInt) (h1 : x.toInt < n) : ∃ j : Nat, j < n ∧ x = nI j := by
  have hb : x.toInt < 2 ^ 31 := x.toInt_lt
  refine ⟨x.toInt.toNat, by omega, ?_⟩
  rw [jm_q32, nI_toInt (by omega)]
  omega
theorem c_isRow (d : Nat) (σ : jm_S) (x : Int32) : jm_call (d + 1) jD_isRow [jm_I x] σ = some (some (jm_I (if 0 ≤ x.toInt ∧ x.toInt < 8 then 1 else 0)), σ) := by
  simp only [gD_isRow_0, gD_isRow_14, gD_isRow_15, Bool.cond_decide, jm_b0, jm_b1, cond_true, jm_ti32, jm_te32]
  simp only [show (0 : Int32).toInt = 0 from rfl, show (8 : Int32).toInt = 8 from rfl]
  split
  · next h => rw [if_neg (by omega)]
  · split
    · next h => rw [if_neg (by omega)]
    · rw [if_pos (by omega)]
theorem r_in (d : Nat) (σ : jm_S) (x y z : Int64) : jm_call (d + 1) jM_in [jm_L x, jm_L y, jm_L z] σ = some (some (jm_I (if y.toInt ≤ x.toInt ∧ x.toInt ≤ z.toInt then 1 else 0)), σ) := by
  simp only [gM_in_0, gM_in_17, gM_in_18, Bool.cond_decide, jm_b0, jm_b1, cond_true, jm_lg_lt, jm_lg_gt, jm_ti64]
  split
  · next h => rw [if_neg (by omega)]
  · split
    · next h => rw [if_neg (by omega)]
    · rw [if_pos (by omega)]
end
section
-- MATHS: the shaft of the class
/-- a shaft: how many discs, the mark, what is told (0 J, 1 K, 2 N, 3 kind) -/
abbrev sS : Type := Nat × Int32 × (Nat → Nat → Int32)
def ratS (kd : Nat → Int32) : Nat → Int32
  | 0 => 1
  | d + 1 => if kd d = 2 then ratS kd d * 2 else ratS kd d
def rtS (S : sS) (d : Nat) : Int32 := ratS (S.2.2 3) (d + 1)
def weiS (S : sS) (d : Nat) : Int32 := (S.2.2 0 d + (if S.2.2 3 d = 3 then S.2.2 2 d else 0)) * rtS S d * rtS S d
def sprS (S : sS) (d : Nat) : Int32 := if d + 1 = S.1 then 0 else (if S.2.2 3 d = 5 then S.2.2 1 d / 2 else S.2.2 1 d) * rtS S d * rtS S d
def tieS (S : sS) (d : Nat) : Int32 := if S.2.2 3 d = 4 ∨ S.2.2 3 d = 5 then S.2.2 2 d * rtS S d * rtS S d else 0
/-- shaft number q of the class's store is S -/
def cS (σ : jm_S) (q : Nat) (S : sS) : Prop := σ.1 7 q 1 = nI S.1 ∧ σ.1 7 q 2 = S.2.1 ∧ ∀ w, w < 4 → ∀ d, d < S.1 → σ.1 9 (4 * q + w) d = S.2.2 w d
theorem c_has (e : Nat) (σ : jm_S) (q : Nat) (x : Int32) {n : Nat} (hn : σ.1 7 q 1 = nI n) (h6 : n ≤ 6) : jm_call (e + 1) jS_has [jm_R 7 q, jm_I x] σ = some (some (jm_I (if 0 ≤ x.toInt ∧ x.toInt < n then 1 else 0)), σ) := by
  simp only [gS_has_0, gS_has_16, gS_has_17, Bool.cond_decide, jm_b0, jm_b1, cond_true, jm_ti32, jm_te32, hn]
  simp only [show (0 : Int32).toInt = 0 from rfl, nI_toInt (show n < 2 ^ 31 by omega)]
  split
  · next h => rw [if_neg (by omega)]
  · split
    · next h => rw [if_neg (by omega)]
    · rw [if_pos (by omega)]
theorem c_ratioL (e : Nat) (σ : jm_S) (q d : Nat) {S : sS} (hS : cS σ q S) (h6 : S.1 ≤ 6) (hd : d < S.1) : ∀ (m i : Nat), i + m = d + 1 → jm_ev e (jS_ratioOf, 4, [some (jm_R 7 q), some (jm_I (nI d)), some (jm_I (ratS (S.2.2 3) i)), some (jm_I (nI i))], [], σ) = some (some (jm_I (rtS S d)), σ)
  | 0, i, h => by
    have hi : i = d + 1 := by omega
    subst hi
    rw [gS_ratioOf_4, jm_ct (nI_lt (Nat.lt_succ_self d) (by omega)), gS_ratioOf_39]
    rfl
  | m + 1, i, h => by
    rw [gS_ratioOf_4, jm_cf (nI_nlt (show i ≤ d by omega) (by omega)), hS.1, jm_cf (nI_ge (show i < S.1 by omega) (by omega)), jm_in_nI (show i < 6 by omega) (by decide), jm_cl (by omega), hS.2.2 3 (by omega) i (by omega), cond_true]
    by_cases hk : S.2.2 3 i = 2
    · rw [jm_cf (fun h9 => h9 hk), gS_ratioOf_33, nI_1]
      have := c_ratioL e σ q d hS h6 hd m (i + 1) (by omega)
      rw [show ratS (S.2.2 3) (i + 1) = ratS (S.2.2 3) i * 2 by simp [ratS, hk]] at this
      exact this
    · rw [jm_ct hk, gS_ratioOf_33, nI_1]
      have := c_ratioL e σ q d hS h6 hd m (i + 1) (by omega)
      rw [show ratS (S.2.2 3) (i + 1) = ratS (S.2.2 3) i by simp [ratS, hk]] at this
      exact this
theorem c_ratioOf (e : Nat) (σ : jm_S) (q d : Nat) {S : sS} (hS : cS σ q S) (h6 : S.1 ≤ 6) (hd : d < S.1) : jm_call (e + 1) jS_ratioOf [jm_R 7 q, jm_I (nI d)] σ = some (some (jm_I (rtS S d)), σ) := by
  rw [gS_ratioOf_0]
  exact c_ratioL e σ q d hS h6 hd (d + 1) 0 (by omega)
theorem c_weightOf (e : Nat) (σ : jm_S) (q d : Nat) {S : sS} (hS : cS σ q S) (h6 : S.1 ≤ 6) (hd : d < S.1) : jm_call (e + 2) jS_weightOf [jm_R 7 q, jm_I (nI d)] σ = some (some (jm_I (weiS S d)), σ) := by
  have h1 := jm_in_nI (show d < 6 by omega) (by decide)
  have h2 := jm_cl (show d < 2 ^ 31 by omega)
  have w0 := hS.2.2 0 (by omega) d hd
  have w2 := hS.2.2 2 (by omega) d hd
  have w3 := hS.2.2 3 (by omega) d hd
  rw [gS_weightOf_0, c_ratioOf e σ q d hS h6 hd, Option.bind_some, jm_ps, gS_weightOf_5, h1, h2, w3, w2, cond_true, cond_true]
  by_cases hk : S.2.2 3 d = 3
  · rw [jm_cf (fun h9 => h9 hk), gS_weightOf_30, h1, h2, w0, cond_true]
    simp [weiS, hk]
  · rw [jm_ct hk, gS_weightOf_30, h1, h2, w0, cond_true]
    simp [weiS, hk]
theorem c_springOf (e : Nat) (σ : jm_S) (q d : Nat) {S : sS} (hS : cS σ q S) (h6 : S.1 ≤ 6) (hd : d < S.1) : jm_call (e + 2) jS_springOf [jm_R 7 q, jm_I (nI d)] σ = some (some (jm_I (sprS S d)), σ) := by
  have h1 := jm_in_nI (show d < 6 by omega) (by decide)
  have h2 := jm_cl (show d < 2 ^ 31 by omega)
  have w1 := hS.2.2 1 (by omega) d hd
  have w3 := hS.2.2 3 (by omega) d hd
  have hm : nI S.1 - 1 = nI (S.1 - 1) := pk_sub (a := S.1) (b := 1) (by omega)
  rw [gS_springOf_0, hS.1, hm, c_ratioOf e σ q d hS h6 hd]
  by_cases hl : d + 1 = S.1
  · rw [jm_cf (fun h9 => h9 (by rw [show d = S.1 - 1 by omega]))]
    simp [sprS, hl]
  · have hne : ¬ nI d = nI (S.1 - 1) := fun h9 => hl (by have := (nI_eq (by omega) (by omega)).mp h9; omega)
    rw [jm_ct hne, Option.bind_some, jm_ps, gS_springOf_17, h1, h2, w3, w1, cond_true, cond_true, cond_true]
    by_cases hk : S.2.2 3 d = 5
    · rw [jm_cf (fun h9 => h9 hk), gS_springOf_51]
      simp [sprS, hk, hl]
    · rw [jm_ct hk, gS_springOf_51]
      simp [sprS, hk, hl]
theorem c_tieOf (e : Nat) (σ : jm_S) (q d : Nat) {S : sS} (hS : cS σ q S) (h6 : S.1 ≤ 6) (hd : d < S.1) : jm_call (e + 2) jS_tieOf [jm_R 7 q, jm_I (nI d)] σ = some (some (jm_I (tieS S d)), σ) := by
  have h1 := jm_in_nI (show d < 6 by omega) (by decide)
  have h2 := jm_cl (show d < 2 ^ 31 by omega)
  have w2 := hS.2.2 2 (by omega) d hd
  have w3 := hS.2.2 3 (by omega) d hd
  rw [gS_tieOf_0, c_ratioOf e σ q d hS h6 hd, Option.bind_some, jm_ps, gS_tieOf_5, h1, h2, w3, cond_true]
  by_cases h4 : S.2.2 3 d = 4
  · rw [jm_ct h4, gS_tieOf_25, h1, h2, w2, cond_true, gS_tieOf_41]
    simp [tieS, h4]
  · rw [jm_cf h4]
    by_cases h5 : S.2.2 3 d = 5
    · rw [jm_cf (fun h9 => h9 h5), gS_tieOf_25, h1, h2, w2, cond_true, gS_tieOf_41]
      simp [tieS, h5]
    · rw [jm_ct h5, gS_tieOf_41]
      simp [tieS, h4, h5]
end
section
-- MATHS: determinants of the class
def bI (b : Bool) : Int32 := cond b 1 0
theorem bI_or (a b : Bool) : bI a ||| bI b = bI (a || b) := by cases a <;> cases b <;> decide
theorem bI_01 (b : Bool) : jm_b01 (bI b) = true := by cases b <;> decide
theorem bI_0 {b : Bool} : bI b = 0 ↔ b = false := by cases b <;> decide
theorem nS1 {i : Nat} (h : 1 ≤ i) : nI i - 1 = nI (i - 1) := pk_sub (a := i) (b := 1) h
theorem nS2 {i : Nat} (h : 2 ≤ i) : nI i - 2 = nI (i - 2) := pk_sub (a := i) (b := 2) h
/-- a product beyond; a difference beyond -/
def mulO (a b : Int64) : Bool := cond (decide (a = -1)) (decide (b = -9223372036854775808)) (cond (decide (a = 0)) false (decide (¬ (a * b) / a = b)))
def subO (a b : Int64) : Bool := decide ((a ^^^ b) &&& (a ^^^ (a - b)) < 0)
def dt (D s : Nat → Int64) : Nat → Int64
  | 0 => 1
  | 1 => D 0 * 1
  | i + 2 => D (i + 1) * dt D s (i + 1) - s i * s i * dt D s i
def ov (D s : Nat → Int64) : Nat → Bool
  | 0 => false
  | 1 => mulO (D 0) 1
  | i + 2 => mulO (D (i + 1)) (dt D s (i + 1)) || mulO (s i) (s i) || mulO (s i * s i) (dt D s i) || subO (D (i + 1) * dt D s (i + 1)) (s i * s i * dt D s i)
def oU (D s : Nat → Int64) : Nat → Bool
  | 0 => false
  | k + 1 => oU D s k || ov D s (k + 1)
abbrev C14 : Nat → Nat → Bool := fun k _ => k == 14
theorem c_times (e : Nat) (σ : jm_S) (a b : Int64) {o : Bool} (ho : σ.1 14 0 6 = bI o) : ∃ σ', jm_call (e + 1) jP_times [jm_R 14 0, jm_L a, jm_L b] σ = some (some (jm_L (a * b)), σ') ∧ σ'.1 14 0 6 = bI (o || mulO a b) ∧ σ'.1 14 0 5 = σ.1 14 0 5 ∧ jm_ag C14 σ σ' := by
  have fin : ∀ p : Bool, mulO a b = p → ∀ pc, jm_ev e (jP_times, pc, [some (jm_R 14 0), some (jm_L a), none, some (jm_L b), none, some (jm_L (a * b)), none], [jm_I (bI p), jm_I (bI o), jm_R 14 0], σ) = cond (jm_b01 (bI o ||| bI p)) (jm_ev e (jP_times, 67, [some (jm_R 14 0), some (jm_L a), none, some (jm_L b), none, some (jm_L (a * b)), none], [], jm_wi σ 14 0 6 (bI o ||| bI p))) none → ∃ σ', jm_ev e (jP_times, pc, [some (jm_R 14 0), some (jm_L a), none, some (jm_L b), none, some (jm_L (a * b)), none], [jm_I (bI p), jm_I (bI o), jm_R 14 0], σ) = some (some (jm_L (a * b)), σ') ∧ σ'.1 14 0 6 = bI (o || mulO a b) ∧ σ'.1 14 0 5 = σ.1 14 0 5 ∧ jm_ag C14 σ σ' := by
    intro p hp pc h
    refine ⟨jm_wi σ 14 0 6 (bI o ||| bI p), ?_, ?_, ?_, jm_ag.wi rfl⟩
    · rw [h, bI_or, bI_01, cond_true, gP_times_67]
    · rw [hp, ← bI_or]; rfl
    · rfl
  rw [gP_times_0, ho]
  simp only [jm_lg_eq]
  by_cases h1 : a = -1
  · rw [jm_cf (fun h9 => h9 h1)]
    by_cases h2 : b = -9223372036854775808
    · rw [jm_cf (fun h9 => h9 h2)]
      exact fin true (by simp [mulO, h1, h2]) 31 (gP_times_31 ..)
    · rw [jm_ct h2]
      exact fin false (by simp [mulO, h1, h2]) 31 (gP_times_31 ..)
  · rw [jm_ct h1]
    by_cases h0 : a = 0
    · rw [jm_ct h0, gP_times_67]
      exact ⟨σ, rfl, by rw [ho]; simp [mulO, h1, h0], rfl, jm_ag.rf⟩
    · rw [jm_cf h0, jm_ct h0]
      by_cases h2 : (a * b) / a = b
      · rw [jm_ct h2]
        exact fin false (by simp [mulO, h1, h0, h2]) 63 (gP_times_63 ..)
      · rw [jm_cf h2]
        exact fin true (by simp [mulO, h1, h0, h2]) 63 (gP_times_63 ..)
theorem c_less (e : Nat) (σ : jm_S) (a b : Int64) {o : Bool} (ho : σ.1 14 0 6 = bI o) : ∃ σ', jm_call (e + 1) jP_less [jm_R 14 0, jm_L a, jm_L b] σ = some (some (jm_L (a - b)), σ') ∧ σ'.1 14 0 6 = bI (o || subO a b) ∧ σ'.1 14 0 5 = σ.1 14 0 5 ∧ jm_ag C14 σ σ' := by
  refine ⟨jm_wi σ 14 0 6 (bI (o || subO a b)), ?_, rfl, rfl, jm_ag.wi rfl⟩
  have hge : (0 ≤ lg_cmp ((a ^^^ b) &&& (a ^^^ (a - b))) 0) ↔ ¬ (a ^^^ b) &&& (a ^^^ (a - b)) < 0 := by
    rw [← jm_lg_lt]
    constructor
    · intro h h9
      rw [jm_te32] at h
      rw [jm_ti32] at h9
      omega
    · intro h
      rw [jm_te32]
      rw [jm_ti32] at h
      omega
  rw [gP_less_0, ho]
  by_cases h : (a ^^^ b) &&& (a ^^^ (a - b)) < 0
  · rw [jm_cf (fun h9 => hge.mp h9 h)]
    have := gP_less_28 e σ (bI true) (bI o) a b (a - b)
    rw [bI_or, bI_01, cond_true] at this
    rw [show subO a b = true by simp [subO, h]]
    exact this
  · rw [jm_ct (hge.mpr h)]
    have := gP_less_28 e σ (bI false) (bI o) a b (a - b)
    rw [bI_or, bI_01, cond_true] at this
    rw [show subO a b = false by simp [subO, h]]
    exact this
/-- what the speeds of the class have been measured at -/
def sP (σ : jm_S) (n : Nat) (w s t : Nat → Int64) : Prop := σ.1 14 0 5 = nI n ∧ ∀ d, d < n → σ.2 15 0 d = w d ∧ σ.2 16 0 d = s d ∧ σ.2 17 0 d = t d
def dgS (w s t : Nat → Int64) (m : Int64) (i : Nat) : Int64 := s i + (if i = 0 then 0 else s (i - 1)) + t i - m * w i
theorem c_diagonal (e : Nat) (σ : jm_S) {n : Nat} {w s t : Nat → Int64} (h : sP σ n w s t) (h6 : n ≤ 6) {i : Nat} (hi : i < n) (m : Int32) : jm_call (e + 1) jP_diagonal [jm_R 14 0, jm_I (nI i), jm_I m] σ = some (some (jm_L (dgS w s t m.toInt64 i)), σ) := by
  have h1 := jm_in_nI (show i < 6 by omega) (by decide)
  have h2 := jm_cl (show i < 2 ^ 31 by omega)
  obtain ⟨a1, a2, a3⟩ := h.2 i hi
  rw [gP_diagonal_0]
  by_cases h0 : i = 0
  · subst h0
    rw [jm_cf (fun h9 => h9 rfl), gP_diagonal_16, h1, h2, a1, a2, a3]
    simp [dgS]
  · have hne : ¬ nI i = 0 := nI_ne0 (by omega) (by omega)
    rw [jm_ct hne, nS1 (by omega), jm_in_nI (show i - 1 < 6 by omega) (by decide), cond_true, jm_cl (by omega), (h.2 (i - 1) (by omega)).2.1, gP_diagonal_16, h1, h2, a1, a2, a3]
    simp [dgS, h0]
theorem oU_of {D s : Nat → Int64} {i : Nat} (h : ov D s i = true) : ∀ {k : Nat}, i ≤ k → oU D s k = true
  | 0, hk => by
    have : i = 0 := by omega
    subst this
    cases h
  | k + 1, hk => by
    by_cases hi : i = k + 1
    · subst hi
      simp [oU, h]
    · simp [oU, oU_of h (show i ≤ k by omega)]
theorem subO_0 (a : Int64) : subO a 0 = false := by
  unfold subO
  rw [show a - 0 = a by simp]
  simp
abbrev C18 : Nat → Nat → Bool := fun k _ => k == 14 || k == 18
theorem sP_ag {σ σ' : jm_S} {n : Nat} {w s t : Nat → Int64} {C : Nat → Nat → Bool} (h : sP σ n w s t) (ha : jm_ag C σ σ') (h5 : σ'.1 14 0 5 = σ.1 14 0 5) (c15 : C 15 0 = false) (c16 : C 16 0 = false) (c17 : C 17 0 = false) : sP σ' n w s t := by
  refine ⟨h5.trans h.1, fun d hd => ?_⟩
  rw [(ha 15 0 c15).2, (ha 16 0 c16).2, (ha 17 0 c17).2]
  exact h.2 d hd
theorem C14_18 {σ σ' : jm_S} (h : jm_ag C14 σ σ') : jm_ag C18 σ σ' := h.mo (fun k r h9 => by simp [C18] at h9; simp [C14, h9.1])
theorem c_reachL (e : Nat) {n : Nat} {w s t : Nat → Int64} (h6 : n ≤ 6) (last : Nat) (hln : last ≤ n) (m : Int32) : ∀ (k i : Nat) (o4 o6 o8 : Option jm_V) (σ : jm_S), sP σ n w s t → σ.1 14 0 6 = 0 → (∀ j, j < i → σ.2 18 0 j = dt (dgS w s t m.toInt64) s j) → 1 ≤ i → i + k = last + 1 → oU (dgS w s t m.toInt64) s (i - 1) = false →
    ∃ σ', jm_ev (e + 1) (jP_reaches, 14, [some (jm_R 14 0), some (jm_I (nI last)), some (jm_I m), some (jm_I (nI i)), o4, none, o6, none, o8, none], [], σ) = some (some (jm_I (bI (!oU (dgS w s t m.toInt64) s last))), σ') ∧ sP σ' n w s t ∧ jm_ag C18 σ σ' ∧ (oU (dgS w s t m.toInt64) s last = false → ∀ j, j ≤ last → σ'.2 18 0 j = dt (dgS w s t m.toInt64) s j)
  | 0, i, o4, o6, o8, σ, hP, h0, hdt, hi1, hik, hoU => by
    have hi : i = last + 1 := by omega
    subst hi
    rw [gP_reaches_14, jm_ct (nI_lt (Nat.lt_succ_self last) (by omega)), gP_reaches_124]
    have hoU : oU (dgS w s t m.toInt64) s last = false := hoU
    refine ⟨σ, by rw [hoU]; rfl, hP, jm_ag.rf, fun _ j hj => hdt j (by omega)⟩
  | k + 1, i, o4, o6, o8, σ, hP, h0, hdt, hi1, hik, hoU => by
    generalize hD : dgS w s t m.toInt64 = D at hdt hoU ⊢
    have hin7 : jm_in3 (nI i) 7 = true := jm_in_nI (by omega) (by decide)
    have hcl : (nI i).toNatClampNeg = i := jm_cl (by omega)
    have key : ∀ (σ2 : jm_S) (l4 l6 : Int64) (o8 : Option jm_V) (o : Bool), sP σ2 n w s t → σ2.1 14 0 6 = bI o → σ2.2 18 0 = σ.2 18 0 → jm_ag C18 σ σ2 → l4 - l6 = dt D s i → (o || subO l4 l6) = ov D s i →
        ∃ σ', jm_ev (e + 1) (jP_reaches, 95, [some (jm_R 14 0), some (jm_I (nI last)), some (jm_I m), some (jm_I (nI i)), some (jm_L l4), none, some (jm_L l6), none, o8, none], [], σ2) = some (some (jm_I (bI (!oU D s last))), σ') ∧ sP σ' n w s t ∧ jm_ag C18 σ σ' ∧ (oU D s last = false → ∀ j, j ≤ last → σ'.2 18 0 j = dt D s j) := by
      intro σ2 l4 l6 o8 o hP2 ho2 hd2 ha2 hv hov
      obtain ⟨σ3, hc, ho3, h53, ha3⟩ := c_less e σ2 l4 l6 ho2
      rw [gP_reaches_95, hc, Option.bind_some, jm_ps, gP_reaches_108, hin7, cond_true, hcl, ho3, hov, hv]
      have hP3 : sP σ3 n w s t := sP_ag hP2 ha3 h53 rfl rfl rfl
      have ha3' : jm_ag C18 σ (jm_wj σ3 18 0 i (dt D s i)) := (ha2.tr (C14_18 ha3)).tr (jm_ag.wj rfl)
      have hP4 : sP (jm_wj σ3 18 0 i (dt D s i)) n w s t := sP_ag (C := C18) hP3 (jm_ag.wj rfl) rfl rfl rfl rfl
      cases hovi : ov D s i with
      | false =>
        rw [jm_ct (show bI false = 0 from rfl), nI_1]
        have hdt' : ∀ j, j < i + 1 → (jm_wj σ3 18 0 i (dt D s i)).2 18 0 j = dt D s j := by
          intro j hj
          rw [jm_wj2, if_pos ⟨rfl, rfl⟩]
          unfold vp_updL
          by_cases hji : j = i
          · rw [if_pos hji, hji]
          · rw [if_neg hji, (ha3 18 0 rfl).2, hd2]
            exact hdt j (by omega)
        have hoU' : oU D s (i + 1 - 1) = false := by
          rw [show i + 1 - 1 = (i - 1) + 1 by omega]
          show (oU D s (i - 1) || ov D s (i - 1 + 1)) = false
          rw [hoU, show i - 1 + 1 = i by omega, hovi]
          rfl
        have h0' : (jm_wj σ3 18 0 i (dt D s i)).1 14 0 6 = 0 := by
          show σ3.1 14 0 6 = 0
          rw [ho3, hov, hovi]
          rfl
        have ih := c_reachL e h6 last hln m k (i + 1) (some (jm_L l4)) (some (jm_L l6)) o8 _ hP4 h0' (by rw [hD]; exact hdt') (by omega) (by omega) (by rw [hD]; exact hoU')
        rw [hD] at ih
        obtain ⟨σ', e1, e2, e3, e4⟩ := ih
        exact ⟨σ', e1, e2, ha3'.tr e3, e4⟩
      | true =>
        rw [jm_cf (show ¬ bI true = 0 by decide)]
        have ht := oU_of hovi (show i ≤ last by omega)
        refine ⟨_, by rw [ht]; rfl, hP4, ha3', fun h9 => by rw [ht] at h9; cases h9⟩
    have hdi : σ.2 18 0 (i - 1) = dt D s (i - 1) := hdt (i - 1) (by omega)
    rw [gP_reaches_14, jm_cf (nI_nlt (show i ≤ last by omega) (by omega)), hP.1, jm_cf (nI_nlt (show i ≤ n by omega) (by omega)), nS1 hi1, c_diagonal e σ hP h6 (show i - 1 < n by omega) m, Option.bind_some, jm_ps, gP_reaches_36, nS1 hi1, jm_in_nI (show i - 1 < 7 by omega) (by decide), cond_true, jm_cl (show i - 1 < 2 ^ 31 by omega), hdi, hD]
    obtain ⟨σ1, hc1, ho1, h51, ha1⟩ := c_times e σ (D (i - 1)) (dt D s (i - 1)) (o := false) h0
    have hP1 : sP σ1 n w s t := sP_ag hP ha1 h51 rfl rfl rfl
    rw [hc1, Option.bind_some, jm_ps, gP_reaches_47]
    by_cases h1 : i = 1
    · subst h1
      rw [jm_ct (show nI 1 ≤ 1 by decide)]
      refine key σ1 _ _ _ _ hP1 ho1 (ha1 18 0 rfl).2 (C14_18 ha1) ?_ ?_
      · show D 0 * 1 - 0 = D 0 * 1
        simp
      · rw [subO_0]
        show (false || mulO (D 0) 1 || false) = mulO (D 0) 1
        simp
    · have hi2 : 2 ≤ i := by omega
      obtain ⟨j, rfl⟩ : ∃ j, i = j + 2 := ⟨i - 2, by omega⟩
      have hs1 : σ1.2 16 0 j = s j := (hP1.2 j (by omega)).2.1
      have hdj : σ.2 18 0 j = dt D s j := hdt j (by omega)
      rw [jm_cf (show ¬ nI (j + 2) ≤ 1 from nI_ge (a := 1) (by omega) (by omega)), nS2 hi2, show j + 2 - 2 = j by omega, jm_in_nI (show j < 6 by omega) (by decide), cond_true, cond_true, jm_cl (show j < 2 ^ 31 by omega), hs1]
      obtain ⟨σ2, hc2, ho2, h52, ha2⟩ := c_times e σ1 (s j) (s j) ho1
      have hP2 : sP σ2 n w s t := sP_ag hP1 ha2 h52 rfl rfl rfl
      rw [hc2, Option.bind_some, jm_ps, gP_reaches_77, nS2 hi2, show j + 2 - 2 = j by omega, jm_in_nI (show j < 7 by omega) (by decide), cond_true, jm_cl (show j < 2 ^ 31 by omega), (ha2 18 0 rfl).2, (ha1 18 0 rfl).2, hdj]
      obtain ⟨σ3, hc3, ho3, h53, ha3⟩ := c_times e σ2 (s j * s j) (dt D s j) ho2
      have hP3 : sP σ3 n w s t := sP_ag hP2 ha3 h53 rfl rfl rfl
      rw [hc3, Option.bind_some, jm_ps, gP_reaches_93]
      refine key σ3 _ _ _ _ hP3 ho3 (((ha3 18 0 rfl).2.trans (ha2 18 0 rfl).2).trans (ha1 18 0 rfl).2) (C14_18 ((ha1.tr ha2).tr ha3)) rfl ?_
      show (false || mulO (D (j + 1)) (dt D s (j + 1)) || mulO (s j) (s j) || mulO (s j * s j) (dt D s j) || _) = ov D s (j + 2)
      simp [ov]
theorem c_reaches (e : Nat) (σ : jm_S) {n : Nat} {w s t : Nat → Int64} (h6 : n ≤ 6) (hP : sP σ n w s t) {last : Nat} (hln : last ≤ n) (m : Int32) :
    ∃ σ', jm_call (e + 2) jP_reaches [jm_R 14 0, jm_I (nI last), jm_I m] σ = some (some (jm_I (bI (!oU (dgS w s t m.toInt64) s last))), σ') ∧ sP σ' n w s t ∧ jm_ag C18 σ σ' ∧ (oU (dgS w s t m.toInt64) s last = false → ∀ j, j ≤ last → σ'.2 18 0 j = dt (dgS w s t m.toInt64) s j) := by
  rw [gP_reaches_0]
  have ha : jm_ag C18 σ (jm_wj (jm_wi σ 14 0 6 0) 18 0 0 1) := jm_ag.tr (jm_ag.wi rfl) (jm_ag.wj rfl)
  obtain ⟨σ', e1, e2, e3, e4⟩ := c_reachL e h6 last hln m last 1 none none none (jm_wj (jm_wi σ 14 0 6 0) 18 0 0 1) (sP_ag hP ha rfl rfl rfl rfl) rfl (fun j hj => by
    have : j = 0 := by omega
    subst this
    rfl) (by omega) (by omega) rfl
  exact ⟨σ', e1, e2, ha.tr e3, e4⟩
end
section
-- MATHS: how many are below, boxes, of the class
def sg (f : Nat → Int64) : Nat → Nat × Bool
  | 0 => (0, false)
  | i + 1 => (if (if f (i + 1) = 0 then (sg f i).2 else decide (f (i + 1) < 0)) = (sg f i).2 then (sg f i).1 else (sg f i).1 + 1, if f (i + 1) = 0 then (sg f i).2 else decide (f (i + 1) < 0))
theorem sg_le (f : Nat → Int64) : ∀ i, (sg f i).1 ≤ i
  | 0 => Nat.le_refl 0
  | i + 1 => by
    have := sg_le f i
    have h9 : ∀ (c : Prop) [Decidable c] (a : Nat), (if c then a else a + 1) ≤ a + 1 := fun c _ a => by split <;> omega
    unfold sg
    exact Nat.le_trans (h9 _ _) (by omega)
/-- how many are below; none: beyond -/
def blS (n : Nat) (w s t : Nat → Int64) (m : Int32) : Option Nat := if oU (dgS w s t m.toInt64) s n = true then none else some (sg (dt (dgS w s t m.toInt64) s) n).1
def bR (o : Option Nat) : Int32 := match o with
  | none => -1000016
  | some c => nI c
theorem blS_le {n : Nat} {w s t : Nat → Int64} {m : Int32} {c : Nat} (h : blS n w s t m = some c) : c ≤ n := by
  unfold blS at h
  split at h
  · cases h
  · cases h
    exact sg_le _ _
theorem nI_nneg {c : Nat} (h : c < 2 ^ 31) : 0 ≤ (nI c).toInt := by rw [nI_toInt h]; omega
theorem bR_ov {o : Option Nat} (h : ∀ c, o = some c → c < 2 ^ 31) : bR o = -1000016 ↔ o = none := by
  cases o with
  | none => exact ⟨fun _ => rfl, fun _ => rfl⟩
  | some c =>
    constructor
    · intro h9
      have h1 := nI_nneg (h c rfl)
      have h2 : (nI c).toInt = -1000016 := by rw [show nI c = -1000016 from h9]; rfl
      omega
    · intro h9; cases h9
theorem jm_lg_ge {x y : Int64} : 0 ≤ lg_cmp x y ↔ ¬ x < y := by
  rw [← jm_lg_lt, jm_te32, jm_ti32]
  omega
theorem c_belowL (e : Nat) (σ : jm_S) {n : Nat} {f : Nat → Int64} (h6 : n ≤ 6) (m : Int32) (h5 : σ.1 14 0 5 = nI n) (hf : ∀ j, j ≤ n → σ.2 18 0 j = f j) : ∀ (k i : Nat) (o5 o7 : Option jm_V), i + k = n → jm_ev e (jP_belowAt, 22, [some (jm_R 14 0), some (jm_I m), some (jm_I (nI (sg f i).1)), some (jm_I (bI (sg f i).2)), some (jm_I (nI (i + 1))), o5, none, o7], [], σ) = some (some (jm_I (nI (sg f n).1)), σ)
  | 0, i, o5, o7, h => by
    have hi : i = n := by omega
    subst hi
    rw [gP_belowAt_22, h5, jm_ct (nI_lt (Nat.lt_succ_self i) (by omega))]
  | k + 1, i, o5, o7, h => by
    have ih := fun o5 o7 => c_belowL e σ h6 m h5 hf k (i + 1) o5 o7 (by omega)
    rw [gP_belowAt_22, h5, jm_cf (nI_nlt (show i + 1 ≤ n by omega) (by omega)), jm_in_nI (show i + 1 < 7 by omega) (by decide), cond_true, jm_cl (by omega), hf (i + 1) (by omega)]
    have fin : ∀ b : Bool, b = (sg f (i + 1)).2 → ∀ o5 : Int64, jm_ev e (jP_belowAt, 63, [some (jm_R 14 0), some (jm_I m), some (jm_I (nI (sg f i).1)), some (jm_I (bI (sg f i).2)), some (jm_I (nI (i + 1))), some (jm_L o5), none, o7], [jm_I (bI b)], σ) = some (some (jm_I (nI (sg f n).1)), σ) := by
      intro b hb o5
      have h2 : (sg f (i + 1)).1 = if b = (sg f i).2 then (sg f i).1 else (sg f i).1 + 1 := by rw [hb]; rfl
      rw [gP_belowAt_63]
      by_cases hbb : b = (sg f i).2
      · rw [jm_ct (by rw [hbb]), gP_belowAt_74, nI_1]
        have := ih (some (jm_L o5)) (some (jm_I (bI b)))
        rw [h2, if_pos hbb, ← hb] at this
        exact this
      · have hne : ¬ bI b = bI (sg f i).2 := by
          intro h9
          apply hbb
          revert h9
          generalize (sg f i).2 = c
          cases b <;> cases c <;> decide
        rw [jm_cf hne, gP_belowAt_74, nI_1, nI_1]
        have := ih (some (jm_L o5)) (some (jm_I (bI b)))
        rw [h2, if_neg hbb, ← hb] at this
        exact this
    simp only [jm_lg_eq]
    by_cases h0 : f (i + 1) = 0
    · rw [jm_cf (fun h9 => h9 h0)]
      exact fin (sg f i).2 (by simp [sg, h0]) _
    · rw [jm_ct h0]
      by_cases hn : f (i + 1) < 0
      · rw [jm_cf (fun h9 => jm_lg_ge.mp h9 hn)]
        exact fin true (by simp [sg, h0, hn]) _
      · rw [jm_ct (jm_lg_ge.mpr hn)]
        exact fin false (by simp [sg, h0, hn]) _
theorem c_belowAt (e : Nat) (σ : jm_S) {n : Nat} {w s t : Nat → Int64} (h6 : n ≤ 6) (hP : sP σ n w s t) (m : Int32) : ∃ σ', jm_call (e + 3) jP_belowAt [jm_R 14 0, jm_I m] σ = some (some (jm_I (bR (blS n w s t m))), σ') ∧ sP σ' n w s t ∧ jm_ag C18 σ σ' := by
  obtain ⟨σ1, e1, e2, e3, e4⟩ := c_reaches e σ h6 hP (Nat.le_refl n) m
  refine ⟨σ1, ?_, e2, e3⟩
  rw [gP_belowAt_0, hP.1, e1, Option.bind_some, jm_ps, gP_belowAt_9]
  cases ho : oU (dgS w s t m.toInt64) s n with
  | true =>
    rw [jm_cf (fun h9 => h9 rfl)]
    simp [blS, ho, bR]
  | false =>
    rw [jm_ct (by decide)]
    have := c_belowL (e + 2) σ1 h6 m e2.1 (e4 ho) n 0 none none (by omega)
    rw [show blS n w s t m = some (sg (dt (dgS w s t m.toInt64) s) n).1 by simp [blS, ho]]
    exact this
-- boxes
def bis (B : Int32 → Option Nat) (k : Nat) : Nat → Nat → Nat → Option Nat
  | 0, lo, _ => some lo
  | f + 1, lo, hi => if hi ≤ lo + 1 then some lo else match B (nI ((lo + hi) / 2)) with
    | none => none
    | some c => if c ≤ k then bis B k f ((lo + hi) / 2) hi else bis B k f lo ((lo + hi) / 2)
/-- a box; some none: NONE; none: beyond -/
def boxS (B : Int32 → Option Nat) (k : Nat) : Option (Option Nat) := match B 200 with
  | none => none
  | some c => if c ≤ k then some none else (bis B k 200 0 200).map some
def xR (o : Option (Option Nat)) : Int32 := match o with
  | none => -1000016
  | some none => -1000000
  | some (some l) => nI l
theorem c_boxL (e : Nat) {n : Nat} {w s t : Nat → Int64} (h6 : n ≤ 6) (k : Nat) (hk : k < 100) (x2 : Int32) : ∀ (f lo hi : Nat) (o6 o7 : Option jm_V) (σ : jm_S), sP σ n w s t → f ≤ 200 → lo ≤ hi → hi ≤ 200 → ∃ σ', jm_ev (e + 3) (jP_boxOf, 35, [some (jm_R 14 0), some (jm_I (nI k)), some (jm_I x2), some (jm_I (nI lo)), some (jm_I (nI hi)), some (jm_I (nI (200 - f))), o6, o7], [], σ) = some (some (jm_I (xR ((bis (blS n w s t) k f lo hi).map some))), σ') ∧ sP σ' n w s t ∧ jm_ag C18 σ σ'
  | 0, lo, hi, o6, o7, σ, hP, hf, hlh, hh => by
    rw [gP_boxOf_35, jm_ct (show (200 : Int32) ≤ nI (200 - 0) by decide), gP_boxOf_99]
    exact ⟨σ, rfl, hP, jm_ag.rf⟩
  | f + 1, lo, hi, o6, o7, σ, hP, hf, hlh, hh => by
    rw [gP_boxOf_35, jm_cf (show ¬ (200 : Int32) ≤ nI (200 - (f + 1)) from nI_ge (b := 200) (by omega) (by omega)), nI_1]
    by_cases h1 : hi ≤ lo + 1
    · rw [jm_ct (nI_le h1 (by omega)), gP_boxOf_99]
      refine ⟨σ, ?_, hP, jm_ag.rf⟩
      simp [bis, h1, xR]
    · have hdiv : (nI lo + nI hi) / 2 = nI ((lo + hi) / 2) := by
        rw [nI_add]
        exact pk_div (d := 2) (by omega) (by omega) (by omega)
      obtain ⟨σ1, hc, hP1, ha1⟩ := c_belowAt e σ h6 hP (nI ((lo + hi) / 2))
      rw [jm_cf (nI_ge (show lo + 1 < hi by omega) (by omega)), hdiv, hc, Option.bind_some, jm_ps, gP_boxOf_65]
      cases hb : blS n w s t (nI ((lo + hi) / 2)) with
      | none =>
        rw [jm_cf (fun h9 => h9 rfl)]
        refine ⟨σ1, ?_, hP1, ha1⟩
        simp [bis, h1, hb, xR]
      | some c =>
        have hc6 := blS_le hb
        have hno : ¬ bR (some c) = -1000016 := fun h9 => by
          have := (bR_ov (o := some c) (fun c' h => by cases h; omega)).mp h9
          cases this
        rw [jm_ct hno]
        by_cases hck : c ≤ k
        · rw [jm_cf (show ¬ nI k < bR (some c) from nI_nlt hck (by omega)), gP_boxOf_93, nI_1, show 200 - (f + 1) + 1 = 200 - f by omega]
          obtain ⟨σ2, e1, e2, e3⟩ := c_boxL e h6 k hk x2 f ((lo + hi) / 2) hi _ _ σ1 hP1 (by omega) (by omega) hh
          refine ⟨σ2, ?_, e2, ha1.tr e3⟩
          rw [e1]
          simp [bis, h1, hb, hck]
        · rw [jm_ct (show nI k < bR (some c) from nI_lt (by omega) (by omega)), gP_boxOf_93, nI_1, show 200 - (f + 1) + 1 = 200 - f by omega]
          obtain ⟨σ2, e1, e2, e3⟩ := c_boxL e h6 k hk x2 f lo ((lo + hi) / 2) _ _ σ1 hP1 (by omega) (by omega) (by omega)
          refine ⟨σ2, ?_, e2, ha1.tr e3⟩
          rw [e1]
          simp [bis, h1, hb, hck]
theorem c_boxOf (e : Nat) (σ : jm_S) {n : Nat} {w s t : Nat → Int64} (h6 : n ≤ 6) (hP : sP σ n w s t) {k : Nat} (hk : k < 100) : ∃ σ', jm_call (e + 4) jP_boxOf [jm_R 14 0, jm_I (nI k)] σ = some (some (jm_I (xR (boxS (blS n w s t) k))), σ') ∧ sP σ' n w s t ∧ jm_ag C18 σ σ' := by
  obtain ⟨σ1, hc, hP1, ha1⟩ := c_belowAt e σ h6 hP 200
  rw [gP_boxOf_0, hc, Option.bind_some, jm_ps, gP_boxOf_7]
  cases hb : blS n w s t 200 with
  | none =>
    rw [jm_cf (fun h9 => h9 rfl)]
    refine ⟨σ1, ?_, hP1, ha1⟩
    simp [boxS, hb, xR]
  | some c =>
    have hc6 := blS_le hb
    have hno : ¬ bR (some c) = -1000016 := fun h9 => by
      have := (bR_ov (o := some c) (fun c' h => by cases h; omega)).mp h9
      cases this
    rw [jm_ct hno]
    by_cases hck : c ≤ k
    · rw [jm_cf (show ¬ nI k < bR (some c) from nI_nlt hck (by omega))]
      refine ⟨σ1, ?_, hP1, ha1⟩
      simp [boxS, hb, hck, xR]
    · rw [jm_ct (show nI k < bR (some c) from nI_lt (by omega) (by omega))]
      obtain ⟨σ2, e1, e2, e3⟩ := c_boxL e h6 k hk (bR (some c)) 200 0 200 none none σ1 hP1 (by omega) (by omega) (by omega)
      refine ⟨σ2, ?_, e2, ha1.tr e3⟩
      rw [show boxS (blS n w s t) k = (bis (blS n w s t) k 200 0 200).map some by simp [boxS, hb, hck]]
      exact e1
-- measured
abbrev C17 : Nat → Nat → Bool := fun k _ => k == 14 || k == 15 || k == 16 || k == 17
theorem cS_ag {σ σ' : jm_S} {q : Nat} {S : sS} {C : Nat → Nat → Bool} (h : cS σ q S) (ha : jm_ag C σ σ') (c7 : C 7 q = false) (c9 : ∀ w, w < 4 → C 9 (4 * q + w) = false) : cS σ' q S := by
  refine ⟨?_, ?_, fun w hw d hd => ?_⟩
  · rw [(ha 7 q c7).1]; exact h.1
  · rw [(ha 7 q c7).1]; exact h.2.1
  · rw [(ha 9 _ (c9 w hw)).1]; exact h.2.2 w hw d hd
def sw (S : sS) (d : Nat) : Int64 := (weiS S d).toInt64
def ss (S : sS) (d : Nat) : Int64 := (sprS S d).toInt64
def st (S : sS) (d : Nat) : Int64 := (tieS S d).toInt64
theorem c_measL (e : Nat) (q : Nat) {S : sS} (h6 : S.1 ≤ 6) : ∀ (k i : Nat) (σ : jm_S), i + k = S.1 → cS σ q S → σ.1 14 0 5 = nI S.1 → (∀ d, d < i → σ.2 15 0 d = sw S d ∧ σ.2 16 0 d = ss S d ∧ σ.2 17 0 d = st S d) → ∃ σ', jm_ev (e + 2) (jP_measure, 10, [some (jm_R 14 0), some (jm_R 7 q), some (jm_I (nI i))], [], σ) = some (none, σ') ∧ sP σ' S.1 (sw S) (ss S) (st S) ∧ jm_ag C17 σ σ'
  | 0, i, σ, h, hS, h5, hd => by
    have hi : i = S.1 := by omega
    subst hi
    rw [gP_measure_10, h5, jm_ct (nI_le (Nat.le_refl _) (by omega))]
    exact ⟨σ, rfl, ⟨h5, hd⟩, jm_ag.rf⟩
  | k + 1, i, σ, h, hS, h5, hd => by
    have hin := jm_in_nI (show i < 6 by omega) (by decide)
    have hcl := jm_cl (show i < 2 ^ 31 by omega)
    have hi : i < S.1 := by omega
    have hS1 : cS (jm_wj σ 15 0 i (weiS S i).toInt64) q S := hS
    have hS2 : cS (jm_wj (jm_wj σ 15 0 i (weiS S i).toInt64) 16 0 i (sprS S i).toInt64) q S := hS
    rw [gP_measure_10, h5, jm_cf (nI_ge hi (by omega)), c_weightOf e σ q i hS h6 hi, Option.bind_some, jm_ps, gP_measure_28, hin, cond_true, hcl, c_springOf e _ q i hS1 h6 hi, Option.bind_some, jm_ps, gP_measure_40, hin, cond_true, hcl, c_tieOf e _ q i hS2 h6 hi, Option.bind_some, jm_ps, gP_measure_52, hin, cond_true, hcl, nI_1]
    obtain ⟨σ', e1, e2, e3⟩ := c_measL e q h6 k (i + 1) (jm_wj (jm_wj (jm_wj σ 15 0 i (weiS S i).toInt64) 16 0 i (sprS S i).toInt64) 17 0 i (tieS S i).toInt64) (by omega) hS h5 (by
      intro d hdi
      by_cases hdi' : d = i
      · subst hdi'
        refine ⟨?_, ?_, ?_⟩ <;> simp [jm_wj2, vp_updL, sw, ss, st]
      · obtain ⟨a, b, c⟩ := hd d (by omega)
        refine ⟨?_, ?_, ?_⟩ <;> simp [jm_wj2, vp_updL, hdi', a, b, c])
    exact ⟨σ', e1, e2, (((jm_ag.wj rfl).tr (jm_ag.wj rfl)).tr (jm_ag.wj rfl)).tr e3⟩
theorem c_measure (e : Nat) (σ : jm_S) (q : Nat) {S : sS} (h6 : S.1 ≤ 6) (hS : cS σ q S) : ∃ σ', jm_call (e + 3) jP_measure [jm_R 14 0, jm_R 7 q] σ = some (none, σ') ∧ sP σ' S.1 (sw S) (ss S) (st S) ∧ jm_ag C17 σ σ' := by
  rw [gP_measure_0, hS.1]
  obtain ⟨σ', e1, e2, e3⟩ := c_measL e q h6 S.1 0 (jm_wi σ 14 0 5 (nI S.1)) (by omega) hS rfl (fun d hd => absurd hd (Nat.not_lt_zero d))
  exact ⟨σ', e1, e2, (jm_ag.wi rfl).tr e3⟩
end
section
-- MATHS: the shaft, determinants and boxes of the reference
def rS (R : Nat → Int32) (S : sS) : Prop := R 0 = nI S.1 ∧ R 1 = S.2.1 ∧ ∀ d, d < S.1 → R (2 + 4 * d) = S.2.2 3 d ∧ R (2 + 4 * d + 1) = S.2.2 0 d ∧ R (2 + 4 * d + 2) = S.2.2 1 d ∧ R (2 + 4 * d + 3) = S.2.2 2 d
theorem r_ix (d w : Nat) : ((2 : Int32) + ((4 : Int32) * nI d)) + nI w = nI (2 + 4 * d + w) := by
  rw [show (2 : Int32) = nI 2 from rfl, show (4 : Int32) = nI 4 from rfl, pk_mul, nI_add, nI_add]
theorem r_of (e : Nat) (σ : jm_S) (q : Nat) {d w : Nat} (hd : d < 6) (hw : w < 4) : jm_call (e + 1) jM_of [jm_R 25 q, jm_I (nI d), jm_I (nI w)] σ = some (some (jm_I (σ.1 25 q (2 + 4 * d + w))), σ) := by
  rw [gM_of_0, r_ix, jm_in_nI (show 2 + 4 * d + w < 26 by omega) (by decide), cond_true, jm_cl (by omega)]
theorem r_of0 (e : Nat) (σ : jm_S) (q : Nat) {d : Nat} (hd : d < 6) : jm_call (e + 1) jM_of [jm_R 25 q, jm_I (nI d), jm_I 0] σ = some (some (jm_I (σ.1 25 q (2 + 4 * d))), σ) := r_of e σ q hd (w := 0) (by omega)
theorem r_of1 (e : Nat) (σ : jm_S) (q : Nat) {d : Nat} (hd : d < 6) : jm_call (e + 1) jM_of [jm_R 25 q, jm_I (nI d), jm_I 1] σ = some (some (jm_I (σ.1 25 q (2 + 4 * d + 1))), σ) := r_of e σ q hd (w := 1) (by omega)
theorem r_of2 (e : Nat) (σ : jm_S) (q : Nat) {d : Nat} (hd : d < 6) : jm_call (e + 1) jM_of [jm_R 25 q, jm_I (nI d), jm_I 2] σ = some (some (jm_I (σ.1 25 q (2 + 4 * d + 2))), σ) := r_of e σ q hd (w := 2) (by omega)
theorem r_of3 (e : Nat) (σ : jm_S) (q : Nat) {d : Nat} (hd : d < 6) : jm_call (e + 1) jM_of [jm_R 25 q, jm_I (nI d), jm_I 3] σ = some (some (jm_I (σ.1 25 q (2 + 4 * d + 3))), σ) := r_of e σ q hd (w := 3) (by omega)
theorem r_ratioL (e : Nat) (σ : jm_S) (q d : Nat) {S : sS} (hS : rS (σ.1 25 q) S) (h6 : S.1 ≤ 6) (hd : d < S.1) : ∀ (m i : Nat), i + m = d + 1 → jm_ev (e + 1) (jM_ratio, 4, [some (jm_R 25 q), some (jm_I (nI d)), some (jm_I (ratS (S.2.2 3) i)), some (jm_I (nI i))], [], σ) = some (some (jm_I (rtS S d)), σ)
  | 0, i, h => by
    have hi : i = d + 1 := by omega
    subst hi
    rw [gM_ratio_4, jm_ct (nI_lt (Nat.lt_succ_self d) (by omega))]
    rfl
  | m + 1, i, h => by
    have ih := r_ratioL e σ q d hS h6 hd m (i + 1) (by omega)
    rw [gM_ratio_4, jm_cf (nI_nlt (show i ≤ d by omega) (by omega)), r_of0 e σ q (show i < 6 by omega), Option.bind_some, jm_ps, (hS.2.2 i (by omega)).1, gM_ratio_16]
    by_cases hk : S.2.2 3 i = 2
    · rw [jm_cf (fun h9 => h9 hk), gM_ratio_25, nI_1]
      rw [show ratS (S.2.2 3) (i + 1) = ratS (S.2.2 3) i * 2 by simp [ratS, hk]] at ih
      exact ih
    · rw [jm_ct hk, gM_ratio_25, nI_1, Int32.mul_one]
      rw [show ratS (S.2.2 3) (i + 1) = ratS (S.2.2 3) i by simp [ratS, hk]] at ih
      exact ih
theorem r_ratio (e : Nat) (σ : jm_S) (q d : Nat) {S : sS} (hS : rS (σ.1 25 q) S) (h6 : S.1 ≤ 6) (hd : d < S.1) : jm_call (e + 2) jM_ratio [jm_R 25 q, jm_I (nI d)] σ = some (some (jm_I (rtS S d)), σ) := by
  rw [gM_ratio_0]
  exact r_ratioL e σ q d hS h6 hd (d + 1) 0 (by omega)
theorem r_weight (e : Nat) (σ : jm_S) (q d : Nat) {S : sS} (hS : rS (σ.1 25 q) S) (h6 : S.1 ≤ 6) (hd : d < S.1) : jm_call (e + 3) jM_weight [jm_R 25 q, jm_I (nI d)] σ = some (some (jm_I (weiS S d)), σ) := by
  obtain ⟨a0, a1, a2, a3⟩ := hS.2.2 d hd
  rw [gM_weight_0, r_ratio e σ q d hS h6 hd, Option.bind_some, jm_ps, gM_weight_5, r_of1 (e + 1) σ q (by omega), Option.bind_some, jm_ps, gM_weight_12, r_of0 (e + 1) σ q (by omega), Option.bind_some, jm_ps, gM_weight_18, a0, a1]
  by_cases hk : S.2.2 3 d = 3
  · rw [jm_cf (fun h9 => h9 hk), r_of3 (e + 1) σ q (by omega), Option.bind_some, jm_ps, gM_weight_28, gM_weight_32, a3]
    simp [weiS, hk]
  · rw [jm_ct hk, gM_weight_32]
    simp [weiS, hk]
theorem r_spring (e : Nat) (σ : jm_S) (q d : Nat) {S : sS} (hS : rS (σ.1 25 q) S) (h6 : S.1 ≤ 6) (hd : d < S.1) : jm_call (e + 3) jM_spring [jm_R 25 q, jm_I (nI d)] σ = some (some (jm_I (sprS S d)), σ) := by
  obtain ⟨a0, a1, a2, a3⟩ := hS.2.2 d hd
  rw [gM_spring_0, jm_cf (nI_pos (by omega)), nI_1, hS.1]
  by_cases hl : d + 1 = S.1
  · rw [jm_cf (nI_nlt (show S.1 ≤ d + 1 by omega) (by omega)), gM_spring_13]
    simp [sprS, hl]
  · rw [jm_ct (nI_lt (show d + 1 < S.1 by omega) (by omega)), r_ratio e σ q d hS h6 hd, Option.bind_some, jm_ps, gM_spring_20, r_of0 (e + 1) σ q (by omega), Option.bind_some, jm_ps, gM_spring_27, a0, r_of2 (e + 1) σ q (by omega), a2, Option.bind_some, Option.bind_some, jm_ps, jm_ps]
    by_cases hk : S.2.2 3 d = 5
    · rw [jm_cf (fun h9 => h9 hk), gM_spring_37, gM_spring_48]
      simp [sprS, hk, hl]
    · rw [jm_ct hk, gM_spring_48]
      simp [sprS, hk, hl]
theorem r_tie (e : Nat) (σ : jm_S) (q d : Nat) {S : sS} (hS : rS (σ.1 25 q) S) (h6 : S.1 ≤ 6) (hd : d < S.1) (hkd : (S.2.2 3 d).toInt ≤ 5) : jm_call (e + 3) jM_tie [jm_R 25 q, jm_I (nI d)] σ = some (some (jm_I (tieS S d)), σ) := by
  obtain ⟨a0, a1, a2, a3⟩ := hS.2.2 d hd
  rw [gM_tie_0, r_ratio e σ q d hS h6 hd, Option.bind_some, jm_ps, gM_tie_5, r_of0 (e + 1) σ q (by omega), Option.bind_some, jm_ps, gM_tie_12, a0]
  by_cases h4 : S.2.2 3 d < 4
  · rw [jm_ct h4, gM_tie_30]
    have h4 := jm_ti32.mp h4
    have n4 : ¬ S.2.2 3 d = 4 := fun h9 => by rw [h9] at h4; exact absurd h4 (by decide)
    have n5 : ¬ S.2.2 3 d = 5 := fun h9 => by rw [h9] at h4; exact absurd h4 (by decide)
    simp [tieS, n4, n5]
  · rw [jm_cf h4, r_of3 (e + 1) σ q (by omega), a3, Option.bind_some, jm_ps, gM_tie_22, gM_tie_30]
    have h45 : S.2.2 3 d = 4 ∨ S.2.2 3 d = 5 := by
      rw [jm_ti32] at h4
      rw [jm_q32, jm_q32]
      have e4 : (4 : Int32).toInt = 4 := rfl
      have e5 : (5 : Int32).toInt = 5 := rfl
      omega
    simp [tieS, h45]
theorem m1d (b : Int64) : (-1 * b) / -1 = b := by
  rw [← Int64.toInt_inj, Int64.toInt_div, Int64.toInt_mul, show (-1 : Int64).toInt = -1 by decide]
  have hb1 := b.le_toInt
  have hb2 := b.toInt_lt
  by_cases h : b.toInt = -2 ^ 63
  · rw [h]; decide
  · have e1 : (-1 * b.toInt).bmod (2 ^ 64) = -b.toInt := by
      unfold Int.bmod
      dsimp only
      split <;> omega
    rw [e1, Int.tdiv_neg, Int.tdiv_one, Int.neg_neg]
    unfold Int.bmod
    dsimp only
    split <;> omega
abbrev C21 : Nat → Nat → Bool := fun k _ => k == 21
/-- of the reference's own cell only 'over' changes -/
def f19 (σ σ' : jm_S) : Prop := ∀ j, j ≠ 19 → σ'.1 21 0 j = σ.1 21 0 j
theorem f19.tr {a b c : jm_S} (h : f19 a b) (h' : f19 b c) : f19 a c := fun j hj => (h' j hj).trans (h j hj)
theorem f19.rf {a : jm_S} : f19 a a := fun _ _ => rfl
theorem f19.w {σ : jm_S} {x : Int32} : f19 σ (jm_wi σ 21 0 19 x) := fun j hj => by
  rw [jm_wi1, if_pos ⟨rfl, rfl⟩]
  simp [upd, hj]
theorem r_product (e : Nat) (σ : jm_S) (a b : Int64) {o : Bool} (ho : σ.1 21 0 19 = bI o) : ∃ σ', jm_call (e + 1) jM_product [jm_R 21 0, jm_L a, jm_L b] σ = some (some (jm_L (a * b)), σ') ∧ σ'.1 21 0 19 = bI (o || mulO a b) ∧ f19 σ σ' ∧ jm_ag C21 σ σ' := by
  rw [gM_product_0, gM_product_36, gM_product_41, gM_product_41]
  simp only [jm_lg_eq]
  have no : mulO a b = false → ∃ σ', (some (some (jm_L (a * b)), σ) : Option jm_Rs) = some (some (jm_L (a * b)), σ') ∧ σ'.1 21 0 19 = bI (o || mulO a b) ∧ f19 σ σ' ∧ jm_ag C21 σ σ' := fun h => ⟨σ, rfl, by rw [h, Bool.or_false]; exact ho, f19.rf, jm_ag.rf⟩
  have yes : mulO a b = true → ∃ σ', (some (some (jm_L (a * b)), jm_wi σ 21 0 19 1) : Option jm_Rs) = some (some (jm_L (a * b)), σ') ∧ σ'.1 21 0 19 = bI (o || mulO a b) ∧ f19 σ σ' ∧ jm_ag C21 σ σ' := fun h => ⟨_, rfl, by rw [h, Bool.or_true]; rfl, f19.w, jm_ag.wi rfl⟩
  by_cases h0 : a = 0
  · rw [jm_ct h0]
    exact no (by subst h0; rfl)
  · rw [jm_cf h0, jm_ct h0]
    by_cases h1 : a = -1
    · have hm : (a * b) / a = b := by subst h1; exact m1d b
      rw [jm_cf (fun h9 => h9 hm), jm_cf (fun h9 => h9 h1)]
      by_cases h2 : b = -9223372036854775808
      · rw [jm_cf (fun h9 => h9 h2)]
        exact yes (by simp [mulO, h1, h2])
      · rw [jm_ct h2]
        exact no (by simp [mulO, h1, h2])
    · rw [jm_ct h1]
      by_cases h2 : (a * b) / a = b
      · rw [jm_cf (fun h9 => h9 h2)]
        exact no (by simp [mulO, h1, h0, h2])
      · rw [jm_ct h2]
        exact yes (by simp [mulO, h1, h0, h2])
theorem r_difference (e : Nat) (σ : jm_S) (a b : Int64) {o : Bool} (ho : σ.1 21 0 19 = bI o) : ∃ σ', jm_call (e + 1) jM_difference [jm_R 21 0, jm_L a, jm_L b] σ = some (some (jm_L (a - b)), σ') ∧ σ'.1 21 0 19 = bI (o || subO a b) ∧ f19 σ σ' ∧ jm_ag C21 σ σ' := by
  rw [gM_difference_0, gM_difference_23, gM_difference_23]
  by_cases h : (a ^^^ b) &&& (a ^^^ (a - b)) < 0
  · rw [jm_cf (fun h9 => jm_lg_ge.mp h9 h)]
    exact ⟨_, rfl, by rw [show subO a b = true by simp [subO, h], Bool.or_true]; rfl, f19.w, jm_ag.wi rfl⟩
  · rw [jm_ct (jm_lg_ge.mpr h)]
    exact ⟨σ, rfl, by rw [show subO a b = false by simp [subO, h], Bool.or_false]; exact ho, f19.rf, jm_ag.rf⟩
abbrev C28 : Nat → Nat → Bool := fun k _ => k == 21 || k == 28
theorem C21_28 {σ σ' : jm_S} (h : jm_ag C21 σ σ') : jm_ag C28 σ σ' := h.mo (fun k r h9 => by simp [C28] at h9; simp [C21, h9.1])
/-- kinds as told -/
def okK (S : sS) : Prop := S.1 ≤ 6 ∧ ∀ d, d < S.1 → (S.2.2 3 d).toInt ≤ 5
theorem r_reckL (e : Nat) (q : Nat) {S : sS} (hK : okK S) (last : Nat) (hln : last ≤ S.1) (m : Int32) : ∀ (k i : Nat) (o5 o7 o9 o11 : Option jm_V) (σ : jm_S), rS (σ.1 25 q) S → σ.1 21 0 19 = bI (oU (dgS (sw S) (ss S) (st S) m.toInt64) (ss S) (i - 1)) → (oU (dgS (sw S) (ss S) (st S) m.toInt64) (ss S) (i - 1) = false → ∀ j, j < i → σ.2 28 0 j = dt (dgS (sw S) (ss S) (st S) m.toInt64) (ss S) j) → 1 ≤ i → i + k = last + 1 →
    ∃ σ', jm_ev (e + 3) (jM_reckon, 15, [some (jm_R 21 0), some (jm_R 25 q), some (jm_I (nI last)), some (jm_I m), some (jm_I (nI i)), o5, none, o7, none, o9, none, o11, none], [], σ) = some (none, σ') ∧ σ'.1 21 0 19 = bI (oU (dgS (sw S) (ss S) (st S) m.toInt64) (ss S) last) ∧ f19 σ σ' ∧ jm_ag C28 σ σ' ∧ (oU (dgS (sw S) (ss S) (st S) m.toInt64) (ss S) last = false → ∀ j, j ≤ last → σ'.2 28 0 j = dt (dgS (sw S) (ss S) (st S) m.toInt64) (ss S) j)
  | 0, i, o5, o7, o9, o11, σ, hS, h19, hdt, hi1, hik => by
    have hi : i = last + 1 := by omega
    subst hi
    rw [gM_reckon_15, jm_ct (nI_lt (Nat.lt_succ_self last) (by have := hK.1; omega)), gM_reckon_154]
    exact ⟨σ, rfl, h19, f19.rf, jm_ag.rf, fun h j hj => hdt h j (by omega)⟩
  | k + 1, i, o5, o7, o9, o11, σ, hS, h19, hdt, hi1, hik => by
    have h6 := hK.1
    generalize hD : dgS (sw S) (ss S) (st S) m.toInt64 = D at h19 hdt ⊢
    rw [gM_reckon_15, jm_cf (nI_nlt (show i ≤ last by omega) (by omega))]
    cases hoU : oU D (ss S) (i - 1) with
    | true =>
      rw [h19, hoU, jm_ct (show ¬ bI true = 0 by decide), gM_reckon_154]
      have ht : ∀ k, i - 1 ≤ k → oU D (ss S) k = true := by
        intro k hk
        induction hk with
        | refl => exact hoU
        | step _ ih => simp [oU, ih]
      exact ⟨σ, rfl, by rw [h19, hoU, ht last (by omega)], f19.rf, jm_ag.rf, fun h9 => by rw [ht last (by omega)] at h9; cases h9⟩
    | false =>
      have hdt := hdt hoU
      rw [hoU] at h19
      have hin7 : jm_in3 (nI i) 7 = true := jm_in_nI (by omega) (by decide)
      have hcl : (nI i).toNatClampNeg = i := jm_cl (by omega)
      have key : ∀ (σ2 : jm_S) (l5 l7 : Int64) (o9 o11 : Option jm_V), σ2.1 21 0 19 = bI (ov D (ss S) i) → f19 σ σ2 → jm_ag C21 σ σ2 → l7 = dt D (ss S) i →
          ∃ σ', jm_ev (e + 3) (jM_reckon, 139, [some (jm_R 21 0), some (jm_R 25 q), some (jm_I (nI last)), some (jm_I m), some (jm_I (nI i)), some (jm_L l5), none, some (jm_L l7), none, o9, none, o11, none], [], σ2) = some (none, σ') ∧ σ'.1 21 0 19 = bI (oU D (ss S) last) ∧ f19 σ σ' ∧ jm_ag C28 σ σ' ∧ (oU D (ss S) last = false → ∀ j, j ≤ last → σ'.2 28 0 j = dt D (ss S) j) := by
        intro σ2 l5 l7 o9 o11 ho2 hf2 ha2 hv
        rw [gM_reckon_139, hin7, cond_true, hcl, nI_1, hv]
        have hoi : oU D (ss S) (i + 1 - 1) = ov D (ss S) i := by
          rw [show i + 1 - 1 = (i - 1) + 1 by omega]
          show (oU D (ss S) (i - 1) || ov D (ss S) (i - 1 + 1)) = _
          rw [hoU, show i - 1 + 1 = i by omega, Bool.false_or]
        have ih := r_reckL e q hK last hln m k (i + 1) (some (jm_L l5)) (some (jm_L (dt D (ss S) i))) o9 o11 (jm_wj σ2 28 0 i (dt D (ss S) i)) (by show rS (σ2.1 25 q) S; rw [(ha2 25 q rfl).1]; exact hS) (by rw [hD, hoi]; exact ho2) (by
          rw [hD]
          intro _ j hj
          rw [jm_wj2, if_pos ⟨rfl, rfl⟩]
          unfold vp_updL
          by_cases hji : j = i
          · rw [if_pos hji, hji]
          · rw [if_neg hji, (ha2 28 0 rfl).2]
            exact hdt j (by omega)) (by omega) (by omega)
        rw [hD] at ih
        obtain ⟨σ', e1, e2, e3, e4, e5⟩ := ih
        exact ⟨σ', e1, e2, hf2.tr e3, ((C21_28 ha2).tr (jm_ag.wj rfl)).tr e4, e5⟩
      rw [h19, jm_cf (fun h9 => h9 rfl), nS1 hi1, r_spring e σ q (i - 1) hS h6 (by omega), Option.bind_some, jm_ps, gM_reckon_36]
      have hsp2 : ∃ z, jm_call (e + 3) jM_spring [jm_R 25 q, jm_I (nI i - 2)] σ = some (some (jm_I z), σ) ∧ z.toInt64 = (if i - 1 = 0 then 0 else ss S (i - 1 - 1)) := by
        by_cases h1 : i = 1
        · subst h1
          refine ⟨0, ?_, rfl⟩
          rw [gM_spring_0, jm_ct (show nI 1 - 2 < 0 by decide), gM_spring_13]
        · refine ⟨sprS S (i - 2), ?_, ?_⟩
          · rw [nS2 (by omega), r_spring e σ q (i - 2) hS h6 (by omega)]
          · rw [if_neg (by omega)]
            rfl
      obtain ⟨z, hz1, hz2⟩ := hsp2
      have hdv : (ss S (i - 1) + (if i - 1 = 0 then 0 else ss S (i - 1 - 1)) + st S (i - 1)) - m.toInt64 * sw S (i - 1) = D (i - 1) := by rw [← hD]; rfl
      rw [hz1, Option.bind_some, jm_ps, gM_reckon_45, nS1 hi1, r_tie e σ q (i - 1) hS h6 (by omega) (hK.2 _ (by omega)), Option.bind_some, jm_ps, gM_reckon_55, nS1 hi1, r_weight e σ q (i - 1) hS h6 (by omega), Option.bind_some, jm_ps, gM_reckon_67, nS1 hi1, jm_in_nI (show i - 1 < 7 by omega) (by decide), cond_true, jm_cl (show i - 1 < 2 ^ 31 by omega), hz2, hdt (i - 1) (by omega),
        show (sprS S (i - 1)).toInt64 = ss S (i - 1) from rfl, show (tieS S (i - 1)).toInt64 = st S (i - 1) from rfl, show (weiS S (i - 1)).toInt64 = sw S (i - 1) from rfl, hdv]
      obtain ⟨σ1, hc1, ho1, hf1, ha1⟩ := r_product (e + 2) σ (D (i - 1)) (dt D (ss S) (i - 1)) (o := false) h19
      have hS1 : rS (σ1.1 25 q) S := by rw [(ha1 25 q rfl).1]; exact hS
      rw [hc1, Option.bind_some, jm_ps, gM_reckon_87]
      by_cases h1 : i = 1
      · subst h1
        rw [jm_ct (show nI 1 ≤ 1 by decide)]
        exact key σ1 _ _ _ _ (by rw [ho1]; rfl) hf1 ha1 rfl
      · obtain ⟨j, rfl⟩ : ∃ j, i = j + 2 := ⟨i - 2, by omega⟩
        rw [jm_cf (show ¬ nI (j + 2) ≤ 1 from nI_ge (a := 1) (by omega) (by omega)), nS2 (by omega), show j + 2 - 2 = j by omega, r_spring e σ1 q j hS1 h6 (by omega), Option.bind_some, jm_ps, gM_reckon_103, show (sprS S j).toInt64 = ss S j from rfl]
        obtain ⟨σ2, hc2, ho2, hf2, ha2⟩ := r_product (e + 2) σ1 (ss S j) (ss S j) ho1
        rw [hc2, Option.bind_some, jm_ps, gM_reckon_114, nS2 (by omega), show j + 2 - 2 = j by omega, jm_in_nI (show j < 7 by omega) (by decide), cond_true, jm_cl (show j < 2 ^ 31 by omega), (ha2 28 0 rfl).2, (ha1 28 0 rfl).2, hdt j (by omega)]
        obtain ⟨σ3, hc3, ho3, hf3, ha3⟩ := r_product (e + 2) σ2 (ss S j * ss S j) (dt D (ss S) j) ho2
        rw [hc3, Option.bind_some, jm_ps, gM_reckon_134]
        obtain ⟨σ4, hc4, ho4, hf4, ha4⟩ := r_difference (e + 2) σ3 (D (j + 2 - 1) * dt D (ss S) (j + 2 - 1)) (ss S j * ss S j * dt D (ss S) j) ho3
        rw [hc4, Option.bind_some, jm_ps, gM_reckon_137]
        refine key σ4 _ _ _ _ ?_ (((hf1.tr hf2).tr hf3).tr hf4) (((ha1.tr ha2).tr ha3).tr ha4) rfl
        rw [ho4]
        show bI (false || mulO (D (j + 1)) (dt D (ss S) (j + 1)) || mulO (ss S j) (ss S j) || mulO (ss S j * ss S j) (dt D (ss S) j) || _) = bI (ov D (ss S) (j + 2))
        simp [ov]
theorem r_reckon (e : Nat) (σ : jm_S) (q : Nat) {S : sS} (hK : okK S) (hS : rS (σ.1 25 q) S) {last : Nat} (hln : last ≤ S.1) (m : Int32) :
    ∃ σ', jm_call (e + 4) jM_reckon [jm_R 21 0, jm_R 25 q, jm_I (nI last), jm_I m] σ = some (none, σ') ∧ σ'.1 21 0 19 = bI (oU (dgS (sw S) (ss S) (st S) m.toInt64) (ss S) last) ∧ f19 σ σ' ∧ jm_ag C28 σ σ' ∧ (oU (dgS (sw S) (ss S) (st S) m.toInt64) (ss S) last = false → ∀ j, j ≤ last → σ'.2 28 0 j = dt (dgS (sw S) (ss S) (st S) m.toInt64) (ss S) j) := by
  rw [gM_reckon_0]
  obtain ⟨σ', e1, e2, e3, e4, e5⟩ := r_reckL e q hK last hln m last 1 none none none none (jm_wj (jm_wi σ 21 0 19 0) 28 0 0 1) hS rfl (fun _ j hj => by
    have : j = 0 := by omega
    subst this
    rfl) (by omega) (by omega)
  exact ⟨σ', e1, e2, (f19.w (σ := σ) (x := 0)).tr e3, ((jm_ag.wi rfl).tr (jm_ag.wj rfl)).tr e4, e5⟩
end
section
-- MATHS: below and boxes of the reference; all boxes of both
def BS (S : sS) (m : Int32) : Option Nat := blS S.1 (sw S) (ss S) (st S) m
theorem r_belowL (e : Nat) (σ : jm_S) (q : Nat) {n : Nat} {f : Nat → Int64} (h6 : n ≤ 6) (m : Int32) (h5 : σ.1 25 q 0 = nI n) (h19 : σ.1 21 0 19 = 0) (hf : ∀ j, j ≤ n → σ.2 28 0 j = f j) : ∀ (k i : Nat) (o6 : Option jm_V), i + k = n → jm_ev e (jM_belowOf, 17, [some (jm_R 21 0), some (jm_R 25 q), some (jm_I m), some (jm_I (nI (sg f i).1)), some (jm_I (bI (sg f i).2)), some (jm_I (nI (i + 1))), o6], [], σ) = some (some (jm_I (nI (sg f n).1)), σ)
  | 0, i, o6, h => by
    have hi : i = n := by omega
    subst hi
    rw [gM_belowOf_17, h5, jm_ct (nI_lt (Nat.lt_succ_self i) (by omega)), gM_belowOf_93]
  | k + 1, i, o6, h => by
    have ih := fun o6 => r_belowL e σ q h6 m h5 h19 hf k (i + 1) o6 (by omega)
    rw [gM_belowOf_17, h5, jm_cf (nI_nlt (show i + 1 ≤ n by omega) (by omega)), h19, jm_cf (fun h9 => h9 rfl), jm_in_nI (show i + 1 < 7 by omega) (by decide), cond_true, cond_true, jm_cl (by omega), hf (i + 1) (by omega)]
    have fin : ∀ b : Bool, b = (sg f (i + 1)).2 → jm_ev e (jM_belowOf, 66, [some (jm_R 21 0), some (jm_R 25 q), some (jm_I m), some (jm_I (nI (sg f i).1)), some (jm_I (bI (sg f i).2)), some (jm_I (nI (i + 1))), o6], [jm_I (bI b)], σ) = some (some (jm_I (nI (sg f n).1)), σ) := by
      intro b hb
      have h2 : (sg f (i + 1)).1 = if b = (sg f i).2 then (sg f i).1 else (sg f i).1 + 1 := by rw [hb]; rfl
      rw [gM_belowOf_66]
      by_cases hbb : b = (sg f i).2
      · rw [jm_ct (by rw [hbb]), gM_belowOf_81, nI_1, show (0 : Int32) = nI 0 from rfl, nI_add]
        have := ih (some (jm_I (bI b)))
        rw [h2, if_pos hbb, ← hb] at this
        exact this
      · have hne : ¬ bI b = bI (sg f i).2 := by
          intro h9
          apply hbb
          revert h9
          generalize (sg f i).2 = c
          cases b <;> cases c <;> decide
        rw [jm_cf hne, gM_belowOf_81, nI_1, nI_1]
        have := ih (some (jm_I (bI b)))
        rw [h2, if_neg hbb, ← hb] at this
        exact this
    simp only [jm_lg_eq]
    by_cases h0 : f (i + 1) = 0
    · rw [jm_cf (fun h9 => h9 h0)]
      exact fin (sg f i).2 (by simp [sg, h0])
    · rw [jm_ct h0]
      by_cases hn : f (i + 1) < 0
      · rw [jm_cf (fun h9 => jm_lg_ge.mp h9 hn)]
        exact fin true (by simp [sg, h0, hn])
      · rw [jm_ct (jm_lg_ge.mpr hn)]
        exact fin false (by simp [sg, h0, hn])
theorem r_belowOf (e : Nat) (σ : jm_S) (q : Nat) {S : sS} (hK : okK S) (hS : rS (σ.1 25 q) S) (m : Int32) : ∃ σ', jm_call (e + 5) jM_belowOf [jm_R 21 0, jm_R 25 q, jm_I m] σ = some (some (jm_I (nI ((BS S m).getD 0))), σ') ∧ σ'.1 21 0 19 = bI (BS S m).isNone ∧ f19 σ σ' ∧ jm_ag C28 σ σ' := by
  obtain ⟨σ1, e1, e2, e3, e4, e5⟩ := r_reckon e σ q hK hS (Nat.le_refl S.1) m
  have h6 := hK.1
  have hS1 : σ1.1 25 q 0 = nI S.1 := by rw [(e4 25 q rfl).1]; exact hS.1
  rw [gM_belowOf_0, hS.1, e1, Option.bind_some, jm_pn, gM_belowOf_9]
  cases ho : oU (dgS (sw S) (ss S) (st S) m.toInt64) (ss S) S.1 with
  | true =>
    refine ⟨σ1, ?_, by rw [e2, ho]; simp [BS, blS, ho], e3, e4⟩
    rw [gM_belowOf_17, e2, ho, gM_belowOf_93, jm_ct (show ¬ bI true = 0 by decide)]
    simp [BS, blS, ho, show nI 0 = 0 from rfl]
  | false =>
    refine ⟨σ1, ?_, by rw [e2, ho]; simp [BS, blS, ho], e3, e4⟩
    have := r_belowL (e + 4) σ1 q h6 m hS1 (by rw [e2, ho]; rfl) (e5 ho) S.1 0 none (by omega)
    rw [show BS S m = some (sg (dt (dgS (sw S) (ss S) (st S) m.toInt64) (ss S)) S.1).1 by simp [BS, blS, ho]]
    exact this
/-- what the reference lays for a box: NONE too where it is beyond -/
def xN (o : Option (Option Nat)) : Int32 := match o with
  | some (some l) => nI l
  | _ => -1000000
theorem BS_le {S : sS} {m : Int32} {c : Nat} (h : BS S m = some c) : c ≤ S.1 := blS_le h
theorem r_boxL (e : Nat) (q : Nat) {S : sS} (hK : okK S) (k : Nat) (hk : k < 100) (x3 : Int32) : ∀ (f lo hi : Nat) (o6 o7 : Option jm_V) (σ : jm_S), rS (σ.1 25 q) S → hi - lo ≤ f → lo ≤ hi → hi ≤ 200 → σ.1 21 0 19 = 0 → ∃ σ', jm_ev (e + 5) (jM_boxOf, 32, [some (jm_R 21 0), some (jm_R 25 q), some (jm_I (nI k)), some (jm_I x3), some (jm_I (nI lo)), some (jm_I (nI hi)), o6, o7], [], σ) = some (some (jm_I (xN ((bis (BS S) k f lo hi).map some))), σ') ∧ σ'.1 21 0 19 = bI (bis (BS S) k f lo hi).isNone ∧ f19 σ σ' ∧ jm_ag C28 σ σ' := by
  intro f
  induction f with
  | zero =>
    intro lo hi o6 o7 σ hS hf hlh hh h19
    have hlo : hi = lo := by omega
    subst hlo
    rw [gM_boxOf_32, pk_sub (Nat.le_refl _), Nat.sub_self, jm_ct (show nI 0 ≤ 1 by decide)]
    exact ⟨σ, rfl, h19, f19.rf, jm_ag.rf⟩
  | succ f ih =>
    intro lo hi o6 o7 σ hS hf hlh hh h19
    have h6 := hK.1
    rw [gM_boxOf_32, pk_sub hlh]
    by_cases h1 : hi ≤ lo + 1
    · rw [jm_ct (show nI (hi - lo) ≤ 1 from nI_le (b := 1) (by omega) (by omega))]
      refine ⟨σ, ?_, ?_, f19.rf, jm_ag.rf⟩
      · simp [bis, h1, xN]
      · simp [bis, h1, h19, bI]
    · have hdiv : (nI lo + nI hi) / 2 = nI ((lo + hi) / 2) := by
        rw [nI_add]
        exact pk_div (d := 2) (by omega) (by omega) (by omega)
      obtain ⟨σ1, hc, ho1, hf1, ha1⟩ := r_belowOf e σ q hK hS (nI ((lo + hi) / 2))
      rw [jm_cf (show ¬ nI (hi - lo) ≤ 1 from nI_ge (a := 1) (by omega) (by omega)), hdiv, hc, Option.bind_some, jm_ps, gM_boxOf_57, ho1]
      have hS1 : rS (σ1.1 25 q) S := by rw [(ha1 25 q rfl).1]; exact hS
      cases hb : BS S (nI ((lo + hi) / 2)) with
      | none =>
        rw [jm_cf (show ¬ bI (none : Option Nat).isNone = 0 by decide)]
        refine ⟨σ1, ?_, ?_, hf1, ha1⟩
        · simp [bis, h1, hb, xN]
        · rw [ho1, hb]; simp [bis, h1, hb]
      | some c =>
        have hc6 := BS_le hb
        rw [jm_ct (show bI (some c).isNone = 0 from rfl)]
        by_cases hck : c ≤ k
        · rw [jm_cf (show ¬ nI k < nI ((some c).getD 0) from nI_nlt hck (by omega)), gM_boxOf_86]
          obtain ⟨σ2, e1, e2, e3, e4⟩ := ih ((lo + hi) / 2) hi _ _ σ1 hS1 (by omega) (by omega) hh (by rw [ho1, hb]; rfl)
          refine ⟨σ2, ?_, ?_, hf1.tr e3, ha1.tr e4⟩
          · rw [e1]; simp [bis, h1, hb, hck]
          · rw [e2]; simp [bis, h1, hb, hck]
        · rw [jm_ct (show nI k < nI ((some c).getD 0) from nI_lt (Nat.lt_of_not_le hck) (by show c < 2 ^ 31; omega)), gM_boxOf_86]
          obtain ⟨σ2, e1, e2, e3, e4⟩ := ih lo ((lo + hi) / 2) _ _ σ1 hS1 (by omega) (by omega) (by omega) (by rw [ho1, hb]; rfl)
          refine ⟨σ2, ?_, ?_, hf1.tr e3, ha1.tr e4⟩
          · rw [e1]; simp [bis, h1, hb, hck]
          · rw [e2]; simp [bis, h1, hb, hck]
theorem r_boxOf (e : Nat) (σ : jm_S) (q : Nat) {S : sS} (hK : okK S) (hS : rS (σ.1 25 q) S) {k : Nat} (hk : k < 100) : ∃ σ', jm_call (e + 6) jM_boxOf [jm_R 21 0, jm_R 25 q, jm_I (nI k)] σ = some (some (jm_I (xN (boxS (BS S) k))), σ') ∧ σ'.1 21 0 19 = bI (boxS (BS S) k).isNone ∧ f19 σ σ' ∧ jm_ag C28 σ σ' := by
  obtain ⟨σ1, hc, ho1, hf1, ha1⟩ := r_belowOf e σ q hK hS 200
  have h6 := hK.1
  have hS1 : rS (σ1.1 25 q) S := by rw [(ha1 25 q rfl).1]; exact hS
  rw [gM_boxOf_0, hc, Option.bind_some, jm_ps, gM_boxOf_8, ho1]
  cases hb : BS S 200 with
  | none =>
    rw [jm_ct (show ¬ bI (none : Option Nat).isNone = 0 by decide), gM_boxOf_21]
    refine ⟨σ1, ?_, ?_, hf1, ha1⟩
    · simp [boxS, hb, xN]
    · rw [ho1, hb]; simp [boxS, hb]
  | some c =>
    have hc6 := BS_le hb
    rw [jm_cf (fun h9 => h9 (show bI (some c).isNone = 0 from rfl))]
    by_cases hck : c ≤ k
    · rw [jm_cf (show ¬ nI k < nI ((some c).getD 0) from nI_nlt hck (by omega)), gM_boxOf_21]
      refine ⟨σ1, ?_, ?_, hf1, ha1⟩
      · simp [boxS, hb, hck, xN]
      · rw [ho1, hb]; simp [boxS, hb, hck]
    · rw [jm_ct (show nI k < nI ((some c).getD 0) from nI_lt (Nat.lt_of_not_le hck) (by show c < 2 ^ 31; omega))]
      obtain ⟨σ2, e1, e2, e3, e4⟩ := r_boxL e q hK k hk (nI ((some c).getD 0)) 200 0 200 none none σ1 hS1 (by omega) (by omega) (by omega) (by rw [ho1, hb]; rfl)
      have hbx : boxS (BS S) k = (bis (BS S) k 200 0 200).map some := by simp [boxS, hb, hck]
      refine ⟨σ2, ?_, ?_, hf1.tr e3, ha1.tr e4⟩
      · rw [hbx]; exact e1
      · rw [e2, hbx]; simp
-- all boxes
def aO (B : Int32 → Option Nat) : Nat → Bool
  | 0 => false
  | k + 1 => aO B k || (boxS B k).isNone
theorem aO_at {B : Int32 → Option Nat} : ∀ {n : Nat}, aO B n = false → ∀ k, k < n → (boxS B k).isNone = false
  | 0, _, k, hk => absurd hk (Nat.not_lt_zero k)
  | n + 1, h, k, hk => by
    simp only [aO, Bool.or_eq_false_iff] at h
    by_cases hkn : k = n
    · rw [hkn]; exact h.2
    · exact aO_at h.1 k (by omega)
theorem aO_le {B : Int32 → Option Nat} {k : Nat} (h : aO B k = true) : ∀ {n : Nat}, k ≤ n → aO B n = true
  | 0, hk => by
    have : k = 0 := by omega
    subst this
    exact h
  | n + 1, hk => by
    by_cases hkn : k = n + 1
    · rw [← hkn]; exact h
    · simp [aO, aO_le h (show k ≤ n by omega)]
abbrev C29 : Nat → Nat → Bool := fun k _ => k == 21 || k == 28 || k == 29
theorem C28_29 {σ σ' : jm_S} (h : jm_ag C28 σ σ') : jm_ag C29 σ σ' := h.mo (fun k r h9 => by simp [C29] at h9; simp [C28, h9.1])
theorem r_layL (e : Nat) (q : Nat) {S : sS} (hK : okK S) (n : Nat) (hn : n ≤ 6) : ∀ (f k : Nat) (σ : jm_S), k + f = n → rS (σ.1 25 q) S → σ.1 21 0 19 = bI (aO (BS S) k) → (aO (BS S) k = false → ∀ j, j < k → σ.1 29 0 j = xN (boxS (BS S) j)) → ∃ σ', jm_ev (e + 6) (jM_layBoxes, 7, [some (jm_R 21 0), some (jm_R 25 q), some (jm_I (nI n)), some (jm_I (nI k))], [], σ) = some (none, σ') ∧ σ'.1 21 0 19 = bI (aO (BS S) n) ∧ f19 σ σ' ∧ jm_ag C29 σ σ' ∧ (aO (BS S) n = false → ∀ j, j < n → σ'.1 29 0 j = xN (boxS (BS S) j))
  | 0, k, σ, hk, hS, h19, hb => by
    have : k = n := by omega
    subst this
    rw [gM_layBoxes_7, jm_ct (nI_le (Nat.le_refl _) (by omega)), gM_layBoxes_37]
    exact ⟨σ, rfl, h19, f19.rf, jm_ag.rf, hb⟩
  | f + 1, k, σ, hk, hS, h19, hb => by
    rw [gM_layBoxes_7, jm_cf (nI_ge (show k < n by omega) (by omega))]
    cases ho : aO (BS S) k with
    | true =>
      rw [h19, ho, jm_ct (show ¬ bI true = 0 by decide), gM_layBoxes_37]
      have ht := aO_le ho (show k ≤ n by omega)
      exact ⟨σ, rfl, by rw [h19, ho, ht], f19.rf, jm_ag.rf, fun h9 => by rw [ht] at h9; cases h9⟩
    | false =>
      obtain ⟨σ1, hc, ho1, hf1, ha1⟩ := r_boxOf e σ q hK hS (show k < 100 by omega)
      rw [h19, ho, jm_cf (fun h9 => h9 rfl), hc, Option.bind_some, jm_ps, gM_layBoxes_30, jm_in_nI (show k < 6 by omega) (by decide), cond_true, jm_cl (by omega), nI_1]
      obtain ⟨σ2, e1, e2, e3, e4, e5⟩ := r_layL e q hK n hn f (k + 1) (jm_wi σ1 29 0 k (xN (boxS (BS S) k))) (by omega) (by show rS (σ1.1 25 q) S; rw [(ha1 25 q rfl).1]; exact hS) (by
        show σ1.1 21 0 19 = _
        rw [ho1]
        simp [aO, ho]) (by
        intro h9 j hj
        rw [jm_wi1, if_pos ⟨rfl, rfl⟩]
        unfold upd
        by_cases hjk : j = k
        · rw [if_pos hjk, hjk]
        · rw [if_neg hjk, (ha1 29 0 rfl).1]
          exact hb ho j (by omega))
      exact ⟨σ2, e1, e2, (hf1.tr (fun j hj => rfl)).tr e3, ((C28_29 ha1).tr (jm_ag.wi rfl)).tr e4, e5⟩
theorem r_layBoxes (e : Nat) (σ : jm_S) (q : Nat) {S : sS} (hK : okK S) (hS : rS (σ.1 25 q) S) {n : Nat} (hn : n ≤ 6) : ∃ σ', jm_call (e + 7) jM_layBoxes [jm_R 21 0, jm_R 25 q, jm_I (nI n)] σ = some (none, σ') ∧ σ'.1 21 0 19 = bI (aO (BS S) n) ∧ f19 σ σ' ∧ jm_ag C29 σ σ' ∧ (aO (BS S) n = false → ∀ j, j < n → σ'.1 29 0 j = xN (boxS (BS S) j)) := by
  rw [gM_layBoxes_0]
  obtain ⟨σ', e1, e2, e3, e4, e5⟩ := r_layL e q hK n hn n 0 (jm_wi σ 21 0 19 0) (by omega) hS rfl (fun _ j hj => absurd hj (Nat.not_lt_zero j))
  exact ⟨σ', e1, e2, (f19.w (σ := σ) (x := 0)).tr e3, (jm_ag.wi rfl).tr e4, e5⟩
abbrev C19 : Nat → Nat → Bool := fun k _ => k == 14 || k == 18 || k == 19
theorem C18_19 {σ σ' : jm_S} (h : jm_ag C18 σ σ') : jm_ag C19 σ σ' := h.mo (fun k r h9 => by simp [C19] at h9; simp [C18, h9.1])
theorem xR_ov {o : Option (Option Nat)} (h : ∀ l, o = some (some l) → l < 2 ^ 31) : xR o = -1000016 ↔ o.isNone = true := by
  match o with
  | none => exact ⟨fun _ => rfl, fun _ => rfl⟩
  | some none => exact ⟨fun h9 => absurd h9 (by decide), fun h9 => by cases h9⟩
  | some (some l) =>
    constructor
    · intro h9
      have h1 := nI_nneg (h l rfl)
      have h2 : (nI l).toInt = -1000016 := by rw [show nI l = -1000016 from h9]; rfl
      omega
    · intro h9; cases h9
theorem bis_le {B : Int32 → Option Nat} {k : Nat} : ∀ {f lo hi l : Nat}, lo ≤ hi → bis B k f lo hi = some l → lo ≤ l ∧ l ≤ hi
  | 0, lo, hi, l, h, e => by cases e; exact ⟨Nat.le_refl _, h⟩
  | f + 1, lo, hi, l, h, e => by
    unfold bis at e
    split at e
    · cases e; exact ⟨Nat.le_refl _, h⟩
    · split at e
      · cases e
      · split at e
        · obtain ⟨a, b⟩ := bis_le (by omega) e
          exact ⟨by omega, b⟩
        · obtain ⟨a, b⟩ := bis_le (by omega) e
          exact ⟨a, by omega⟩
theorem boxS_le {B : Int32 → Option Nat} {k l : Nat} (h : boxS B k = some (some l)) : l ≤ 200 := by
  unfold boxS at h
  split at h
  · cases h
  · split at h
    · cases h
    · obtain ⟨l', h1, h2⟩ := Option.map_eq_some_iff.mp h
      cases h2
      exact (bis_le (by omega) h1).2
theorem c_layL (e : Nat) {n : Nat} {w s t : Nat → Int64} (h6 : n ≤ 6) : ∀ (f k : Nat) (σ : jm_S), k + f = n → sP σ n w s t → aO (blS n w s t) k = false → (∀ j, j < k → σ.1 19 0 j = xR (boxS (blS n w s t) j)) → ∃ σ', jm_ev (e + 4) (jP_boxesAll, 2, [some (jm_R 14 0), some (jm_I (nI k))], [], σ) = some (some (jm_I (bI (!aO (blS n w s t) n))), σ') ∧ sP σ' n w s t ∧ jm_ag C19 σ σ' ∧ (aO (blS n w s t) n = false → ∀ j, j < n → σ'.1 19 0 j = xR (boxS (blS n w s t) j))
  | 0, k, σ, hk, hP, ho, hb => by
    have : k = n := by omega
    subst this
    rw [gP_boxesAll_2, hP.1, jm_ct (nI_le (Nat.le_refl _) (by omega))]
    exact ⟨σ, by rw [ho]; rfl, hP, jm_ag.rf, fun _ => hb⟩
  | f + 1, k, σ, hk, hP, ho, hb => by
    obtain ⟨σ1, hc, hP1, ha1⟩ := c_boxOf e σ h6 hP (show k < 100 by omega)
    have hin := jm_in_nI (show k < 6 by omega) (by decide)
    have hcl := jm_cl (show k < 2 ^ 31 by omega)
    have hrd : (jm_wi σ1 19 0 k (xR (boxS (blS n w s t) k))).1 19 0 k = xR (boxS (blS n w s t) k) := by simp [jm_wi1, upd]
    rw [gP_boxesAll_2, hP.1, jm_cf (nI_ge (show k < n by omega) (by omega)), hc, Option.bind_some, jm_ps, gP_boxesAll_20, hin, cond_true, cond_true, hcl, hrd, nI_1]
    have hP2 : sP (jm_wi σ1 19 0 k (xR (boxS (blS n w s t) k))) n w s t := hP1
    have ha2 : jm_ag C19 σ (jm_wi σ1 19 0 k (xR (boxS (blS n w s t) k))) := (C18_19 ha1).tr (jm_ag.wi rfl)
    have hov := xR_ov (o := boxS (blS n w s t) k) (fun l h9 => by have := boxS_le h9; omega)
    cases hn : (boxS (blS n w s t) k).isNone with
    | true =>
      rw [jm_cf (fun h9 => h9 (hov.mpr hn))]
      have ht : aO (blS n w s t) n = true := aO_le (k := k + 1) (by simp [aO, hn]) (by omega)
      exact ⟨_, by rw [ht]; rfl, hP2, ha2, fun h9 => by rw [ht] at h9; cases h9⟩
    | false =>
      have hno : ¬ xR (boxS (blS n w s t) k) = -1000016 := fun h9 => by have := hov.mp h9; rw [hn] at this; cases this
      rw [jm_ct hno]
      obtain ⟨σ2, e1, e2, e3, e4⟩ := c_layL e h6 f (k + 1) _ (by omega) hP2 (by simp [aO, ho, hn]) (by
        intro j hj
        rw [jm_wi1, if_pos ⟨rfl, rfl⟩]
        unfold upd
        by_cases hjk : j = k
        · rw [if_pos hjk, hjk]
        · rw [if_neg hjk, (ha1 19 0 rfl).1]
          exact hb j (by omega))
      exact ⟨σ2, e1, e2, ha2.tr e3, e4⟩
theorem c_boxesAll (e : Nat) (σ : jm_S) {n : Nat} {w s t : Nat → Int64} (h6 : n ≤ 6) (hP : sP σ n w s t) : ∃ σ', jm_call (e + 5) jP_boxesAll [jm_R 14 0] σ = some (some (jm_I (bI (!aO (blS n w s t) n))), σ') ∧ sP σ' n w s t ∧ jm_ag C19 σ σ' ∧ (aO (blS n w s t) n = false → ∀ j, j < n → σ'.1 19 0 j = xR (boxS (blS n w s t) j)) := by
  rw [gP_boxesAll_0]
  exact c_layL e h6 n 0 σ (by omega) hP rfl (fun j hj => absurd hj (Nat.not_lt_zero j))
end
section
-- THE RELATION: an abstract state, and how the class and the reference hold it
def okS (S : sS) : Prop := S.1 ≤ 6 ∧ (S.1 = 0 ∨ 2 ≤ S.1) ∧ (0 ≤ S.2.1.toInt ∧ S.2.1.toInt ≤ 200) ∧ ∀ d, d < S.1 → (1 ≤ (S.2.2 0 d).toInt ∧ (S.2.2 0 d).toInt ≤ 5) ∧ (0 ≤ (S.2.2 1 d).toInt ∧ (S.2.2 1 d).toInt ≤ 40) ∧ (0 ≤ (S.2.2 2 d).toInt ∧ (S.2.2 2 d).toInt ≤ 9) ∧ (1 ≤ (S.2.2 3 d).toInt ∧ (S.2.2 3 d).toInt ≤ 5)
theorem okS.K {S : sS} (h : okS S) : okK S := ⟨h.1, fun d hd => (h.2.2.2 d hd).2.2.2.2⟩
/-- S' is S behind an act; (w, o, b): how it is undone -/
def unR (w o b : Int32) (S' S : sS) : Prop := S'.1 = S.1 ∧
  ((w = 4 ∧ b = S.2.1 ∧ ∀ v, v < 4 → ∀ d, d < S.1 → S.2.2 v d = S'.2.2 v d) ∨
   (w = 5 ∧ S'.2.1 = S.2.1 ∧ ∃ i j : Nat, i < S.1 ∧ j < S.1 ∧ i ≠ j ∧ o = nI i ∧ b = nI j ∧ ∀ v, v < 4 → ∀ d, d < S.1 → S.2.2 v d = S'.2.2 v (if d = i then j else if d = j then i else d)) ∨
   (∃ u i : Nat, u < 4 ∧ i < S.1 ∧ w = nI u ∧ o = nI i ∧ S'.2.1 = S.2.1 ∧ b = S.2.2 u i ∧ ∀ v, v < 4 → ∀ d, d < S.1 → ¬ (v = u ∧ d = i) → S.2.2 v d = S'.2.2 v d))
/-- rows; tape; shaft; how many acts, the shafts before them; images; trace; latest fault; finding -/
abbrev aS : Type := ((Nat → Option (Nat × Nat)) × (Nat → Nat → Int32)) × (Nat × (Nat → Int32)) × sS × (Nat × (Nat → sS)) × (Nat → Option sS) × (Nat × (Nat → Int32)) × Int32 × Int32
abbrev aRw (A : aS) := A.1.1
abbrev aIt (A : aS) := A.1.2
abbrev aTp (A : aS) := A.2.1
abbrev aSh (A : aS) := A.2.2.1
abbrev aAc (A : aS) := A.2.2.2.1
abbrev aIm (A : aS) := A.2.2.2.2.1
abbrev aTr (A : aS) := A.2.2.2.2.2.1
abbrev aFt (A : aS) := A.2.2.2.2.2.2.1
abbrev aFd (A : aS) := A.2.2.2.2.2.2.2
def okA (A : aS) : Prop := (∀ r, r < 8 → ∀ q, aRw A r = some q → q.1 ≤ 2 ∧ q.2 ≤ 40) ∧ ((aTp A).1 ≤ 80 ∧ ∀ j, j < (aTp A).1 → 0 ≤ ((aTp A).2 j).toInt ∧ ((aTp A).2 j).toInt ≤ 255) ∧ okS (aSh A) ∧ ((aAc A).1 ≤ 24 ∧ (aAc A).2 (aAc A).1 = aSh A ∧ ∀ i, i < (aAc A).1 → okS ((aAc A).2 i) ∧ ((aAc A).2 i).1 = (aSh A).1) ∧ (∀ k, k < 2 → ∀ T, aIm A k = some T → okS T ∧ 2 ≤ T.1) ∧ (aTr A).1 ≤ 16
def cRw (ln sz : Nat → Int32) (im : Nat → Nat → Int32) (A : aS) : Prop := ∀ r, r < 8 → (match aRw A r with
  | none => sz r = -1
  | some q => sz r = nI q.2 ∧ ln r = nI q.1) ∧ ∀ i, i < 40 → im r i = aIt A r i
def cTp (rd tp : Nat → Int32) (A : aS) : Prop := rd 1 = nI (aTp A).1 ∧ ∀ j, j < (aTp A).1 → tp j = (aTp A).2 j
def cAc (ac w o b : Nat → Int32) (A : aS) : Prop := ac 3 = nI (aAc A).1 ∧ ∀ i, i < (aAc A).1 → unR (w i) (o i) (b i) ((aAc A).2 (i + 1)) ((aAc A).2 i)
def cIm (σ : jm_S) (A : aS) : Prop := ∀ k, k < 2 → match aIm A k with
  | none => σ.1 7 (2 + k) 1 = 0
  | some T => cS σ (2 + k) T
def cTr (sd tr : Nat → Int32) (A : aS) : Prop := sd 11 = nI (aTr A).1 ∧ ∀ j, j < (aTr A).1 → tr j = (aTr A).2 j
def cRel (σ : jm_S) (A : aS) : Prop := cRw (σ.1 1 0) (σ.1 2 0) (σ.1 4) A ∧ cTp (σ.1 5 0) (σ.1 6 0) A ∧ cS σ 0 (aSh A) ∧ cAc (σ.1 10 0) (σ.1 11 0) (σ.1 12 0) (σ.1 13 0) A ∧ cIm σ A ∧ cTr (σ.1 0 0) (σ.1 20 0) A ∧ σ.1 0 0 12 = aFt A ∧ σ.1 0 0 13 = aFd A
def rRw (ln mn im : Nat → Int32) (A : aS) : Prop := ∀ r, r < 8 → (match aRw A r with
  | none => ln r = -1
  | some q => mn r = nI q.2 ∧ ln r = nI q.1) ∧ ∀ i, i < 40 → im (40 * r + i) = aIt A r i
def rTp (rm tp : Nat → Int32) (A : aS) : Prop := rm 11 = nI (aTp A).1 ∧ ∀ j, j < (aTp A).1 → tp j = (aTp A).2 j
def rAc (rm ws : Nat → Int32) (A : aS) : Prop := rm 9 = nI (aAc A).1 ∧ ∀ i, i < (aAc A).1 → rS (fun j => ws (26 * i + j)) ((aAc A).2 i)
def rIm (ik kp : Nat → Int32) (A : aS) : Prop := ∀ k, k < 2 → match aIm A k with
  | none => ik k = 0
  | some T => ik k = 1 ∧ rS (fun j => kp (26 * k + j)) T
def rTr (rm tr : Nat → Int32) (A : aS) : Prop := rm 25 = nI (aTr A).1 ∧ ∀ j, j < (aTr A).1 → tr j = (aTr A).2 j
def rRel (σ : jm_S) (A : aS) : Prop := rRw (σ.1 22 0) (σ.1 23 0) (σ.1 24 0) A ∧ rTp (σ.1 21 0) (σ.1 27 0) A ∧ rS (σ.1 25 0) (aSh A) ∧ rAc (σ.1 21 0) (σ.1 26 0) A ∧ rIm (σ.1 30 0) (σ.1 31 0) A ∧ rTr (σ.1 21 0) (σ.1 32 0) A ∧ σ.1 21 0 18 = aFt A ∧ σ.1 21 0 1 = aFd A
-- frames
abbrev Ccl : Nat → Nat → Bool := fun k _ => Nat.blt k 21
abbrev Crf : Nat → Nat → Bool := fun k _ => Nat.ble 21 k
abbrev Csc : Nat → Nat → Bool := fun k r => k == 14 || k == 15 || k == 16 || k == 17 || k == 18 || k == 19 || (k == 7 && r == 1) || (k == 9 && (Nat.ble 4 r && Nat.blt r 8))
abbrev Crs : Nat → Nat → Bool := fun k r => k == 21 || k == 28 || k == 29 || (k == 25 && (r == 1 || r == 2))
/-- transfer of the class's picture: all its cells unchanged -/
theorem cRel.ag {σ σ' : jm_S} {A : aS} {C : Nat → Nat → Bool} (h : cRel σ A) (ha : jm_ag C σ σ') (c0 : C 0 0 = false) (c1 : C 1 0 = false) (c2 : C 2 0 = false) (c4 : ∀ r, C 4 r = false) (c5 : C 5 0 = false) (c6 : C 6 0 = false) (c70 : C 7 0 = false) (c72 : C 7 2 = false) (c73 : C 7 3 = false) (c9 : ∀ r, r < 4 → C 9 r = false) (c9' : ∀ r, 8 ≤ r → C 9 r = false) (c10 : C 10 0 = false) (c11 : C 11 0 = false) (c12 : C 12 0 = false) (c13 : C 13 0 = false) (c20 : C 20 0 = false) : cRel σ' A := by
  obtain ⟨h1, h2, h3, h4, h5, h6, h7, h8⟩ := h
  have e4 : σ'.1 4 = σ.1 4 := funext fun r => (ha 4 r (c4 r)).1
  refine ⟨?_, ?_, ?_, ?_, ?_, ?_, ?_, ?_⟩
  · rw [(ha 1 0 c1).1, (ha 2 0 c2).1, e4]; exact h1
  · rw [(ha 5 0 c5).1, (ha 6 0 c6).1]; exact h2
  · exact cS_ag h3 ha c70 (fun w hw => c9 _ (by omega))
  · rw [(ha 10 0 c10).1, (ha 11 0 c11).1, (ha 12 0 c12).1, (ha 13 0 c13).1]; exact h4
  · intro k hk
    have h9 := h5 k hk
    have c7k : C 7 (2 + k) = false := by
      rcases (show k = 0 ∨ k = 1 by omega) with rfl | rfl
      · exact c72
      · exact c73
    cases hi : aIm A k with
    | none => rw [hi] at h9; show σ'.1 7 (2 + k) 1 = 0; rw [(ha 7 _ c7k).1]; exact h9
    | some T => rw [hi] at h9; exact cS_ag h9 ha c7k (fun w hw => c9' _ (by omega))
  · rw [(ha 0 0 c0).1, (ha 20 0 c20).1]; exact h6
  · rw [(ha 0 0 c0).1]; exact h7
  · rw [(ha 0 0 c0).1]; exact h8
theorem cRel.sc {σ σ' : jm_S} {A : aS} (h : cRel σ A) (ha : jm_ag Csc σ σ') : cRel σ' A :=
  h.ag ha rfl rfl rfl (fun _ => rfl) rfl rfl rfl rfl rfl (fun r hr => by
    have : Nat.ble 4 r = false := by cases hb : Nat.ble 4 r with | false => rfl | true => exact absurd (Nat.le_of_ble_eq_true hb) (by omega)
    simp [Csc, this]) (fun r hr => by
    have : Nat.blt r 8 = false := by cases hb : Nat.blt r 8 with | false => rfl | true => exact absurd (Nat.le_of_ble_eq_true hb) (by omega)
    simp [Csc, this]) rfl rfl rfl rfl rfl
theorem cRel.fr {σ σ' : jm_S} {A : aS} (h : cRel σ A) (ha : jm_ag Crf σ σ') : cRel σ' A :=
  h.ag ha rfl rfl rfl (fun _ => rfl) rfl rfl rfl rfl rfl (fun _ _ => rfl) (fun _ _ => rfl) rfl rfl rfl rfl rfl
theorem rRel.ag {σ σ' : jm_S} {A : aS} {C : Nat → Nat → Bool} (h : rRel σ A) (ha : jm_ag C σ σ') (hf : ∀ j, j = 1 ∨ j = 9 ∨ j = 11 ∨ j = 18 ∨ j = 25 → σ'.1 21 0 j = σ.1 21 0 j) (c22 : C 22 0 = false) (c23 : C 23 0 = false) (c24 : C 24 0 = false) (c25 : C 25 0 = false) (c26 : C 26 0 = false) (c27 : C 27 0 = false) (c30 : C 30 0 = false) (c31 : C 31 0 = false) (c32 : C 32 0 = false) : rRel σ' A := by
  obtain ⟨h1, h2, h3, h4, h5, h6, h7, h8⟩ := h
  refine ⟨?_, ?_, ?_, ?_, ?_, ?_, ?_, ?_⟩
  · rw [(ha 22 0 c22).1, (ha 23 0 c23).1, (ha 24 0 c24).1]; exact h1
  · rw [(ha 27 0 c27).1]; exact ⟨(hf 11 (by simp)).trans h2.1, h2.2⟩
  · rw [(ha 25 0 c25).1]; exact h3
  · rw [(ha 26 0 c26).1]; exact ⟨(hf 9 (by simp)).trans h4.1, h4.2⟩
  · rw [(ha 30 0 c30).1, (ha 31 0 c31).1]; exact h5
  · rw [(ha 32 0 c32).1]; exact ⟨(hf 25 (by simp)).trans h6.1, h6.2⟩
  · exact (hf 18 (by simp)).trans h7
  · exact (hf 1 (by simp)).trans h8
theorem rRel.sc {σ σ' : jm_S} {A : aS} (h : rRel σ A) (ha : jm_ag Crs σ σ') (hf : ∀ j, j = 1 ∨ j = 9 ∨ j = 11 ∨ j = 18 ∨ j = 25 → σ'.1 21 0 j = σ.1 21 0 j) : rRel σ' A :=
  h.ag ha hf rfl rfl rfl rfl rfl rfl rfl rfl rfl
theorem rRel.fr {σ σ' : jm_S} {A : aS} (h : rRel σ A) (ha : jm_ag Ccl σ σ') : rRel σ' A :=
  h.ag ha (fun j _ => by rw [(ha 21 0 rfl).1]) rfl rfl rfl rfl rfl rfl rfl rfl rfl
/-- the latest finding -/
def aFdW (A : aS) (x : Int32) : aS := (A.1, A.2.1, A.2.2.1, A.2.2.2.1, A.2.2.2.2.1, A.2.2.2.2.2.1, A.2.2.2.2.2.2.1, x)
theorem okA.fd {A : aS} (h : okA A) (x : Int32) : okA (aFdW A x) := h
theorem cRel.fd {σ : jm_S} {A : aS} (h : cRel σ A) (x : Int32) : cRel (jm_wi σ 0 0 13 x) (aFdW A x) := ⟨h.1, h.2.1, h.2.2.1, h.2.2.2.1, h.2.2.2.2.1, h.2.2.2.2.2.1, h.2.2.2.2.2.2.1, rfl⟩
theorem rRel.fd {σ : jm_S} {A : aS} (h : rRel σ A) (x : Int32) : rRel (jm_wi σ 21 0 1 x) (aFdW A x) := ⟨h.1, h.2.1, h.2.2.1, h.2.2.2.1, h.2.2.2.2.1, h.2.2.2.2.2.1, h.2.2.2.2.2.2.1, rfl⟩
/-- thrown is nobody's -/
theorem rRel.th {σ : jm_S} {A : aS} (h : rRel σ A) (x : Int32) : rRel (jm_wi σ 21 0 0 x) A := h
theorem rRel.ov {σ : jm_S} {A : aS} (h : rRel σ A) (x : Int32) : rRel (jm_wi σ 21 0 19 x) A := h
/-- both answer alike, and hold the same state behind it -/
def Pair (A : aS) (c r : jm_M) (as : List jm_V) : Prop := ∃ (v : jm_V) (A' : aS), okA A' ∧ (∀ σ, cRel σ A → ∃ σ1, jm_call 60 c (jm_R 0 0 :: as) σ = some (some v, σ1) ∧ cRel σ1 A' ∧ jm_ag Ccl σ σ1) ∧ (∀ σ, rRel σ A → ∃ σ1, jm_call 60 r (jm_R 21 0 :: as) σ = some (some v, σ1) ∧ rRel σ1 A' ∧ jm_ag Crf σ σ1)
end
