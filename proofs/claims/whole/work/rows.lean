section
-- ===== PART A: goes FIRST, ahead of the names: the tables' words, and 'selects' of the private methods out of them =====
/-- a private method of a class that the tables say can be made, by its rows of tables_1 -/
def lw_okq (q : MethodName × Nat) : Prop := (q.1.cls ≠ "java/lang/invoke/MethodHandle" ∧ q.1.cls ≠ "java/lang/invoke/VarHandle") ∧ Cond.instantiable q.1.cls q.2 ∈ tables_1 ∧ Cond.privateMethod q.1 ∈ tables_1 ∧ Cond.instanceMethod q.1 ∈ tables_1
theorem lw_p0 : lw_okq (⟨"BeachIsRelaid$Reader", "split", "()V"⟩, 10) := ⟨⟨by decide +kernel, by decide +kernel⟩, List.mem_of_getElem? (i := 97) (by decide +kernel), List.mem_of_getElem? (i := 284) (by decide +kernel), List.mem_of_getElem? (i := 285) (by decide +kernel)⟩
theorem lw_p1 : lw_okq (⟨"BeachIsRelaid$Reader", "behindBlanks", "(I)I"⟩, 10) := ⟨⟨by decide +kernel, by decide +kernel⟩, List.mem_of_getElem? (i := 97) (by decide +kernel), List.mem_of_getElem? (i := 288) (by decide +kernel), List.mem_of_getElem? (i := 289) (by decide +kernel)⟩
theorem lw_p2 : lw_okq (⟨"BeachIsRelaid$Reader", "byteAt", "(I)I"⟩, 10) := ⟨⟨by decide +kernel, by decide +kernel⟩, List.mem_of_getElem? (i := 97) (by decide +kernel), List.mem_of_getElem? (i := 292) (by decide +kernel), List.mem_of_getElem? (i := 293) (by decide +kernel)⟩
theorem lw_p3 : lw_okq (⟨"BeachIsRelaid$Reader", "endOf", "(I)I"⟩, 10) := ⟨⟨by decide +kernel, by decide +kernel⟩, List.mem_of_getElem? (i := 97) (by decide +kernel), List.mem_of_getElem? (i := 296) (by decide +kernel), List.mem_of_getElem? (i := 297) (by decide +kernel)⟩
theorem lw_p4 : lw_okq (⟨"BeachIsRelaid$Reader", "tokenOf", "(II)I"⟩, 10) := ⟨⟨by decide +kernel, by decide +kernel⟩, List.mem_of_getElem? (i := 97) (by decide +kernel), List.mem_of_getElem? (i := 306) (by decide +kernel), List.mem_of_getElem? (i := 307) (by decide +kernel)⟩
theorem lw_p5 : lw_okq (⟨"BeachIsRelaid$Reader", "wordOf", "(II)I"⟩, 10) := ⟨⟨by decide +kernel, by decide +kernel⟩, List.mem_of_getElem? (i := 97) (by decide +kernel), List.mem_of_getElem? (i := 310) (by decide +kernel), List.mem_of_getElem? (i := 311) (by decide +kernel)⟩
theorem lw_p6 : lw_okq (⟨"BeachIsRelaid$Reader", "spells", "(IILjava/lang/String;)Z"⟩, 10) := ⟨⟨by decide +kernel, by decide +kernel⟩, List.mem_of_getElem? (i := 97) (by decide +kernel), List.mem_of_getElem? (i := 315) (by decide +kernel), List.mem_of_getElem? (i := 316) (by decide +kernel)⟩
theorem lw_p7 : lw_okq (⟨"BeachIsRelaid$Reader", "numberOf", "(II)I"⟩, 10) := ⟨⟨by decide +kernel, by decide +kernel⟩, List.mem_of_getElem? (i := 97) (by decide +kernel), List.mem_of_getElem? (i := 332) (by decide +kernel), List.mem_of_getElem? (i := 333) (by decide +kernel)⟩
theorem lw_p8 : lw_okq (⟨"BeachIsRelaid$Reader", "expect", "(I)V"⟩, 10) := ⟨⟨by decide +kernel, by decide +kernel⟩, List.mem_of_getElem? (i := 97) (by decide +kernel), List.mem_of_getElem? (i := 336) (by decide +kernel), List.mem_of_getElem? (i := 337) (by decide +kernel)⟩
theorem lw_p9 : lw_okq (⟨"BeachIsRelaid$Reader", "token", "()I"⟩, 10) := ⟨⟨by decide +kernel, by decide +kernel⟩, List.mem_of_getElem? (i := 97) (by decide +kernel), List.mem_of_getElem? (i := 340) (by decide +kernel), List.mem_of_getElem? (i := 341) (by decide +kernel)⟩
theorem lw_p10 : lw_okq (⟨"BeachIsRelaid$Reader", "fail", "()V"⟩, 10) := ⟨⟨by decide +kernel, by decide +kernel⟩, List.mem_of_getElem? (i := 97) (by decide +kernel), List.mem_of_getElem? (i := 344) (by decide +kernel), List.mem_of_getElem? (i := 345) (by decide +kernel)⟩
theorem lw_p11 : lw_okq (⟨"BeachIsRelaid$Reader", "chain", "(I)V"⟩, 10) := ⟨⟨by decide +kernel, by decide +kernel⟩, List.mem_of_getElem? (i := 97) (by decide +kernel), List.mem_of_getElem? (i := 348) (by decide +kernel), List.mem_of_getElem? (i := 349) (by decide +kernel)⟩
theorem lw_p12 : lw_okq (⟨"BeachIsRelaid$Reader", "operand", "(I)V"⟩, 10) := ⟨⟨by decide +kernel, by decide +kernel⟩, List.mem_of_getElem? (i := 97) (by decide +kernel), List.mem_of_getElem? (i := 352) (by decide +kernel), List.mem_of_getElem? (i := 353) (by decide +kernel)⟩
theorem lw_p13 : lw_okq (⟨"BeachIsRelaid$Reader", "negation", "()V"⟩, 10) := ⟨⟨by decide +kernel, by decide +kernel⟩, List.mem_of_getElem? (i := 97) (by decide +kernel), List.mem_of_getElem? (i := 356) (by decide +kernel), List.mem_of_getElem? (i := 357) (by decide +kernel)⟩
theorem lw_p14 : lw_okq (⟨"BeachIsRelaid$Reader", "opens", "()Z"⟩, 10) := ⟨⟨by decide +kernel, by decide +kernel⟩, List.mem_of_getElem? (i := 97) (by decide +kernel), List.mem_of_getElem? (i := 360) (by decide +kernel), List.mem_of_getElem? (i := 361) (by decide +kernel)⟩
theorem lw_p15 : lw_okq (⟨"BeachIsRelaid$Reader", "emit", "(I)V"⟩, 10) := ⟨⟨by decide +kernel, by decide +kernel⟩, List.mem_of_getElem? (i := 97) (by decide +kernel), List.mem_of_getElem? (i := 364) (by decide +kernel), List.mem_of_getElem? (i := 365) (by decide +kernel)⟩
def lw_privs_1 : List (MethodName × Nat) := [(⟨"BeachIsRelaid$Reader", "split", "()V"⟩, 10), (⟨"BeachIsRelaid$Reader", "behindBlanks", "(I)I"⟩, 10), (⟨"BeachIsRelaid$Reader", "byteAt", "(I)I"⟩, 10), (⟨"BeachIsRelaid$Reader", "endOf", "(I)I"⟩, 10), (⟨"BeachIsRelaid$Reader", "tokenOf", "(II)I"⟩, 10), (⟨"BeachIsRelaid$Reader", "wordOf", "(II)I"⟩, 10), (⟨"BeachIsRelaid$Reader", "spells", "(IILjava/lang/String;)Z"⟩, 10), (⟨"BeachIsRelaid$Reader", "numberOf", "(II)I"⟩, 10), (⟨"BeachIsRelaid$Reader", "expect", "(I)V"⟩, 10), (⟨"BeachIsRelaid$Reader", "token", "()I"⟩, 10), (⟨"BeachIsRelaid$Reader", "fail", "()V"⟩, 10), (⟨"BeachIsRelaid$Reader", "chain", "(I)V"⟩, 10), (⟨"BeachIsRelaid$Reader", "operand", "(I)V"⟩, 10), (⟨"BeachIsRelaid$Reader", "negation", "()V"⟩, 10), (⟨"BeachIsRelaid$Reader", "opens", "()Z"⟩, 10), (⟨"BeachIsRelaid$Reader", "emit", "(I)V"⟩, 10)]
theorem lw_r1 : ∀ q ∈ lw_privs_1, lw_okq q := List.forall_mem_cons.mpr ⟨lw_p0, List.forall_mem_cons.mpr ⟨lw_p1, List.forall_mem_cons.mpr ⟨lw_p2, List.forall_mem_cons.mpr ⟨lw_p3, List.forall_mem_cons.mpr ⟨lw_p4, List.forall_mem_cons.mpr ⟨lw_p5, List.forall_mem_cons.mpr ⟨lw_p6, List.forall_mem_cons.mpr ⟨lw_p7, List.forall_mem_cons.mpr ⟨lw_p8, List.forall_mem_cons.mpr ⟨lw_p9, List.forall_mem_cons.mpr ⟨lw_p10, List.forall_mem_cons.mpr ⟨lw_p11, List.forall_mem_cons.mpr ⟨lw_p12, List.forall_mem_cons.mpr ⟨lw_p13, List.forall_mem_cons.mpr ⟨lw_p14, List.forall_mem_cons.mpr ⟨lw_p15, fun _ h => absurd h List.not_mem_nil⟩⟩⟩⟩⟩⟩⟩⟩⟩⟩⟩⟩⟩⟩⟩⟩
theorem lw_p16 : lw_okq (⟨"BeachIsRelaid$Reader", "single", "()V"⟩, 10) := ⟨⟨by decide +kernel, by decide +kernel⟩, List.mem_of_getElem? (i := 97) (by decide +kernel), List.mem_of_getElem? (i := 368) (by decide +kernel), List.mem_of_getElem? (i := 369) (by decide +kernel)⟩
theorem lw_p17 : lw_okq (⟨"BeachIsRelaid$Rules", "say", "(LBeachIsRelaid$Beach;III)V"⟩, 5) := ⟨⟨by decide +kernel, by decide +kernel⟩, List.mem_of_getElem? (i := 136) (by decide +kernel), List.mem_of_getElem? (i := 491) (by decide +kernel), List.mem_of_getElem? (i := 492) (by decide +kernel)⟩
theorem lw_p18 : lw_okq (⟨"BeachIsRelaid$Rules", "worth", "(II)I"⟩, 5) := ⟨⟨by decide +kernel, by decide +kernel⟩, List.mem_of_getElem? (i := 136) (by decide +kernel), List.mem_of_getElem? (i := 499) (by decide +kernel), List.mem_of_getElem? (i := 500) (by decide +kernel)⟩
theorem lw_p19 : lw_okq (⟨"BeachIsRelaid", "worstReach", "()I"⟩, 9) := ⟨⟨by decide +kernel, by decide +kernel⟩, List.mem_of_getElem? (i := 20) (by decide +kernel), List.mem_of_getElem? (i := 655) (by decide +kernel), List.mem_of_getElem? (i := 656) (by decide +kernel)⟩
theorem lw_p20 : lw_okq (⟨"BeachIsRelaid", "wrongBehind", "(I)I"⟩, 9) := ⟨⟨by decide +kernel, by decide +kernel⟩, List.mem_of_getElem? (i := 20) (by decide +kernel), List.mem_of_getElem? (i := 659) (by decide +kernel), List.mem_of_getElem? (i := 660) (by decide +kernel)⟩
theorem lw_p21 : lw_okq (⟨"BeachIsRelaid", "sheetAt", "(I)LBeachIsRelaid$Sheet;"⟩, 9) := ⟨⟨by decide +kernel, by decide +kernel⟩, List.mem_of_getElem? (i := 20) (by decide +kernel), List.mem_of_getElem? (i := 671) (by decide +kernel), List.mem_of_getElem? (i := 672) (by decide +kernel)⟩
theorem lw_p22 : lw_okq (⟨"BeachIsRelaid$Ways", "wayAhead", "(II)I"⟩, 7) := ⟨⟨by decide +kernel, by decide +kernel⟩, List.mem_of_getElem? (i := 176) (by decide +kernel), List.mem_of_getElem? (i := 707) (by decide +kernel), List.mem_of_getElem? (i := 708) (by decide +kernel)⟩
theorem lw_p23 : lw_okq (⟨"BeachIsRelaid$Ways", "cellAt", "(I)I"⟩, 7) := ⟨⟨by decide +kernel, by decide +kernel⟩, List.mem_of_getElem? (i := 176) (by decide +kernel), List.mem_of_getElem? (i := 712) (by decide +kernel), List.mem_of_getElem? (i := 713) (by decide +kernel)⟩
theorem lw_p24 : lw_okq (⟨"BeachIsRelaid$Ways", "aheadAt", "(I)I"⟩, 7) := ⟨⟨by decide +kernel, by decide +kernel⟩, List.mem_of_getElem? (i := 176) (by decide +kernel), List.mem_of_getElem? (i := 717) (by decide +kernel), List.mem_of_getElem? (i := 718) (by decide +kernel)⟩
theorem lw_p25 : lw_okq (⟨"BeachIsRelaid$Ways", "setAhead", "(II)V"⟩, 7) := ⟨⟨by decide +kernel, by decide +kernel⟩, List.mem_of_getElem? (i := 176) (by decide +kernel), List.mem_of_getElem? (i := 722) (by decide +kernel), List.mem_of_getElem? (i := 723) (by decide +kernel)⟩
theorem lw_p26 : lw_okq (⟨"BeachIsRelaid$Ways", "weigh", "(LBeachIsRelaid$Beach;LBeachIsRelaid$Rules;I)V"⟩, 7) := ⟨⟨by decide +kernel, by decide +kernel⟩, List.mem_of_getElem? (i := 176) (by decide +kernel), List.mem_of_getElem? (i := 735) (by decide +kernel), List.mem_of_getElem? (i := 736) (by decide +kernel)⟩
theorem lw_p27 : lw_okq (⟨"BeachIsRelaid$Ways", "costAhead", "(II)I"⟩, 7) := ⟨⟨by decide +kernel, by decide +kernel⟩, List.mem_of_getElem? (i := 176) (by decide +kernel), List.mem_of_getElem? (i := 747) (by decide +kernel), List.mem_of_getElem? (i := 748) (by decide +kernel)⟩
theorem lw_p28 : lw_okq (⟨"BeachIsRelaid$Ways", "costBy", "(III)I"⟩, 7) := ⟨⟨by decide +kernel, by decide +kernel⟩, List.mem_of_getElem? (i := 176) (by decide +kernel), List.mem_of_getElem? (i := 751) (by decide +kernel), List.mem_of_getElem? (i := 752) (by decide +kernel)⟩
theorem lw_p29 : lw_okq (⟨"BeachIsRelaid$Ways", "follow", "(I)V"⟩, 7) := ⟨⟨by decide +kernel, by decide +kernel⟩, List.mem_of_getElem? (i := 176) (by decide +kernel), List.mem_of_getElem? (i := 755) (by decide +kernel), List.mem_of_getElem? (i := 756) (by decide +kernel)⟩
theorem lw_p30 : lw_okq (⟨"BeachIsRelaid", "firstOther", "(LBeachIsRelaid$Sheet;LBeachIsRelaid$One;)I"⟩, 9) := ⟨⟨by decide +kernel, by decide +kernel⟩, List.mem_of_getElem? (i := 20) (by decide +kernel), List.mem_of_getElem? (i := 782) (by decide +kernel), List.mem_of_getElem? (i := 783) (by decide +kernel)⟩
theorem lw_p31 : lw_okq (⟨"BeachIsRelaid", "kindsOf", "(LBeachIsRelaid$Sheet;LBeachIsRelaid$One;)I"⟩, 9) := ⟨⟨by decide +kernel, by decide +kernel⟩, List.mem_of_getElem? (i := 20) (by decide +kernel), List.mem_of_getElem? (i := 786) (by decide +kernel), List.mem_of_getElem? (i := 787) (by decide +kernel)⟩
def lw_privs_2 : List (MethodName × Nat) := [(⟨"BeachIsRelaid$Reader", "single", "()V"⟩, 10), (⟨"BeachIsRelaid$Rules", "say", "(LBeachIsRelaid$Beach;III)V"⟩, 5), (⟨"BeachIsRelaid$Rules", "worth", "(II)I"⟩, 5), (⟨"BeachIsRelaid", "worstReach", "()I"⟩, 9), (⟨"BeachIsRelaid", "wrongBehind", "(I)I"⟩, 9), (⟨"BeachIsRelaid", "sheetAt", "(I)LBeachIsRelaid$Sheet;"⟩, 9), (⟨"BeachIsRelaid$Ways", "wayAhead", "(II)I"⟩, 7), (⟨"BeachIsRelaid$Ways", "cellAt", "(I)I"⟩, 7), (⟨"BeachIsRelaid$Ways", "aheadAt", "(I)I"⟩, 7), (⟨"BeachIsRelaid$Ways", "setAhead", "(II)V"⟩, 7), (⟨"BeachIsRelaid$Ways", "weigh", "(LBeachIsRelaid$Beach;LBeachIsRelaid$Rules;I)V"⟩, 7), (⟨"BeachIsRelaid$Ways", "costAhead", "(II)I"⟩, 7), (⟨"BeachIsRelaid$Ways", "costBy", "(III)I"⟩, 7), (⟨"BeachIsRelaid$Ways", "follow", "(I)V"⟩, 7), (⟨"BeachIsRelaid", "firstOther", "(LBeachIsRelaid$Sheet;LBeachIsRelaid$One;)I"⟩, 9), (⟨"BeachIsRelaid", "kindsOf", "(LBeachIsRelaid$Sheet;LBeachIsRelaid$One;)I"⟩, 9)]
theorem lw_r2 : ∀ q ∈ lw_privs_2, lw_okq q := List.forall_mem_cons.mpr ⟨lw_p16, List.forall_mem_cons.mpr ⟨lw_p17, List.forall_mem_cons.mpr ⟨lw_p18, List.forall_mem_cons.mpr ⟨lw_p19, List.forall_mem_cons.mpr ⟨lw_p20, List.forall_mem_cons.mpr ⟨lw_p21, List.forall_mem_cons.mpr ⟨lw_p22, List.forall_mem_cons.mpr ⟨lw_p23, List.forall_mem_cons.mpr ⟨lw_p24, List.forall_mem_cons.mpr ⟨lw_p25, List.forall_mem_cons.mpr ⟨lw_p26, List.forall_mem_cons.mpr ⟨lw_p27, List.forall_mem_cons.mpr ⟨lw_p28, List.forall_mem_cons.mpr ⟨lw_p29, List.forall_mem_cons.mpr ⟨lw_p30, List.forall_mem_cons.mpr ⟨lw_p31, fun _ h => absurd h List.not_mem_nil⟩⟩⟩⟩⟩⟩⟩⟩⟩⟩⟩⟩⟩⟩⟩⟩
theorem lw_p32 : lw_okq (⟨"BeachIsRelaid", "numbersOf", "(LBeachIsRelaid$Sheet;LBeachIsRelaid$One;)I"⟩, 9) := ⟨⟨by decide +kernel, by decide +kernel⟩, List.mem_of_getElem? (i := 20) (by decide +kernel), List.mem_of_getElem? (i := 790) (by decide +kernel), List.mem_of_getElem? (i := 791) (by decide +kernel)⟩
theorem lw_p33 : lw_okq (⟨"BeachIsRelaid", "tidesOf", "(LBeachIsRelaid$Sheet;LBeachIsRelaid$One;)I"⟩, 9) := ⟨⟨by decide +kernel, by decide +kernel⟩, List.mem_of_getElem? (i := 20) (by decide +kernel), List.mem_of_getElem? (i := 794) (by decide +kernel), List.mem_of_getElem? (i := 795) (by decide +kernel)⟩
theorem lw_p34 : lw_okq (⟨"BeachIsRelaid", "leastTideOf", "(LBeachIsRelaid$Sheet;LBeachIsRelaid$One;)I"⟩, 9) := ⟨⟨by decide +kernel, by decide +kernel⟩, List.mem_of_getElem? (i := 20) (by decide +kernel), List.mem_of_getElem? (i := 798) (by decide +kernel), List.mem_of_getElem? (i := 799) (by decide +kernel)⟩
theorem lw_p35 : lw_okq (⟨"BeachIsRelaid", "textsOf", "(LBeachIsRelaid$Sheet;LBeachIsRelaid$One;)I"⟩, 9) := ⟨⟨by decide +kernel, by decide +kernel⟩, List.mem_of_getElem? (i := 20) (by decide +kernel), List.mem_of_getElem? (i := 802) (by decide +kernel), List.mem_of_getElem? (i := 803) (by decide +kernel)⟩
theorem lw_p36 : lw_okq (⟨"BeachIsRelaid", "reachesOf", "(LBeachIsRelaid$Sheet;)I"⟩, 9) := ⟨⟨by decide +kernel, by decide +kernel⟩, List.mem_of_getElem? (i := 20) (by decide +kernel), List.mem_of_getElem? (i := 806) (by decide +kernel), List.mem_of_getElem? (i := 807) (by decide +kernel)⟩
theorem lw_p37 : lw_okq (⟨"BeachIsRelaidModel", "firstText", "()I"⟩, 36) := ⟨⟨by decide +kernel, by decide +kernel⟩, List.mem_of_getElem? (i := 877) (by decide +kernel), List.mem_of_getElem? (i := 883) (by decide +kernel), List.mem_of_getElem? (i := 884) (by decide +kernel)⟩
theorem lw_p38 : lw_okq (⟨"BeachIsRelaidModel", "place", "(II)I"⟩, 36) := ⟨⟨by decide +kernel, by decide +kernel⟩, List.mem_of_getElem? (i := 877) (by decide +kernel), List.mem_of_getElem? (i := 1005) (by decide +kernel), List.mem_of_getElem? (i := 1006) (by decide +kernel)⟩
theorem lw_p39 : lw_okq (⟨"BeachIsRelaidModel", "isOne", "(I)Z"⟩, 36) := ⟨⟨by decide +kernel, by decide +kernel⟩, List.mem_of_getElem? (i := 877) (by decide +kernel), List.mem_of_getElem? (i := 1012) (by decide +kernel), List.mem_of_getElem? (i := 1013) (by decide +kernel)⟩
theorem lw_p40 : lw_okq (⟨"BeachIsRelaidModel", "many", "()I"⟩, 36) := ⟨⟨by decide +kernel, by decide +kernel⟩, List.mem_of_getElem? (i := 877) (by decide +kernel), List.mem_of_getElem? (i := 1020) (by decide +kernel), List.mem_of_getElem? (i := 1021) (by decide +kernel)⟩
theorem lw_p41 : lw_okq (⟨"BeachIsRelaidModel", "isText", "()Z"⟩, 36) := ⟨⟨by decide +kernel, by decide +kernel⟩, List.mem_of_getElem? (i := 877) (by decide +kernel), List.mem_of_getElem? (i := 1036) (by decide +kernel), List.mem_of_getElem? (i := 1037) (by decide +kernel)⟩
theorem lw_p42 : lw_okq (⟨"BeachIsRelaidModel", "next", "()V"⟩, 36) := ⟨⟨by decide +kernel, by decide +kernel⟩, List.mem_of_getElem? (i := 877) (by decide +kernel), List.mem_of_getElem? (i := 1040) (by decide +kernel), List.mem_of_getElem? (i := 1041) (by decide +kernel)⟩
theorem lw_p43 : lw_okq (⟨"BeachIsRelaidModel", "sortAt", "(I)I"⟩, 36) := ⟨⟨by decide +kernel, by decide +kernel⟩, List.mem_of_getElem? (i := 877) (by decide +kernel), List.mem_of_getElem? (i := 1044) (by decide +kernel), List.mem_of_getElem? (i := 1045) (by decide +kernel)⟩
theorem lw_p44 : lw_okq (⟨"BeachIsRelaidModel", "word", "()I"⟩, 36) := ⟨⟨by decide +kernel, by decide +kernel⟩, List.mem_of_getElem? (i := 877) (by decide +kernel), List.mem_of_getElem? (i := 1048) (by decide +kernel), List.mem_of_getElem? (i := 1049) (by decide +kernel)⟩
theorem lw_p45 : lw_okq (⟨"BeachIsRelaidModel", "isE", "()Z"⟩, 36) := ⟨⟨by decide +kernel, by decide +kernel⟩, List.mem_of_getElem? (i := 877) (by decide +kernel), List.mem_of_getElem? (i := 1052) (by decide +kernel), List.mem_of_getElem? (i := 1053) (by decide +kernel)⟩
theorem lw_p46 : lw_okq (⟨"BeachIsRelaidModel", "begin", "()I"⟩, 36) := ⟨⟨by decide +kernel, by decide +kernel⟩, List.mem_of_getElem? (i := 877) (by decide +kernel), List.mem_of_getElem? (i := 1056) (by decide +kernel), List.mem_of_getElem? (i := 1057) (by decide +kernel)⟩
theorem lw_p47 : lw_okq (⟨"BeachIsRelaidModel", "write", "(I)V"⟩, 36) := ⟨⟨by decide +kernel, by decide +kernel⟩, List.mem_of_getElem? (i := 877) (by decide +kernel), List.mem_of_getElem? (i := 1060) (by decide +kernel), List.mem_of_getElem? (i := 1061) (by decide +kernel)⟩
def lw_privs_3 : List (MethodName × Nat) := [(⟨"BeachIsRelaid", "numbersOf", "(LBeachIsRelaid$Sheet;LBeachIsRelaid$One;)I"⟩, 9), (⟨"BeachIsRelaid", "tidesOf", "(LBeachIsRelaid$Sheet;LBeachIsRelaid$One;)I"⟩, 9), (⟨"BeachIsRelaid", "leastTideOf", "(LBeachIsRelaid$Sheet;LBeachIsRelaid$One;)I"⟩, 9), (⟨"BeachIsRelaid", "textsOf", "(LBeachIsRelaid$Sheet;LBeachIsRelaid$One;)I"⟩, 9), (⟨"BeachIsRelaid", "reachesOf", "(LBeachIsRelaid$Sheet;)I"⟩, 9), (⟨"BeachIsRelaidModel", "firstText", "()I"⟩, 36), (⟨"BeachIsRelaidModel", "place", "(II)I"⟩, 36), (⟨"BeachIsRelaidModel", "isOne", "(I)Z"⟩, 36), (⟨"BeachIsRelaidModel", "many", "()I"⟩, 36), (⟨"BeachIsRelaidModel", "isText", "()Z"⟩, 36), (⟨"BeachIsRelaidModel", "next", "()V"⟩, 36), (⟨"BeachIsRelaidModel", "sortAt", "(I)I"⟩, 36), (⟨"BeachIsRelaidModel", "word", "()I"⟩, 36), (⟨"BeachIsRelaidModel", "isE", "()Z"⟩, 36), (⟨"BeachIsRelaidModel", "begin", "()I"⟩, 36), (⟨"BeachIsRelaidModel", "write", "(I)V"⟩, 36)]
theorem lw_r3 : ∀ q ∈ lw_privs_3, lw_okq q := List.forall_mem_cons.mpr ⟨lw_p32, List.forall_mem_cons.mpr ⟨lw_p33, List.forall_mem_cons.mpr ⟨lw_p34, List.forall_mem_cons.mpr ⟨lw_p35, List.forall_mem_cons.mpr ⟨lw_p36, List.forall_mem_cons.mpr ⟨lw_p37, List.forall_mem_cons.mpr ⟨lw_p38, List.forall_mem_cons.mpr ⟨lw_p39, List.forall_mem_cons.mpr ⟨lw_p40, List.forall_mem_cons.mpr ⟨lw_p41, List.forall_mem_cons.mpr ⟨lw_p42, List.forall_mem_cons.mpr ⟨lw_p43, List.forall_mem_cons.mpr ⟨lw_p44, List.forall_mem_cons.mpr ⟨lw_p45, List.forall_mem_cons.mpr ⟨lw_p46, List.forall_mem_cons.mpr ⟨lw_p47, fun _ h => absurd h List.not_mem_nil⟩⟩⟩⟩⟩⟩⟩⟩⟩⟩⟩⟩⟩⟩⟩⟩
theorem lw_p48 : lw_okq (⟨"BeachIsRelaidModel", "numberThere", "()I"⟩, 36) := ⟨⟨by decide +kernel, by decide +kernel⟩, List.mem_of_getElem? (i := 877) (by decide +kernel), List.mem_of_getElem? (i := 1064) (by decide +kernel), List.mem_of_getElem? (i := 1065) (by decide +kernel)⟩
theorem lw_p49 : lw_okq (⟨"BeachIsRelaidModel", "isSign", "(I)Z"⟩, 36) := ⟨⟨by decide +kernel, by decide +kernel⟩, List.mem_of_getElem? (i := 877) (by decide +kernel), List.mem_of_getElem? (i := 1068) (by decide +kernel), List.mem_of_getElem? (i := 1069) (by decide +kernel)⟩
theorem lw_p50 : lw_okq (⟨"BeachIsRelaidModel", "last", "()I"⟩, 36) := ⟨⟨by decide +kernel, by decide +kernel⟩, List.mem_of_getElem? (i := 877) (by decide +kernel), List.mem_of_getElem? (i := 1072) (by decide +kernel), List.mem_of_getElem? (i := 1073) (by decide +kernel)⟩
theorem lw_p51 : lw_okq (⟨"BeachIsRelaidModel", "await", "(I)V"⟩, 36) := ⟨⟨by decide +kernel, by decide +kernel⟩, List.mem_of_getElem? (i := 877) (by decide +kernel), List.mem_of_getElem? (i := 1079) (by decide +kernel), List.mem_of_getElem? (i := 1080) (by decide +kernel)⟩
theorem lw_p52 : lw_okq (⟨"BeachIsRelaidModel", "settle", "(I)V"⟩, 36) := ⟨⟨by decide +kernel, by decide +kernel⟩, List.mem_of_getElem? (i := 877) (by decide +kernel), List.mem_of_getElem? (i := 1083) (by decide +kernel), List.mem_of_getElem? (i := 1084) (by decide +kernel)⟩
theorem lw_p53 : lw_okq (⟨"BeachIsRelaidModel", "between", "()I"⟩, 36) := ⟨⟨by decide +kernel, by decide +kernel⟩, List.mem_of_getElem? (i := 877) (by decide +kernel), List.mem_of_getElem? (i := 1087) (by decide +kernel), List.mem_of_getElem? (i := 1088) (by decide +kernel)⟩
theorem lw_p54 : lw_okq (⟨"BeachIsRelaidModel", "take", "(I)V"⟩, 36) := ⟨⟨by decide +kernel, by decide +kernel⟩, List.mem_of_getElem? (i := 877) (by decide +kernel), List.mem_of_getElem? (i := 1099) (by decide +kernel), List.mem_of_getElem? (i := 1100) (by decide +kernel)⟩
theorem lw_p55 : lw_okq (⟨"BeachIsRelaidModel", "takes", "(I)I"⟩, 36) := ⟨⟨by decide +kernel, by decide +kernel⟩, List.mem_of_getElem? (i := 877) (by decide +kernel), List.mem_of_getElem? (i := 1103) (by decide +kernel), List.mem_of_getElem? (i := 1104) (by decide +kernel)⟩
theorem lw_p56 : lw_okq (⟨"BeachIsRelaidModel", "tell", "(II)I"⟩, 36) := ⟨⟨by decide +kernel, by decide +kernel⟩, List.mem_of_getElem? (i := 877) (by decide +kernel), List.mem_of_getElem? (i := 1107) (by decide +kernel), List.mem_of_getElem? (i := 1108) (by decide +kernel)⟩
theorem lw_p57 : lw_okq (⟨"BeachIsRelaidModel", "beside", "(I)I"⟩, 36) := ⟨⟨by decide +kernel, by decide +kernel⟩, List.mem_of_getElem? (i := 877) (by decide +kernel), List.mem_of_getElem? (i := 1111) (by decide +kernel), List.mem_of_getElem? (i := 1112) (by decide +kernel)⟩
theorem lw_p58 : lw_okq (⟨"BeachIsRelaidModel", "isWrong", "(I)Z"⟩, 36) := ⟨⟨by decide +kernel, by decide +kernel⟩, List.mem_of_getElem? (i := 877) (by decide +kernel), List.mem_of_getElem? (i := 1119) (by decide +kernel), List.mem_of_getElem? (i := 1120) (by decide +kernel)⟩
theorem lw_p59 : lw_okq (⟨"BeachIsRelaidModel", "lays", "(I)I"⟩, 36) := ⟨⟨by decide +kernel, by decide +kernel⟩, List.mem_of_getElem? (i := 877) (by decide +kernel), List.mem_of_getElem? (i := 1134) (by decide +kernel), List.mem_of_getElem? (i := 1135) (by decide +kernel)⟩
theorem lw_p60 : lw_okq (⟨"BeachIsRelaidModel", "at", "(I)I"⟩, 36) := ⟨⟨by decide +kernel, by decide +kernel⟩, List.mem_of_getElem? (i := 877) (by decide +kernel), List.mem_of_getElem? (i := 1138) (by decide +kernel), List.mem_of_getElem? (i := 1139) (by decide +kernel)⟩
theorem lw_p61 : lw_okq (⟨"BeachIsRelaidModel", "minutes", "(II)I"⟩, 36) := ⟨⟨by decide +kernel, by decide +kernel⟩, List.mem_of_getElem? (i := 877) (by decide +kernel), List.mem_of_getElem? (i := 1142) (by decide +kernel), List.mem_of_getElem? (i := 1143) (by decide +kernel)⟩
theorem lw_p62 : lw_okq (⟨"BeachIsRelaidModel", "flow", "(I)V"⟩, 36) := ⟨⟨by decide +kernel, by decide +kernel⟩, List.mem_of_getElem? (i := 877) (by decide +kernel), List.mem_of_getElem? (i := 1150) (by decide +kernel), List.mem_of_getElem? (i := 1151) (by decide +kernel)⟩
theorem lw_p63 : lw_okq (⟨"BeachIsRelaidModel", "wrongs", "()I"⟩, 36) := ⟨⟨by decide +kernel, by decide +kernel⟩, List.mem_of_getElem? (i := 877) (by decide +kernel), List.mem_of_getElem? (i := 1154) (by decide +kernel), List.mem_of_getElem? (i := 1155) (by decide +kernel)⟩
def lw_privs_4 : List (MethodName × Nat) := [(⟨"BeachIsRelaidModel", "numberThere", "()I"⟩, 36), (⟨"BeachIsRelaidModel", "isSign", "(I)Z"⟩, 36), (⟨"BeachIsRelaidModel", "last", "()I"⟩, 36), (⟨"BeachIsRelaidModel", "await", "(I)V"⟩, 36), (⟨"BeachIsRelaidModel", "settle", "(I)V"⟩, 36), (⟨"BeachIsRelaidModel", "between", "()I"⟩, 36), (⟨"BeachIsRelaidModel", "take", "(I)V"⟩, 36), (⟨"BeachIsRelaidModel", "takes", "(I)I"⟩, 36), (⟨"BeachIsRelaidModel", "tell", "(II)I"⟩, 36), (⟨"BeachIsRelaidModel", "beside", "(I)I"⟩, 36), (⟨"BeachIsRelaidModel", "isWrong", "(I)Z"⟩, 36), (⟨"BeachIsRelaidModel", "lays", "(I)I"⟩, 36), (⟨"BeachIsRelaidModel", "at", "(I)I"⟩, 36), (⟨"BeachIsRelaidModel", "minutes", "(II)I"⟩, 36), (⟨"BeachIsRelaidModel", "flow", "(I)V"⟩, 36), (⟨"BeachIsRelaidModel", "wrongs", "()I"⟩, 36)]
theorem lw_r4 : ∀ q ∈ lw_privs_4, lw_okq q := List.forall_mem_cons.mpr ⟨lw_p48, List.forall_mem_cons.mpr ⟨lw_p49, List.forall_mem_cons.mpr ⟨lw_p50, List.forall_mem_cons.mpr ⟨lw_p51, List.forall_mem_cons.mpr ⟨lw_p52, List.forall_mem_cons.mpr ⟨lw_p53, List.forall_mem_cons.mpr ⟨lw_p54, List.forall_mem_cons.mpr ⟨lw_p55, List.forall_mem_cons.mpr ⟨lw_p56, List.forall_mem_cons.mpr ⟨lw_p57, List.forall_mem_cons.mpr ⟨lw_p58, List.forall_mem_cons.mpr ⟨lw_p59, List.forall_mem_cons.mpr ⟨lw_p60, List.forall_mem_cons.mpr ⟨lw_p61, List.forall_mem_cons.mpr ⟨lw_p62, List.forall_mem_cons.mpr ⟨lw_p63, fun _ h => absurd h List.not_mem_nil⟩⟩⟩⟩⟩⟩⟩⟩⟩⟩⟩⟩⟩⟩⟩⟩
theorem lw_p64 : lw_okq (⟨"BeachIsRelaidModel", "laid", "(II)I"⟩, 36) := ⟨⟨by decide +kernel, by decide +kernel⟩, List.mem_of_getElem? (i := 877) (by decide +kernel), List.mem_of_getElem? (i := 1162) (by decide +kernel), List.mem_of_getElem? (i := 1163) (by decide +kernel)⟩
theorem lw_p65 : lw_okq (⟨"BeachIsRelaidModel", "go", "(II)I"⟩, 36) := ⟨⟨by decide +kernel, by decide +kernel⟩, List.mem_of_getElem? (i := 877) (by decide +kernel), List.mem_of_getElem? (i := 1170) (by decide +kernel), List.mem_of_getElem? (i := 1171) (by decide +kernel)⟩
theorem lw_p66 : lw_okq (⟨"BeachIsRelaidModel", "clear", "()V"⟩, 36) := ⟨⟨by decide +kernel, by decide +kernel⟩, List.mem_of_getElem? (i := 877) (by decide +kernel), List.mem_of_getElem? (i := 1174) (by decide +kernel), List.mem_of_getElem? (i := 1175) (by decide +kernel)⟩
theorem lw_p67 : lw_okq (⟨"BeachIsRelaidModel", "keep", "([I)V"⟩, 36) := ⟨⟨by decide +kernel, by decide +kernel⟩, List.mem_of_getElem? (i := 877) (by decide +kernel), List.mem_of_getElem? (i := 1182) (by decide +kernel), List.mem_of_getElem? (i := 1183) (by decide +kernel)⟩
theorem lw_p68 : lw_okq (⟨"BeachIsRelaidModel", "lay", "([I)V"⟩, 36) := ⟨⟨by decide +kernel, by decide +kernel⟩, List.mem_of_getElem? (i := 877) (by decide +kernel), List.mem_of_getElem? (i := 1186) (by decide +kernel), List.mem_of_getElem? (i := 1187) (by decide +kernel)⟩
theorem lw_p69 : lw_okq (⟨"BeachIsRelaidModel", "heap", "(I)J"⟩, 36) := ⟨⟨by decide +kernel, by decide +kernel⟩, List.mem_of_getElem? (i := 877) (by decide +kernel), List.mem_of_getElem? (i := 1194) (by decide +kernel), List.mem_of_getElem? (i := 1195) (by decide +kernel)⟩
theorem lw_p70 : lw_okq (⟨"BeachIsRelaidModel", "worst", "(I)I"⟩, 36) := ⟨⟨by decide +kernel, by decide +kernel⟩, List.mem_of_getElem? (i := 877) (by decide +kernel), List.mem_of_getElem? (i := 1203) (by decide +kernel), List.mem_of_getElem? (i := 1204) (by decide +kernel)⟩
theorem lw_p71 : lw_okq (⟨"BeachIsRelaidModel", "behindTide", "(I)I"⟩, 36) := ⟨⟨by decide +kernel, by decide +kernel⟩, List.mem_of_getElem? (i := 877) (by decide +kernel), List.mem_of_getElem? (i := 1207) (by decide +kernel), List.mem_of_getElem? (i := 1208) (by decide +kernel)⟩
theorem lw_p72 : lw_okq (⟨"BeachIsRelaidModel", "isMany", "()Z"⟩, 36) := ⟨⟨by decide +kernel, by decide +kernel⟩, List.mem_of_getElem? (i := 877) (by decide +kernel), List.mem_of_getElem? (i := 1223) (by decide +kernel), List.mem_of_getElem? (i := 1224) (by decide +kernel)⟩
theorem lw_p73 : lw_okq (⟨"BeachIsRelaidModel", "orders", "(IIII)V"⟩, 36) := ⟨⟨by decide +kernel, by decide +kernel⟩, List.mem_of_getElem? (i := 877) (by decide +kernel), List.mem_of_getElem? (i := 1228) (by decide +kernel), List.mem_of_getElem? (i := 1229) (by decide +kernel)⟩
theorem lw_p74 : lw_okq (⟨"BeachIsRelaidModel", "send", "(IIII)V"⟩, 36) := ⟨⟨by decide +kernel, by decide +kernel⟩, List.mem_of_getElem? (i := 877) (by decide +kernel), List.mem_of_getElem? (i := 1236) (by decide +kernel), List.mem_of_getElem? (i := 1237) (by decide +kernel)⟩
theorem lw_p75 : lw_okq (⟨"BeachIsRelaidModel", "otherwise", "(I)I"⟩, 36) := ⟨⟨by decide +kernel, by decide +kernel⟩, List.mem_of_getElem? (i := 877) (by decide +kernel), List.mem_of_getElem? (i := 1276) (by decide +kernel), List.mem_of_getElem? (i := 1277) (by decide +kernel)⟩
theorem lw_p76 : lw_okq (⟨"BeachIsRelaidModel", "tides", "(IZ)I"⟩, 36) := ⟨⟨by decide +kernel, by decide +kernel⟩, List.mem_of_getElem? (i := 877) (by decide +kernel), List.mem_of_getElem? (i := 1280) (by decide +kernel), List.mem_of_getElem? (i := 1281) (by decide +kernel)⟩
theorem lw_p77 : lw_okq (⟨"BeachIsRelaidModel", "isBehind", "(II)Z"⟩, 36) := ⟨⟨by decide +kernel, by decide +kernel⟩, List.mem_of_getElem? (i := 877) (by decide +kernel), List.mem_of_getElem? (i := 1284) (by decide +kernel), List.mem_of_getElem? (i := 1285) (by decide +kernel)⟩
def lw_privs_5 : List (MethodName × Nat) := [(⟨"BeachIsRelaidModel", "laid", "(II)I"⟩, 36), (⟨"BeachIsRelaidModel", "go", "(II)I"⟩, 36), (⟨"BeachIsRelaidModel", "clear", "()V"⟩, 36), (⟨"BeachIsRelaidModel", "keep", "([I)V"⟩, 36), (⟨"BeachIsRelaidModel", "lay", "([I)V"⟩, 36), (⟨"BeachIsRelaidModel", "heap", "(I)J"⟩, 36), (⟨"BeachIsRelaidModel", "worst", "(I)I"⟩, 36), (⟨"BeachIsRelaidModel", "behindTide", "(I)I"⟩, 36), (⟨"BeachIsRelaidModel", "isMany", "()Z"⟩, 36), (⟨"BeachIsRelaidModel", "orders", "(IIII)V"⟩, 36), (⟨"BeachIsRelaidModel", "send", "(IIII)V"⟩, 36), (⟨"BeachIsRelaidModel", "otherwise", "(I)I"⟩, 36), (⟨"BeachIsRelaidModel", "tides", "(IZ)I"⟩, 36), (⟨"BeachIsRelaidModel", "isBehind", "(II)Z"⟩, 36)]
theorem lw_r5 : ∀ q ∈ lw_privs_5, lw_okq q := List.forall_mem_cons.mpr ⟨lw_p64, List.forall_mem_cons.mpr ⟨lw_p65, List.forall_mem_cons.mpr ⟨lw_p66, List.forall_mem_cons.mpr ⟨lw_p67, List.forall_mem_cons.mpr ⟨lw_p68, List.forall_mem_cons.mpr ⟨lw_p69, List.forall_mem_cons.mpr ⟨lw_p70, List.forall_mem_cons.mpr ⟨lw_p71, List.forall_mem_cons.mpr ⟨lw_p72, List.forall_mem_cons.mpr ⟨lw_p73, List.forall_mem_cons.mpr ⟨lw_p74, List.forall_mem_cons.mpr ⟨lw_p75, List.forall_mem_cons.mpr ⟨lw_p76, List.forall_mem_cons.mpr ⟨lw_p77, fun _ h => absurd h List.not_mem_nil⟩⟩⟩⟩⟩⟩⟩⟩⟩⟩⟩⟩⟩⟩
def lw_privs : List (MethodName × Nat) := lw_privs_1 ++ (lw_privs_2 ++ (lw_privs_3 ++ (lw_privs_4 ++ (lw_privs_5))))
def lw_tbl : List Cond := k2_sels lw_privs ++ tables_1
theorem lw_privs_ok : ∀ q ∈ lw_privs, lw_okq q := by
  show ∀ q ∈ lw_privs_1 ++ (lw_privs_2 ++ (lw_privs_3 ++ (lw_privs_4 ++ (lw_privs_5)))), lw_okq q
  exact List.forall_mem_append.mpr ⟨lw_r1, List.forall_mem_append.mpr ⟨lw_r2, List.forall_mem_append.mpr ⟨lw_r3, List.forall_mem_append.mpr ⟨lw_r4, lw_r5⟩⟩⟩⟩
-- ===== end of PART A; then your names; then what follows =====
end
section
/-! ===== THE SMALL MACHINE: objects and arrays by numbers, locals by place, one method's steps as a function ===== -/
abbrev mx_C : Type := (Nat → Int32) ⊕ (Nat → Option Nat)
abbrev mx_E : Type := (Nat × Nat × mx_C) ⊕ (Nat × List Value)
abbrev mx_H : Type := Nat × Nat × (Nat → mx_E)
abbrev mx_L : Type := List (Option Value)
abbrev mx_S : Type := Nat × mx_L × List Value × mx_H
abbrev mx_I : Type := Jvm.ClassFile.Instr × Nat × Int
abbrev mx_R : Type := mx_S ⊕ ((Nat × List Value × Nat × List Value) ⊕ Option Value)
abbrev mx_big : Nat := 1000000
def mx_nil : mx_E := .inr (99, [])
def mx_set (h : mx_H) (a : Nat) (e : mx_E) : mx_H := (h.1, h.2.1, fun i => if i = a then e else h.2.2 i)
def mx_new (h : mx_H) (k : Nat) (e : mx_E) : mx_H := (h.1 + 1, h.2.1 + k, fun i => if i = h.1 then e else h.2.2 i)
def mx_cmp (c : Jvm.ClassFile.Cond) (x y : Int32) : Bool := match c with
  | .eq => decide (x = y)
  | .ne => decide (¬ x = y)
  | .lt => decide (x < y)
  | .ge => decide (x ≥ y)
  | .gt => decide (x > y)
  | .le => decide (x ≤ y)
def mx_tag (v : Value) : Nat := match v with
  | .int _ => 0
  | .long _ => 1
  | .ref _ => 2
  | .null => 2
  | _ => 3
def mx_ld (L : mx_L) (i t : Nat) : Option Value := match L[i]? with
  | some (some v) => if mx_tag v = t then some v else none
  | _ => none
def mx_kill (L : mx_L) (i : Nat) : mx_L := match i with
  | 0 => L
  | j + 1 => match L[j]? with
    | some (some w) => if w.category = 2 then L.set j none else L
    | _ => L
def mx_store (L : mx_L) (i : Nat) (v : Value) : mx_L := if v.category = 2 then ((mx_kill L i).set i (some v)).set (i + 1) none else (mx_kill L i).set i (some v)
/-- the locals at the entry -/
def mx_pl : List Value → mx_L
  | [] => []
  | v :: t => if v.category = 2 then some v :: none :: mx_pl t else some v :: mx_pl t
def mx_ent (n : Nat) (vs : List Value) : mx_L := mx_pl vs ++ List.replicate (n - (mx_pl vs).length) none
def mx_go (s : mx_S) : Option mx_R := some (.inl s)
def mx_psh (v : Option Value) (pc : Nat) (L : mx_L) (st : List Value) (h : mx_H) : Option mx_R := match v with
  | some w => mx_go (pc, L, w :: st, h)
  | none => none
def mx_sto (t i pc : Nat) (L : mx_L) (st : List Value) (h : mx_H) : Option mx_R := match st with
  | v :: r => if mx_tag v = t ∧ i + (if t = 1 then 1 else 0) < L.length then mx_go (pc, mx_store L i v, r, h) else none
  | _ => none
/-- what only the stack is asked for -/
def mx_sk (ins : Jvm.ClassFile.Instr) (st : List Value) : Option (List Value) := match ins with
  | .iconst n => some (.int (Int32.ofInt n) :: st)
  | .bipush n => some (.int (Int8.ofInt n).toInt32 :: st)
  | .sipush n => some (.int (Int16.ofInt n).toInt32 :: st)
  | .lconst n => some (.long (Int64.ofNat (n : Nat)) :: st)
  | .aconst_null => some (.null :: st)
  | .iadd => match st with | .int y :: .int x :: r => some (.int (x + y) :: r) | _ => none
  | .isub => match st with | .int y :: .int x :: r => some (.int (x - y) :: r) | _ => none
  | .imul => match st with | .int y :: .int x :: r => some (.int (x * y) :: r) | _ => none
  | .iand => match st with | .int y :: .int x :: r => some (.int (x &&& y) :: r) | _ => none
  | .ior => match st with | .int y :: .int x :: r => some (.int (x ||| y) :: r) | _ => none
  | .idiv => match st with | .int y :: .int x :: r => if y = 0 then none else some (.int (x / y) :: r) | _ => none
  | .irem => match st with | .int y :: .int x :: r => if y = 0 then none else some (.int (x - x / y * y) :: r) | _ => none
  | .ineg => match st with | .int x :: r => some (.int (-x) :: r) | _ => none
  | .ishl => match st with | .int y :: .int x :: r => some (.int (x <<< (y &&& 31)) :: r) | _ => none
  | .ishr => match st with | .int y :: .int x :: r => some (.int (x >>> (y &&& 31)) :: r) | _ => none
  | .iushr => match st with | .int y :: .int x :: r => some (.int (x.toUInt32 >>> (y.toUInt32 &&& Int32.toUInt32 31)).toInt32 :: r) | _ => none
  | .ladd => match st with | .long y :: .long x :: r => some (.long (x + y) :: r) | _ => none
  | .lsub => match st with | .long y :: .long x :: r => some (.long (x - y) :: r) | _ => none
  | .land => match st with | .long y :: .long x :: r => some (.long (x &&& y) :: r) | _ => none
  | .lor => match st with | .long y :: .long x :: r => some (.long (x ||| y) :: r) | _ => none
  | .lxor => match st with | .long y :: .long x :: r => some (.long (x ^^^ y) :: r) | _ => none
  | .ldiv => match st with | .long y :: .long x :: r => if y = 0 then none else some (.long (x / y) :: r) | _ => none
  | .lrem => match st with | .long y :: .long x :: r => if y = 0 then none else some (.long (x - x / y * y) :: r) | _ => none
  | .lshl => match st with | .int y :: .long x :: r => some (.long (x <<< (y.toInt64 &&& 63)) :: r) | _ => none
  | .lshr => match st with | .int y :: .long x :: r => some (.long (x >>> (y.toInt64 &&& 63)) :: r) | _ => none
  | .lushr => match st with | .int y :: .long x :: r => some (.long (x.toUInt64 >>> (y.toInt64.toUInt64 &&& Int64.toUInt64 63)).toInt64 :: r) | _ => none
  | .lcmp => match st with | .long y :: .long x :: r => some (.int (lg_cmp x y) :: r) | _ => none
  | .i2l => match st with | .int x :: r => some (.long x.toInt64 :: r) | _ => none
  | .l2i => match st with | .long x :: r => some (.int x.toInt32 :: r) | _ => none
  | .i2b => match st with | .int x :: r => some (.int x.toInt8.toInt32 :: r) | _ => none
  | .i2s => match st with | .int x :: r => some (.int x.toInt16.toInt32 :: r) | _ => none
  | .i2c => match st with | .int x :: r => some (.int (x.toUInt32 % 65536).toInt32 :: r) | _ => none
  | .dup => match st with | v :: r => if v.category = 1 then some (v :: v :: r) else none | _ => none
  | .pop => match st with | v :: r => if v.category = 1 then some r else none | _ => none
  | .dup2 => match st with | v :: w :: r => if v.category = 1 ∧ w.category = 1 then some (v :: w :: v :: w :: r) else none | _ => none
  | _ => none
def mx_len (ins : Jvm.ClassFile.Instr) : Nat := match ins with
  | .aload _ => 2
  | .iload _ => 2
  | .lload _ => 2
  | .astore _ => 2
  | .istore _ => 2
  | .lstore _ => 2
  | .bipush _ => 2
  | .ldc _ => 2
  | .newarray _ => 2
  | .sipush _ => 3
  | .getfield _ => 3
  | .putfield _ => 3
  | .invokevirtual _ => 3
  | .invokespecial _ => 3
  | .invokestatic _ => 3
  | .new _ => 3
  | .anewarray _ => 3
  | .checkcast _ => 3
  | .goto _ => 3
  | .ifCond _ _ => 3
  | .if_icmp _ _ => 3
  | .ifnull _ => 3
  | .ifnonnull _ => 3
  | .iinc _ _ => 3
  | .ldc_w _ => 3
  | .ldc2_w _ => 3
  | _ => 1
def mx_tg (pc : Nat) (o : Int) : Option Nat := if 0 ≤ (pc : Int) + o then some ((pc : Int) + o).toNat else none
def mx_tsw (d lo hi : Int) (offs : Array Int) (pc : Nat) (x : Int32) : Option Nat :=
  if x.toInt < lo ∨ hi < x.toInt then mx_tg pc d else match offs[(x.toInt - lo).toNat]? with
    | some o => mx_tg pc o
    | none => none
/-- a field of that type may hold it -/
def mx_fit (ty : FieldType) (v : Value) : Bool := match ty, v with
  | .int, .int _ => true
  | .boolean, .int x => decide (x = 0 ∨ x = 1)
  | .object _, .ref _ => true
  | .object _, .null => true
  | .array _, .ref _ => true
  | .array _, .null => true
  | _, _ => false
def mx_def (ty : FieldType) : Value := match ty with
  | .int => .int 0
  | .boolean => .int 0
  | _ => .null
/-- the component's class of an array of references, by the array's kind: 0 ints, 1 booleans, 2 chars, 3 .. -/
def mx_el (t : Nat) : Nat := match t with
  | 3 => 2
  | 4 => 6
  | 5 => 5
  | _ => 98
def mx_cats (st : List Value) : Nat := (st.map fun v => v.category).sum
end
section
/-! ===== names, fields, methods, links, code tables: printed by a program out of the claim's own listing ===== -/
def RX0 : String := "BeachIsRelaid$Beach"
def TX0 : u_T := fun k => match k with
  | 0 => ("BeachIsRelaid$Beach", "marks", "[I", true)
  | 1 => ("BeachIsRelaid$Beach", "plans", "[I", true)
  | 2 => ("BeachIsRelaid$Beach", "crew", "[LBeachIsRelaid$One;", true)
  | 3 => ("BeachIsRelaid$Beach", "size", "I", false)
  | 4 => ("BeachIsRelaid$Beach", "tide", "I", false)
  | _ => ("BeachIsRelaid$Beach", "rule", "I", false)
def tyX0 : Nat → FieldType := fun k => match k with
  | 0 => .array .int
  | 1 => .array .int
  | 2 => .array (.object "BeachIsRelaid$One")
  | 3 => .int
  | 4 => .int
  | _ => .int
theorem nmX0 : ∀ a, a < 6 → ∀ b, b < 6 → a ≠ b → (TX0 a).2.1 ≠ (TX0 b).2.1 := by decide +kernel
theorem tyX0_ok : ∀ k, k < 6 → parseFieldDescriptor (TX0 k).2.2.1 = some (tyX0 k) := by decide +kernel
def RX1 : String := "BeachIsRelaid$Night"
def TX1 : u_T := fun k => match k with
  | 0 => ("BeachIsRelaid$Night", "spent", "I", false)
  | _ => ("BeachIsRelaid$Night", "relaid", "I", false)
def tyX1 : Nat → FieldType := fun k => match k with
  | 0 => .int
  | _ => .int
theorem nmX1 : ∀ a, a < 2 → ∀ b, b < 2 → a ≠ b → (TX1 a).2.1 ≠ (TX1 b).2.1 := by decide +kernel
theorem tyX1_ok : ∀ k, k < 2 → parseFieldDescriptor (TX1 k).2.2.1 = some (tyX1 k) := by decide +kernel
def RX2 : String := "BeachIsRelaid$One"
def TX2 : u_T := fun k => match k with
  | 0 => ("BeachIsRelaid$One", "kind", "I", false)
  | 1 => ("BeachIsRelaid$One", "number", "I", false)
  | 2 => ("BeachIsRelaid$One", "at", "I", false)
  | _ => ("BeachIsRelaid$One", "laid", "I", false)
def tyX2 : Nat → FieldType := fun k => match k with
  | 0 => .int
  | 1 => .int
  | 2 => .int
  | _ => .int
theorem nmX2 : ∀ a, a < 4 → ∀ b, b < 4 → a ≠ b → (TX2 a).2.1 ≠ (TX2 b).2.1 := by decide +kernel
theorem tyX2_ok : ∀ k, k < 4 → parseFieldDescriptor (TX2 k).2.2.1 = some (tyX2 k) := by decide +kernel
def RX3 : String := "BeachIsRelaid$Reader"
def TX3 : u_T := fun k => match k with
  | 0 => ("BeachIsRelaid$Reader", "tape", "[I", true)
  | 1 => ("BeachIsRelaid$Reader", "size", "I", false)
  | 2 => ("BeachIsRelaid$Reader", "tokens", "[I", true)
  | 3 => ("BeachIsRelaid$Reader", "places", "[I", true)
  | 4 => ("BeachIsRelaid$Reader", "next", "I", false)
  | 5 => ("BeachIsRelaid$Reader", "open", "I", false)
  | 6 => ("BeachIsRelaid$Reader", "code", "[I", true)
  | 7 => ("BeachIsRelaid$Reader", "length", "I", false)
  | 8 => ("BeachIsRelaid$Reader", "ends", "[I", true)
  | _ => ("BeachIsRelaid$Reader", "fault", "I", false)
def tyX3 : Nat → FieldType := fun k => match k with
  | 0 => .array .int
  | 1 => .int
  | 2 => .array .int
  | 3 => .array .int
  | 4 => .int
  | 5 => .int
  | 6 => .array .int
  | 7 => .int
  | 8 => .array .int
  | _ => .int
theorem nmX3 : ∀ a, a < 10 → ∀ b, b < 10 → a ≠ b → (TX3 a).2.1 ≠ (TX3 b).2.1 := by decide +kernel
theorem tyX3_ok : ∀ k, k < 10 → parseFieldDescriptor (TX3 k).2.2.1 = some (tyX3 k) := by decide +kernel
def RX4 : String := "BeachIsRelaid$Rules"
def TX4 : u_T := fun k => match k with
  | 0 => ("BeachIsRelaid$Rules", "texts", "[LBeachIsRelaid$Text;", true)
  | 1 => ("BeachIsRelaid$Rules", "many", "I", false)
  | 2 => ("BeachIsRelaid$Rules", "said", "[I", true)
  | 3 => ("BeachIsRelaid$Rules", "stack", "[I", true)
  | _ => ("BeachIsRelaid$Rules", "left", "[I", true)
def tyX4 : Nat → FieldType := fun k => match k with
  | 0 => .array (.object "BeachIsRelaid$Text")
  | 1 => .int
  | 2 => .array .int
  | 3 => .array .int
  | _ => .array .int
theorem nmX4 : ∀ a, a < 5 → ∀ b, b < 5 → a ≠ b → (TX4 a).2.1 ≠ (TX4 b).2.1 := by decide +kernel
theorem tyX4_ok : ∀ k, k < 5 → parseFieldDescriptor (TX4 k).2.2.1 = some (tyX4 k) := by decide +kernel
def RX5 : String := "BeachIsRelaid$Sheet"
def TX5 : u_T := fun k => match k with
  | 0 => ("BeachIsRelaid$Sheet", "items", "[I", true)
  | 1 => ("BeachIsRelaid$Sheet", "sort", "I", false)
  | _ => ("BeachIsRelaid$Sheet", "size", "I", false)
def tyX5 : Nat → FieldType := fun k => match k with
  | 0 => .array .int
  | 1 => .int
  | _ => .int
theorem nmX5 : ∀ a, a < 3 → ∀ b, b < 3 → a ≠ b → (TX5 a).2.1 ≠ (TX5 b).2.1 := by decide +kernel
theorem tyX5_ok : ∀ k, k < 3 → parseFieldDescriptor (TX5 k).2.2.1 = some (tyX5 k) := by decide +kernel
def RX6 : String := "BeachIsRelaid$Text"
def TX6 : u_T := fun k => match k with
  | 0 => ("BeachIsRelaid$Text", "code", "[I", true)
  | _ => ("BeachIsRelaid$Text", "ends", "[I", true)
def tyX6 : Nat → FieldType := fun k => match k with
  | 0 => .array .int
  | _ => .array .int
theorem nmX6 : ∀ a, a < 2 → ∀ b, b < 2 → a ≠ b → (TX6 a).2.1 ≠ (TX6 b).2.1 := by decide +kernel
theorem tyX6_ok : ∀ k, k < 2 → parseFieldDescriptor (TX6 k).2.2.1 = some (tyX6 k) := by decide +kernel
def RX7 : String := "BeachIsRelaid$Ways"
def TX7 : u_T := fun k => match k with
  | 0 => ("BeachIsRelaid$Ways", "cells", "[I", true)
  | 1 => ("BeachIsRelaid$Ways", "many", "I", false)
  | 2 => ("BeachIsRelaid$Ways", "ahead", "[I", true)
  | 3 => ("BeachIsRelaid$Ways", "cost", "[I", true)
  | 4 => ("BeachIsRelaid$Ways", "goals", "[I", true)
  | 5 => ("BeachIsRelaid$Ways", "minutes", "I", false)
  | _ => ("BeachIsRelaid$Ways", "first", "I", false)
def tyX7 : Nat → FieldType := fun k => match k with
  | 0 => .array .int
  | 1 => .int
  | 2 => .array .int
  | 3 => .array .int
  | 4 => .array .int
  | 5 => .int
  | _ => .int
theorem nmX7 : ∀ a, a < 7 → ∀ b, b < 7 → a ≠ b → (TX7 a).2.1 ≠ (TX7 b).2.1 := by decide +kernel
theorem tyX7_ok : ∀ k, k < 7 → parseFieldDescriptor (TX7 k).2.2.1 = some (tyX7 k) := by decide +kernel
def RX8 : String := "BeachIsRelaid"
def TX8 : u_T := fun k => match k with
  | 0 => ("BeachIsRelaid", "now", "LBeachIsRelaid$Beach;", true)
  | 1 => ("BeachIsRelaid", "thought", "LBeachIsRelaid$Beach;", true)
  | 2 => ("BeachIsRelaid", "kept", "LBeachIsRelaid$Beach;", true)
  | 3 => ("BeachIsRelaid", "isKept", "Z", false)
  | 4 => ("BeachIsRelaid", "reader", "LBeachIsRelaid$Reader;", true)
  | 5 => ("BeachIsRelaid", "rules", "LBeachIsRelaid$Rules;", true)
  | 6 => ("BeachIsRelaid", "nightWork", "LBeachIsRelaid$Night;", true)
  | 7 => ("BeachIsRelaid", "ways", "LBeachIsRelaid$Ways;", true)
  | _ => ("BeachIsRelaid", "sheets", "[LBeachIsRelaid$Sheet;", true)
def tyX8 : Nat → FieldType := fun k => match k with
  | 0 => .object "BeachIsRelaid$Beach"
  | 1 => .object "BeachIsRelaid$Beach"
  | 2 => .object "BeachIsRelaid$Beach"
  | 3 => .boolean
  | 4 => .object "BeachIsRelaid$Reader"
  | 5 => .object "BeachIsRelaid$Rules"
  | 6 => .object "BeachIsRelaid$Night"
  | 7 => .object "BeachIsRelaid$Ways"
  | _ => .array (.object "BeachIsRelaid$Sheet")
theorem nmX8 : ∀ a, a < 9 → ∀ b, b < 9 → a ≠ b → (TX8 a).2.1 ≠ (TX8 b).2.1 := by decide +kernel
theorem tyX8_ok : ∀ k, k < 9 → parseFieldDescriptor (TX8 k).2.2.1 = some (tyX8 k) := by decide +kernel
def RX9 : String := "BeachIsRelaidModel"
def TX9 : u_T := fun k => match k with
  | 0 => ("BeachIsRelaidModel", "now", "[I", true)
  | 1 => ("BeachIsRelaidModel", "kept", "[I", true)
  | 2 => ("BeachIsRelaidModel", "mind", "[I", true)
  | 3 => ("BeachIsRelaidModel", "isKept", "Z", false)
  | 4 => ("BeachIsRelaidModel", "tape", "[I", true)
  | 5 => ("BeachIsRelaidModel", "size", "I", false)
  | 6 => ("BeachIsRelaidModel", "at", "I", false)
  | 7 => ("BeachIsRelaidModel", "from", "I", false)
  | 8 => ("BeachIsRelaidModel", "sort", "I", false)
  | 9 => ("BeachIsRelaidModel", "open", "I", false)
  | 10 => ("BeachIsRelaidModel", "code", "[I", true)
  | 11 => ("BeachIsRelaidModel", "ends", "[I", true)
  | 12 => ("BeachIsRelaidModel", "texts", "I", false)
  | 13 => ("BeachIsRelaidModel", "wrote", "I", false)
  | 14 => ("BeachIsRelaidModel", "names", "[C", true)
  | 15 => ("BeachIsRelaidModel", "waiting", "[I", true)
  | 16 => ("BeachIsRelaidModel", "waits", "I", false)
  | 17 => ("BeachIsRelaidModel", "row", "[I", true)
  | 18 => ("BeachIsRelaidModel", "itsKind", "I", false)
  | 19 => ("BeachIsRelaidModel", "itsNumber", "I", false)
  | 20 => ("BeachIsRelaidModel", "rule", "I", false)
  | 21 => ("BeachIsRelaidModel", "leftThere", "[I", true)
  | 22 => ("BeachIsRelaidModel", "been", "[Z", true)
  | 23 => ("BeachIsRelaidModel", "spent", "I", false)
  | 24 => ("BeachIsRelaidModel", "there", "[I", true)
  | 25 => ("BeachIsRelaidModel", "over", "[I", true)
  | 26 => ("BeachIsRelaidModel", "wanted", "I", false)
  | 27 => ("BeachIsRelaidModel", "least", "I", false)
  | 28 => ("BeachIsRelaidModel", "first", "I", false)
  | 29 => ("BeachIsRelaidModel", "sent", "[I", true)
  | 30 => ("BeachIsRelaidModel", "best", "[I", true)
  | 31 => ("BeachIsRelaidModel", "sorts", "[I", true)
  | 32 => ("BeachIsRelaidModel", "sizes", "[I", true)
  | 33 => ("BeachIsRelaidModel", "cells", "[I", true)
  | 34 => ("BeachIsRelaidModel", "moved", "[I", true)
  | _ => ("BeachIsRelaidModel", "above", "[I", true)
def tyX9 : Nat → FieldType := fun k => match k with
  | 0 => .array .int
  | 1 => .array .int
  | 2 => .array .int
  | 3 => .boolean
  | 4 => .array .int
  | 5 => .int
  | 6 => .int
  | 7 => .int
  | 8 => .int
  | 9 => .int
  | 10 => .array .int
  | 11 => .array .int
  | 12 => .int
  | 13 => .int
  | 14 => .array .char
  | 15 => .array .int
  | 16 => .int
  | 17 => .array .int
  | 18 => .int
  | 19 => .int
  | 20 => .int
  | 21 => .array .int
  | 22 => .array .boolean
  | 23 => .int
  | 24 => .array .int
  | 25 => .array .int
  | 26 => .int
  | 27 => .int
  | 28 => .int
  | 29 => .array .int
  | 30 => .array .int
  | 31 => .array .int
  | 32 => .array .int
  | 33 => .array .int
  | 34 => .array .int
  | _ => .array .int
theorem nmX9 : ∀ a, a < 36 → ∀ b, b < 36 → a ≠ b → (TX9 a).2.1 ≠ (TX9 b).2.1 := by decide +kernel
theorem tyX9_ok : ∀ k, k < 36 → parseFieldDescriptor (TX9 k).2.2.1 = some (tyX9 k) := by decide +kernel
def mx_cnl : List String := [RX0, RX1, RX2, RX3, RX4, RX5, RX6, RX7, RX8, RX9, "BeachIsRelaidLaw", "java/lang/Integer", "java/lang/Long"]
def mx_cn (c : Nat) : String := mx_cnl.getD c ""
abbrev mx_cl : List vw_C := [(RX0, TX0, 6), (RX1, TX1, 2), (RX2, TX2, 4), (RX3, TX3, 10), (RX4, TX4, 5), (RX5, TX5, 3), (RX6, TX6, 2), (RX7, TX7, 7), (RX8, TX8, 9), (RX9, TX9, 36)]
def mx_tyl : List (Nat → FieldType) := [tyX0, tyX1, tyX2, tyX3, tyX4, tyX5, tyX6, tyX7, tyX8, tyX9]
def mx_tyf (a : Nat) : FieldType := (mx_tyl.getD (a / 100) (fun _ => .int)) (a % 100)
def mx_fin (a : Nat) : Bool := match mx_cl[a / 100]? with
  | some r => (r.2.1 (a % 100)).2.2.2
  | none => true
def mx_nf (c : Nat) : Nat := match mx_cl[c]? with
  | some r => r.2.2
  | none => 0
def mx_defs (c : Nat) : List Value := (List.range (mx_nf c)).map (fun i => mx_def (mx_tyf (c * 100 + i)))
def mx_strs : List (String × Nat × String) := [("BeachIsRelaid", 61, "takes 2 + mark ; lays mark ; leaves 0 ;"), ("BeachIsRelaid$Reader", 100, "mark"), ("BeachIsRelaid$Reader", 106, "row"), ("BeachIsRelaid$Reader", 108, "column"), ("BeachIsRelaid$Reader", 110, "tide"), ("BeachIsRelaid$Reader", 112, "number"), ("BeachIsRelaid$Reader", 114, "beside"), ("BeachIsRelaid$Reader", 116, "takes"), ("BeachIsRelaid$Reader", 118, "lays"), ("BeachIsRelaid$Reader", 120, "leaves"), ("BeachIsRelaid$Reader", 122, "or"), ("BeachIsRelaid$Reader", 124, "and"), ("BeachIsRelaid$Reader", 126, "not")]
def mx_byt : List (List Int32) := [[116, 97, 107, 101, 115, 32, 50, 32, 43, 32, 109, 97, 114, 107, 32, 59, 32, 108, 97, 121, 115, 32, 109, 97, 114, 107, 32, 59, 32, 108, 101, 97, 118, 101, 115, 32, 48, 32, 59], [109, 97, 114, 107], [114, 111, 119], [99, 111, 108, 117, 109, 110], [116, 105, 100, 101], [110, 117, 109, 98, 101, 114], [98, 101, 115, 105, 100, 101], [116, 97, 107, 101, 115], [108, 97, 121, 115], [108, 101, 97, 118, 101, 115], [111, 114], [97, 110, 100], [110, 111, 116]]
def mx_nst : List (String × Nat × MethodName) := [("BeachIsRelaid$Beach", 24, ⟨"BeachIsRelaid$One", "<init>", "()V"⟩), ("BeachIsRelaid", 28, ⟨"BeachIsRelaid$Reader", "<init>", "()V"⟩), ("BeachIsRelaid", 35, ⟨"BeachIsRelaid$Rules", "<init>", "()V"⟩), ("BeachIsRelaid", 42, ⟨"BeachIsRelaid$Night", "<init>", "()V"⟩), ("BeachIsRelaid", 49, ⟨"BeachIsRelaid$Ways", "<init>", "()V"⟩), ("BeachIsRelaid", 60, ⟨"BeachIsRelaid$Sheet", "<init>", "()V"⟩), ("BeachIsRelaid$Reader", 37, ⟨"BeachIsRelaid", "bound", "(III)I"⟩), ("BeachIsRelaid$Beach", 57, ⟨"BeachIsRelaid", "isCell", "(I)Z"⟩), ("BeachIsRelaid$Rules", 53, ⟨"BeachIsRelaid", "bound", "(III)I"⟩), ("BeachIsRelaid$Rules", 73, ⟨"BeachIsRelaid", "apart", "(II)I"⟩), ("BeachIsRelaid$Rules", 63, ⟨"BeachIsRelaid", "isCell", "(I)Z"⟩), ("BeachIsRelaid$Beach", 71, ⟨"BeachIsRelaid", "bit", "(I)J"⟩), ("BeachIsRelaid$Beach", 75, ⟨"BeachIsRelaid", "has", "(JI)Z"⟩), ("BeachIsRelaid$Beach", 79, ⟨"BeachIsRelaid", "apart", "(II)I"⟩), ("BeachIsRelaid$Night", 38, ⟨"BeachIsRelaid", "bit", "(I)J"⟩), ("BeachIsRelaid$Rules", 101, ⟨"BeachIsRelaid", "bit", "(I)J"⟩), ("BeachIsRelaid$Sheet", 30, ⟨"BeachIsRelaid", "isCell", "(I)Z"⟩), ("BeachIsRelaid$Sheet", 34, ⟨"BeachIsRelaid", "has", "(JI)Z"⟩), ("BeachIsRelaid$Sheet", 38, ⟨"BeachIsRelaid", "bit", "(I)J"⟩), ("BeachIsRelaid$Ways", 57, ⟨"BeachIsRelaid", "apart", "(II)I"⟩), ("BeachIsRelaid$Sheet", 19, ⟨"BeachIsRelaid", "bound", "(III)I"⟩)]
abbrev mx_Me : Type := Nat × MethodName × ByteArray × Nat × Option FieldType × Nat
def mx_m0 : mx_Me := (0, ⟨"BeachIsRelaid$Beach", "<init>", "()V"⟩, prog_2_method_1_code, 2, none, 0)
def mx_m1 : mx_Me := (0, ⟨"BeachIsRelaid$Beach", "become", "(LBeachIsRelaid$Beach;)V"⟩, prog_2_method_2_code, 3, none, 1)
def mx_m2 : mx_Me := (0, ⟨"BeachIsRelaid$Beach", "member", "(I)LBeachIsRelaid$One;"⟩, prog_2_method_3_code, 2, (some (.object "BeachIsRelaid$One")), 1)
def mx_m3 : mx_Me := (0, ⟨"BeachIsRelaid$Beach", "join", "(III)I"⟩, prog_2_method_4_code, 5, (some .int), 3)
def mx_m4 : mx_Me := (0, ⟨"BeachIsRelaid$Beach", "planOf", "(I)I"⟩, prog_2_method_5_code, 2, (some .int), 1)
def mx_m5 : mx_Me := (0, ⟨"BeachIsRelaid$Beach", "isWrong", "(I)Z"⟩, prog_2_method_6_code, 2, (some .boolean), 1)
def mx_m6 : mx_Me := (0, ⟨"BeachIsRelaid$Beach", "wrongCells", "()I"⟩, prog_2_method_7_code, 1, (some .int), 0)
def mx_m7 : mx_Me := (0, ⟨"BeachIsRelaid$Beach", "wrongBits", "()J"⟩, prog_2_method_8_code, 4, (some .long), 0)
def mx_m8 : mx_Me := (0, ⟨"BeachIsRelaid$Beach", "firstWrong", "()I"⟩, prog_2_method_9_code, 2, (some .int), 0)
def mx_m9 : mx_Me := (0, ⟨"BeachIsRelaid$Beach", "wrongBeside", "(I)I"⟩, prog_2_method_10_code, 4, (some .int), 1)
def mx_m10 : mx_Me := (0, ⟨"BeachIsRelaid$Beach", "nearestWrong", "(IJ)I"⟩, prog_2_method_11_code, 7, (some .int), 2)
def mx_m11 : mx_Me := (0, ⟨"BeachIsRelaid$Beach", "liesAs", "(LBeachIsRelaid$Sheet;)Z"⟩, prog_2_method_12_code, 3, (some .boolean), 1)
def mx_m12 : mx_Me := (1, ⟨"BeachIsRelaid$Night", "<init>", "()V"⟩, prog_3_method_1_code, 1, none, 0)
def mx_m13 : mx_Me := (1, ⟨"BeachIsRelaid$Night", "pass", "(LBeachIsRelaid$Beach;LBeachIsRelaid$One;LBeachIsRelaid$Rules;I)V"⟩, prog_3_method_2_code, 9, none, 4)
def mx_m14 : mx_Me := (2, ⟨"BeachIsRelaid$One", "<init>", "()V"⟩, prog_4_method_1_code, 1, none, 0)
def mx_m15 : mx_Me := (2, ⟨"BeachIsRelaid$One", "become", "(LBeachIsRelaid$One;)V"⟩, prog_4_method_2_code, 2, none, 1)
def mx_m16 : mx_Me := (2, ⟨"BeachIsRelaid$One", "takesBy", "(II)I"⟩, prog_4_method_3_code, 3, (some .int), 2)
def mx_m17 : mx_Me := (2, ⟨"BeachIsRelaid$One", "laysBy", "(III)I"⟩, prog_4_method_4_code, 5, (some .int), 3)
def mx_m18 : mx_Me := (3, ⟨"BeachIsRelaid$Reader", "<init>", "()V"⟩, prog_5_method_1_code, 1, none, 0)
def mx_m19 : mx_Me := (3, ⟨"BeachIsRelaid$Reader", "take", "(I)I"⟩, prog_5_method_2_code, 2, (some .int), 1)
def mx_m20 : mx_Me := (3, ⟨"BeachIsRelaid$Reader", "forget", "()V"⟩, prog_5_method_3_code, 1, none, 0)
def mx_m21 : mx_Me := (3, ⟨"BeachIsRelaid$Reader", "made", "()LBeachIsRelaid$Text;"⟩, prog_5_method_4_code, 3, (some (.object "BeachIsRelaid$Text")), 0)
def mx_m22 : mx_Me := (3, ⟨"BeachIsRelaid$Reader", "readTape", "()V"⟩, prog_5_method_5_code, 2, none, 0)
def mx_m23 : mx_Me := (3, ⟨"BeachIsRelaid$Reader", "split", "()V"⟩, prog_5_method_6_code, 4, none, 0)
def mx_m24 : mx_Me := (3, ⟨"BeachIsRelaid$Reader", "byteAt", "(I)I"⟩, prog_5_method_7_code, 2, (some .int), 1)
def mx_m25 : mx_Me := (3, ⟨"BeachIsRelaid$Reader", "behindBlanks", "(I)I"⟩, prog_5_method_8_code, 4, (some .int), 1)
def mx_m26 : mx_Me := (3, ⟨"BeachIsRelaid$Reader", "endOf", "(I)I"⟩, prog_5_method_9_code, 4, (some .int), 1)
def mx_m27 : mx_Me := (3, ⟨"BeachIsRelaid$Reader", "isLetter", "(I)Z"⟩, prog_5_method_10_code, 1, (some .boolean), 1)
def mx_m28 : mx_Me := (3, ⟨"BeachIsRelaid$Reader", "isDigit", "(I)Z"⟩, prog_5_method_11_code, 1, (some .boolean), 1)
def mx_m29 : mx_Me := (3, ⟨"BeachIsRelaid$Reader", "tokenOf", "(II)I"⟩, prog_5_method_12_code, 4, (some .int), 2)
def mx_m30 : mx_Me := (3, ⟨"BeachIsRelaid$Reader", "numberOf", "(II)I"⟩, prog_5_method_13_code, 5, (some .int), 2)
def mx_m31 : mx_Me := (3, ⟨"BeachIsRelaid$Reader", "wordOf", "(II)I"⟩, prog_5_method_14_code, 3, (some .int), 2)
def mx_m32 : mx_Me := (3, ⟨"BeachIsRelaid$Reader", "spells", "(IILjava/lang/String;)Z"⟩, prog_5_method_15_code, 5, (some .boolean), 3)
def mx_m33 : mx_Me := (3, ⟨"BeachIsRelaid$Reader", "token", "()I"⟩, prog_5_method_16_code, 1, (some .int), 0)
def mx_m34 : mx_Me := (3, ⟨"BeachIsRelaid$Reader", "fail", "()V"⟩, prog_5_method_17_code, 1, none, 0)
def mx_m35 : mx_Me := (3, ⟨"BeachIsRelaid$Reader", "expect", "(I)V"⟩, prog_5_method_18_code, 2, none, 1)
def mx_m36 : mx_Me := (3, ⟨"BeachIsRelaid$Reader", "emit", "(I)V"⟩, prog_5_method_19_code, 2, none, 1)
def mx_m37 : mx_Me := (3, ⟨"BeachIsRelaid$Reader", "opens", "()Z"⟩, prog_5_method_20_code, 1, (some .boolean), 0)
def mx_m38 : mx_Me := (3, ⟨"BeachIsRelaid$Reader", "levelOf", "(I)I"⟩, prog_5_method_21_code, 1, (some .int), 1)
def mx_m39 : mx_Me := (3, ⟨"BeachIsRelaid$Reader", "chain", "(I)V"⟩, prog_5_method_22_code, 4, none, 1)
def mx_m40 : mx_Me := (3, ⟨"BeachIsRelaid$Reader", "operand", "(I)V"⟩, prog_5_method_23_code, 2, none, 1)
def mx_m41 : mx_Me := (3, ⟨"BeachIsRelaid$Reader", "negation", "()V"⟩, prog_5_method_24_code, 2, none, 0)
def mx_m42 : mx_Me := (3, ⟨"BeachIsRelaid$Reader", "single", "()V"⟩, prog_5_method_25_code, 2, none, 0)
def mx_m43 : mx_Me := (4, ⟨"BeachIsRelaid$Rules", "<init>", "()V"⟩, prog_6_method_1_code, 1, none, 0)
def mx_m44 : mx_Me := (4, ⟨"BeachIsRelaid$Rules", "add", "(LBeachIsRelaid$Text;)I"⟩, prog_6_method_2_code, 2, (some .int), 1)
def mx_m45 : mx_Me := (4, ⟨"BeachIsRelaid$Rules", "textAt", "(I)LBeachIsRelaid$Text;"⟩, prog_6_method_3_code, 2, (some (.object "BeachIsRelaid$Text")), 1)
def mx_m46 : mx_Me := (4, ⟨"BeachIsRelaid$Rules", "takesOf", "(LBeachIsRelaid$Beach;LBeachIsRelaid$One;I)I"⟩, prog_6_method_4_code, 6, (some .int), 3)
def mx_m47 : mx_Me := (4, ⟨"BeachIsRelaid$Rules", "laysOf", "(LBeachIsRelaid$Beach;LBeachIsRelaid$One;I)I"⟩, prog_6_method_5_code, 6, (some .int), 3)
def mx_m48 : mx_Me := (4, ⟨"BeachIsRelaid$Rules", "leftOf", "(LBeachIsRelaid$Beach;I)I"⟩, prog_6_method_6_code, 3, (some .int), 2)
def mx_m49 : mx_Me := (4, ⟨"BeachIsRelaid$Rules", "minutesOf", "(LBeachIsRelaid$Beach;LBeachIsRelaid$One;I)I"⟩, prog_6_method_7_code, 4, (some .int), 3)
def mx_m50 : mx_Me := (4, ⟨"BeachIsRelaid$Rules", "lay", "(LBeachIsRelaid$Beach;LBeachIsRelaid$One;I)I"⟩, prog_6_method_8_code, 5, (some .int), 3)
def mx_m51 : mx_Me := (4, ⟨"BeachIsRelaid$Rules", "flood", "(LBeachIsRelaid$Beach;I)V"⟩, prog_6_method_9_code, 5, none, 2)
def mx_m52 : mx_Me := (4, ⟨"BeachIsRelaid$Rules", "trueCells", "(LBeachIsRelaid$Beach;LBeachIsRelaid$One;)J"⟩, prog_6_method_10_code, 6, (some .long), 2)
def mx_m53 : mx_Me := (4, ⟨"BeachIsRelaid$Rules", "say", "(LBeachIsRelaid$Beach;III)V"⟩, prog_6_method_11_code, 5, none, 4)
def mx_m54 : mx_Me := (4, ⟨"BeachIsRelaid$Rules", "worth", "(II)I"⟩, prog_6_method_12_code, 9, (some .int), 2)
def mx_m55 : mx_Me := (4, ⟨"BeachIsRelaid$Rules", "joined", "(III)I"⟩, prog_6_method_13_code, 3, (some .int), 3)
def mx_m56 : mx_Me := (5, ⟨"BeachIsRelaid$Sheet", "<init>", "()V"⟩, prog_7_method_1_code, 1, none, 0)
def mx_m57 : mx_Me := (5, ⟨"BeachIsRelaid$Sheet", "isThere", "()Z"⟩, prog_7_method_2_code, 1, (some .boolean), 0)
def mx_m58 : mx_Me := (5, ⟨"BeachIsRelaid$Sheet", "become", "(II)V"⟩, prog_7_method_3_code, 4, none, 2)
def mx_m59 : mx_Me := (5, ⟨"BeachIsRelaid$Sheet", "item", "(I)I"⟩, prog_7_method_4_code, 2, (some .int), 1)
def mx_m60 : mx_Me := (5, ⟨"BeachIsRelaid$Sheet", "put", "(II)V"⟩, prog_7_method_5_code, 3, none, 2)
def mx_m61 : mx_Me := (5, ⟨"BeachIsRelaid$Sheet", "tellsCellsOnce", "()Z"⟩, prog_7_method_6_code, 5, (some .boolean), 0)
def mx_m62 : mx_Me := (6, ⟨"BeachIsRelaid$Text", "<init>", "([I[I)V"⟩, prog_8_method_1_code, 3, none, 2)
def mx_m63 : mx_Me := (7, ⟨"BeachIsRelaid$Ways", "<init>", "()V"⟩, prog_9_method_1_code, 1, none, 0)
def mx_m64 : mx_Me := (7, ⟨"BeachIsRelaid$Ways", "find", "(LBeachIsRelaid$Beach;)Z"⟩, prog_9_method_2_code, 3, (some .boolean), 1)
def mx_m65 : mx_Me := (7, ⟨"BeachIsRelaid$Ways", "order", "(LBeachIsRelaid$Beach;LBeachIsRelaid$One;LBeachIsRelaid$Rules;)V"⟩, prog_9_method_3_code, 8, none, 3)
def mx_m66 : mx_Me := (7, ⟨"BeachIsRelaid$Ways", "wayAhead", "(II)I"⟩, prog_9_method_4_code, 6, (some .int), 2)
def mx_m67 : mx_Me := (7, ⟨"BeachIsRelaid$Ways", "send", "(LBeachIsRelaid$Beach;LBeachIsRelaid$Rules;)V"⟩, prog_9_method_5_code, 8, none, 2)
def mx_m68 : mx_Me := (7, ⟨"BeachIsRelaid$Ways", "weigh", "(LBeachIsRelaid$Beach;LBeachIsRelaid$Rules;I)V"⟩, prog_9_method_6_code, 7, none, 3)
def mx_m69 : mx_Me := (7, ⟨"BeachIsRelaid$Ways", "costAhead", "(II)I"⟩, prog_9_method_7_code, 5, (some .int), 2)
def mx_m70 : mx_Me := (7, ⟨"BeachIsRelaid$Ways", "costBy", "(III)I"⟩, prog_9_method_8_code, 6, (some .int), 3)
def mx_m71 : mx_Me := (7, ⟨"BeachIsRelaid$Ways", "follow", "(I)V"⟩, prog_9_method_9_code, 6, none, 1)
def mx_m72 : mx_Me := (7, ⟨"BeachIsRelaid$Ways", "goalOf", "(I)I"⟩, prog_9_method_10_code, 2, (some .int), 1)
def mx_m73 : mx_Me := (7, ⟨"BeachIsRelaid$Ways", "cellAt", "(I)I"⟩, prog_9_method_11_code, 2, (some .int), 1)
def mx_m74 : mx_Me := (7, ⟨"BeachIsRelaid$Ways", "aheadAt", "(I)I"⟩, prog_9_method_12_code, 2, (some .int), 1)
def mx_m75 : mx_Me := (7, ⟨"BeachIsRelaid$Ways", "setAhead", "(II)V"⟩, prog_9_method_13_code, 3, none, 2)
def mx_m76 : mx_Me := (8, ⟨"BeachIsRelaid", "<init>", "()V"⟩, prog_1_method_1_code, 2, none, 0)
def mx_m77 : mx_Me := (8, ⟨"BeachIsRelaid", "set", "(III)I"⟩, prog_1_method_2_code, 6, (some .int), 3)
def mx_m78 : mx_Me := (8, ⟨"BeachIsRelaid", "mostOf", "(I)I"⟩, prog_1_method_3_code, 1, (some .int), 1)
def mx_m79 : mx_Me := (8, ⟨"BeachIsRelaid", "staff", "(III)I"⟩, prog_1_method_4_code, 4, (some .int), 3)
def mx_m80 : mx_Me := (8, ⟨"BeachIsRelaid", "told", "(II)I"⟩, prog_1_method_5_code, 4, (some .int), 2)
def mx_m81 : mx_Me := (8, ⟨"BeachIsRelaid", "asks", "(III)I"⟩, prog_1_method_6_code, 5, (some .int), 3)
def mx_m82 : mx_Me := (8, ⟨"BeachIsRelaid", "feed", "(I)I"⟩, prog_1_method_7_code, 2, (some .int), 1)
def mx_m83 : mx_Me := (8, ⟨"BeachIsRelaid", "text", "()I"⟩, prog_1_method_8_code, 1, (some .int), 0)
def mx_m84 : mx_Me := (8, ⟨"BeachIsRelaid", "force", "(I)I"⟩, prog_1_method_9_code, 3, (some .int), 1)
def mx_m85 : mx_Me := (8, ⟨"BeachIsRelaid", "tide", "(I)I"⟩, prog_1_method_10_code, 2, (some .int), 1)
def mx_m86 : mx_Me := (8, ⟨"BeachIsRelaid", "relay", "(II)I"⟩, prog_1_method_11_code, 4, (some .int), 2)
def mx_m87 : mx_Me := (8, ⟨"BeachIsRelaid", "night", "(II)I"⟩, prog_1_method_12_code, 4, (some .int), 2)
def mx_m88 : mx_Me := (8, ⟨"BeachIsRelaid", "run", "(III)I"⟩, prog_1_method_13_code, 5, (some .int), 3)
def mx_m89 : mx_Me := (8, ⟨"BeachIsRelaid", "wrong", "(I)J"⟩, prog_1_method_14_code, 3, (some .long), 1)
def mx_m90 : mx_Me := (8, ⟨"BeachIsRelaid", "shore", "(I)I"⟩, prog_1_method_15_code, 2, (some .int), 1)
def mx_m91 : mx_Me := (8, ⟨"BeachIsRelaid", "heaps", "(J)I"⟩, prog_1_method_16_code, 6, (some .int), 1)
def mx_m92 : mx_Me := (8, ⟨"BeachIsRelaid", "greatestHeap", "(J)I"⟩, prog_1_method_17_code, 8, (some .int), 1)
def mx_m93 : mx_Me := (8, ⟨"BeachIsRelaid", "heapWith", "(JI)J"⟩, prog_1_method_18_code, 8, (some .long), 2)
def mx_m94 : mx_Me := (8, ⟨"BeachIsRelaid", "withBeside", "(J)J"⟩, prog_1_method_19_code, 4, (some .long), 1)
def mx_m95 : mx_Me := (8, ⟨"BeachIsRelaid", "worstReach", "()I"⟩, prog_1_method_20_code, 5, (some .int), 0)
def mx_m96 : mx_Me := (8, ⟨"BeachIsRelaid", "wrongBehind", "(I)I"⟩, prog_1_method_21_code, 2, (some .int), 1)
def mx_m97 : mx_Me := (8, ⟨"BeachIsRelaid", "tour", "(II)I"⟩, prog_1_method_22_code, 7, (some .int), 2)
def mx_m98 : mx_Me := (8, ⟨"BeachIsRelaid", "soonest", "(II)I"⟩, prog_1_method_23_code, 4, (some .int), 2)
def mx_m99 : mx_Me := (8, ⟨"BeachIsRelaid", "together", "(I)I"⟩, prog_1_method_24_code, 3, (some .int), 1)
def mx_m100 : mx_Me := (8, ⟨"BeachIsRelaid", "nearest", "(II)I"⟩, prog_1_method_25_code, 8, (some .int), 2)
def mx_m101 : mx_Me := (8, ⟨"BeachIsRelaid", "share", "(II)J"⟩, prog_1_method_26_code, 6, (some .long), 2)
def mx_m102 : mx_Me := (8, ⟨"BeachIsRelaid", "fraction", "(III)J"⟩, prog_1_method_27_code, 4, (some .long), 3)
def mx_m103 : mx_Me := (8, ⟨"BeachIsRelaid", "common", "(II)I"⟩, prog_1_method_28_code, 6, (some .int), 2)
def mx_m104 : mx_Me := (8, ⟨"BeachIsRelaid", "tells", "(III)I"⟩, prog_1_method_29_code, 6, (some .int), 3)
def mx_m105 : mx_Me := (8, ⟨"BeachIsRelaid", "firstOther", "(LBeachIsRelaid$Sheet;LBeachIsRelaid$One;)I"⟩, prog_1_method_30_code, 4, (some .int), 2)
def mx_m106 : mx_Me := (8, ⟨"BeachIsRelaid", "kindsOf", "(LBeachIsRelaid$Sheet;LBeachIsRelaid$One;)I"⟩, prog_1_method_31_code, 5, (some .int), 2)
def mx_m107 : mx_Me := (8, ⟨"BeachIsRelaid", "numbersOf", "(LBeachIsRelaid$Sheet;LBeachIsRelaid$One;)I"⟩, prog_1_method_32_code, 5, (some .int), 2)
def mx_m108 : mx_Me := (8, ⟨"BeachIsRelaid", "tidesOf", "(LBeachIsRelaid$Sheet;LBeachIsRelaid$One;)I"⟩, prog_1_method_33_code, 5, (some .int), 2)
def mx_m109 : mx_Me := (8, ⟨"BeachIsRelaid", "leastTideOf", "(LBeachIsRelaid$Sheet;LBeachIsRelaid$One;)I"⟩, prog_1_method_34_code, 4, (some .int), 2)
def mx_m110 : mx_Me := (8, ⟨"BeachIsRelaid", "textsOf", "(LBeachIsRelaid$Sheet;LBeachIsRelaid$One;)I"⟩, prog_1_method_35_code, 5, (some .int), 2)
def mx_m111 : mx_Me := (8, ⟨"BeachIsRelaid", "reachesOf", "(LBeachIsRelaid$Sheet;)I"⟩, prog_1_method_36_code, 4, (some .int), 1)
def mx_m112 : mx_Me := (8, ⟨"BeachIsRelaid", "film", "(III)I"⟩, prog_1_method_37_code, 7, (some .int), 3)
def mx_m113 : mx_Me := (8, ⟨"BeachIsRelaid", "drawn", "(I)I"⟩, prog_1_method_38_code, 2, (some .int), 1)
def mx_m114 : mx_Me := (8, ⟨"BeachIsRelaid", "reachOf", "(I)I"⟩, prog_1_method_39_code, 2, (some .int), 1)
def mx_m115 : mx_Me := (8, ⟨"BeachIsRelaid", "chance", "(IIII)J"⟩, prog_1_method_40_code, 7, (some .long), 4)
def mx_m116 : mx_Me := (8, ⟨"BeachIsRelaid", "image", "()I"⟩, prog_1_method_41_code, 1, (some .int), 0)
def mx_m117 : mx_Me := (8, ⟨"BeachIsRelaid", "back", "()I"⟩, prog_1_method_42_code, 1, (some .int), 0)
def mx_m118 : mx_Me := (8, ⟨"BeachIsRelaid", "count", "(I)I"⟩, prog_1_method_43_code, 2, (some .int), 1)
def mx_m119 : mx_Me := (8, ⟨"BeachIsRelaid", "sheet", "(III)I"⟩, prog_1_method_44_code, 5, (some .int), 3)
def mx_m120 : mx_Me := (8, ⟨"BeachIsRelaid", "cell", "(III)I"⟩, prog_1_method_45_code, 5, (some .int), 3)
def mx_m121 : mx_Me := (8, ⟨"BeachIsRelaid", "copy", "(IIIII)I"⟩, prog_1_method_46_code, 8, (some .int), 5)
def mx_m122 : mx_Me := (8, ⟨"BeachIsRelaid", "crew", "(IIII)I"⟩, prog_1_method_47_code, 10, (some .int), 4)
def mx_m123 : mx_Me := (8, ⟨"BeachIsRelaid", "taken", "(II)I"⟩, prog_1_method_48_code, 6, (some .int), 2)
def mx_m124 : mx_Me := (8, ⟨"BeachIsRelaid", "above", "(I)I"⟩, prog_1_method_49_code, 1, (some .int), 1)
def mx_m125 : mx_Me := (8, ⟨"BeachIsRelaid", "sheetAt", "(I)LBeachIsRelaid$Sheet;"⟩, prog_1_method_50_code, 2, (some (.object "BeachIsRelaid$Sheet")), 1)
def mx_m126 : mx_Me := (8, ⟨"BeachIsRelaid", "isCell", "(I)Z"⟩, prog_1_method_51_code, 1, (some .boolean), 1)
def mx_m127 : mx_Me := (8, ⟨"BeachIsRelaid", "apart", "(II)I"⟩, prog_1_method_52_code, 2, (some .int), 2)
def mx_m128 : mx_Me := (8, ⟨"BeachIsRelaid", "bit", "(I)J"⟩, prog_1_method_53_code, 1, (some .long), 1)
def mx_m129 : mx_Me := (8, ⟨"BeachIsRelaid", "has", "(JI)Z"⟩, prog_1_method_54_code, 3, (some .boolean), 2)
def mx_m130 : mx_Me := (8, ⟨"BeachIsRelaid", "bound", "(III)I"⟩, prog_1_method_55_code, 3, (some .int), 3)
def mx_m131 : mx_Me := (9, ⟨"BeachIsRelaidModel", "<init>", "()V"⟩, prog_11_method_1_code, 1, none, 0)
def mx_m132 : mx_Me := (9, ⟨"BeachIsRelaidModel", "isIn", "(III)Z"⟩, prog_11_method_2_code, 3, (some .boolean), 3)
def mx_m133 : mx_Me := (9, ⟨"BeachIsRelaidModel", "bound", "(III)I"⟩, prog_11_method_3_code, 3, (some .int), 3)
def mx_m134 : mx_Me := (9, ⟨"BeachIsRelaidModel", "keep", "([I)V"⟩, prog_11_method_4_code, 3, none, 1)
def mx_m135 : mx_Me := (9, ⟨"BeachIsRelaidModel", "lay", "([I)V"⟩, prog_11_method_5_code, 3, none, 1)
def mx_m136 : mx_Me := (9, ⟨"BeachIsRelaidModel", "many", "()I"⟩, prog_11_method_6_code, 1, (some .int), 0)
def mx_m137 : mx_Me := (9, ⟨"BeachIsRelaidModel", "isOne", "(I)Z"⟩, prog_11_method_7_code, 2, (some .boolean), 1)
def mx_m138 : mx_Me := (9, ⟨"BeachIsRelaidModel", "isCell", "(I)Z"⟩, prog_11_method_8_code, 1, (some .boolean), 1)
def mx_m139 : mx_Me := (9, ⟨"BeachIsRelaidModel", "isWrong", "(I)Z"⟩, prog_11_method_9_code, 2, (some .boolean), 1)
def mx_m140 : mx_Me := (9, ⟨"BeachIsRelaidModel", "apart", "(II)I"⟩, prog_11_method_10_code, 2, (some .int), 2)
def mx_m141 : mx_Me := (9, ⟨"BeachIsRelaidModel", "at", "(I)I"⟩, prog_11_method_11_code, 2, (some .int), 1)
def mx_m142 : mx_Me := (9, ⟨"BeachIsRelaidModel", "place", "(II)I"⟩, prog_11_method_12_code, 3, (some .int), 2)
def mx_m143 : mx_Me := (9, ⟨"BeachIsRelaidModel", "set", "(III)I"⟩, prog_11_method_13_code, 5, (some .int), 3)
def mx_m144 : mx_Me := (9, ⟨"BeachIsRelaidModel", "staff", "(III)I"⟩, prog_11_method_14_code, 5, (some .int), 3)
def mx_m145 : mx_Me := (9, ⟨"BeachIsRelaidModel", "told", "(II)I"⟩, prog_11_method_15_code, 3, (some .int), 2)
def mx_m146 : mx_Me := (9, ⟨"BeachIsRelaidModel", "firstText", "()I"⟩, prog_11_method_16_code, 1, (some .int), 0)
def mx_m147 : mx_Me := (9, ⟨"BeachIsRelaidModel", "feed", "(I)I"⟩, prog_11_method_17_code, 2, (some .int), 1)
def mx_m148 : mx_Me := (9, ⟨"BeachIsRelaidModel", "sortAt", "(I)I"⟩, prog_11_method_18_code, 2, (some .int), 1)
def mx_m149 : mx_Me := (9, ⟨"BeachIsRelaidModel", "next", "()V"⟩, prog_11_method_19_code, 1, none, 0)
def mx_m150 : mx_Me := (9, ⟨"BeachIsRelaidModel", "word", "()I"⟩, prog_11_method_20_code, 5, (some .int), 0)
def mx_m151 : mx_Me := (9, ⟨"BeachIsRelaidModel", "isSign", "(I)Z"⟩, prog_11_method_21_code, 2, (some .boolean), 1)
def mx_m152 : mx_Me := (9, ⟨"BeachIsRelaidModel", "write", "(I)V"⟩, prog_11_method_22_code, 2, none, 1)
def mx_m153 : mx_Me := (9, ⟨"BeachIsRelaidModel", "rank", "(I)I"⟩, prog_11_method_23_code, 1, (some .int), 1)
def mx_m154 : mx_Me := (9, ⟨"BeachIsRelaidModel", "await", "(I)V"⟩, prog_11_method_24_code, 2, none, 1)
def mx_m155 : mx_Me := (9, ⟨"BeachIsRelaidModel", "last", "()I"⟩, prog_11_method_25_code, 1, (some .int), 0)
def mx_m156 : mx_Me := (9, ⟨"BeachIsRelaidModel", "settle", "(I)V"⟩, prog_11_method_26_code, 2, none, 1)
def mx_m157 : mx_Me := (9, ⟨"BeachIsRelaidModel", "between", "()I"⟩, prog_11_method_27_code, 2, (some .int), 0)
def mx_m158 : mx_Me := (9, ⟨"BeachIsRelaidModel", "numberThere", "()I"⟩, prog_11_method_28_code, 3, (some .int), 0)
def mx_m159 : mx_Me := (9, ⟨"BeachIsRelaidModel", "begin", "()I"⟩, prog_11_method_29_code, 3, (some .int), 0)
def mx_m160 : mx_Me := (9, ⟨"BeachIsRelaidModel", "isE", "()Z"⟩, prog_11_method_30_code, 3, (some .boolean), 0)
def mx_m161 : mx_Me := (9, ⟨"BeachIsRelaidModel", "isText", "()Z"⟩, prog_11_method_31_code, 2, (some .boolean), 0)
def mx_m162 : mx_Me := (9, ⟨"BeachIsRelaidModel", "text", "()I"⟩, prog_11_method_32_code, 2, (some .int), 0)
def mx_m163 : mx_Me := (9, ⟨"BeachIsRelaidModel", "force", "(I)I"⟩, prog_11_method_33_code, 3, (some .int), 1)
def mx_m164 : mx_Me := (9, ⟨"BeachIsRelaidModel", "yes", "(Z)I"⟩, prog_11_method_34_code, 1, (some .int), 1)
def mx_m165 : mx_Me := (9, ⟨"BeachIsRelaidModel", "deed", "(III)I"⟩, prog_11_method_35_code, 3, (some .int), 3)
def mx_m166 : mx_Me := (9, ⟨"BeachIsRelaidModel", "tell", "(II)I"⟩, prog_11_method_36_code, 10, (some .int), 2)
def mx_m167 : mx_Me := (9, ⟨"BeachIsRelaidModel", "beside", "(I)I"⟩, prog_11_method_37_code, 4, (some .int), 1)
def mx_m168 : mx_Me := (9, ⟨"BeachIsRelaidModel", "take", "(I)V"⟩, prog_11_method_38_code, 2, none, 1)
def mx_m169 : mx_Me := (9, ⟨"BeachIsRelaidModel", "takes", "(I)I"⟩, prog_11_method_39_code, 4, (some .int), 1)
def mx_m170 : mx_Me := (9, ⟨"BeachIsRelaidModel", "lays", "(I)I"⟩, prog_11_method_40_code, 5, (some .int), 1)
def mx_m171 : mx_Me := (9, ⟨"BeachIsRelaidModel", "minutes", "(II)I"⟩, prog_11_method_41_code, 3, (some .int), 2)
def mx_m172 : mx_Me := (9, ⟨"BeachIsRelaidModel", "asks", "(III)I"⟩, prog_11_method_42_code, 4, (some .int), 3)
def mx_m173 : mx_Me := (9, ⟨"BeachIsRelaidModel", "flow", "(I)V"⟩, prog_11_method_43_code, 3, none, 1)
def mx_m174 : mx_Me := (9, ⟨"BeachIsRelaidModel", "wrongs", "()I"⟩, prog_11_method_44_code, 3, (some .int), 0)
def mx_m175 : mx_Me := (9, ⟨"BeachIsRelaidModel", "tide", "(I)I"⟩, prog_11_method_45_code, 2, (some .int), 1)
def mx_m176 : mx_Me := (9, ⟨"BeachIsRelaidModel", "laid", "(II)I"⟩, prog_11_method_46_code, 4, (some .int), 2)
def mx_m177 : mx_Me := (9, ⟨"BeachIsRelaidModel", "relay", "(II)I"⟩, prog_11_method_47_code, 3, (some .int), 2)
def mx_m178 : mx_Me := (9, ⟨"BeachIsRelaidModel", "clear", "()V"⟩, prog_11_method_48_code, 2, none, 0)
def mx_m179 : mx_Me := (9, ⟨"BeachIsRelaidModel", "go", "(II)I"⟩, prog_11_method_49_code, 7, (some .int), 2)
def mx_m180 : mx_Me := (9, ⟨"BeachIsRelaidModel", "night", "(II)I"⟩, prog_11_method_50_code, 3, (some .int), 2)
def mx_m181 : mx_Me := (9, ⟨"BeachIsRelaidModel", "run", "(III)I"⟩, prog_11_method_51_code, 6, (some .int), 3)
def mx_m182 : mx_Me := (9, ⟨"BeachIsRelaidModel", "heap", "(I)J"⟩, prog_11_method_52_code, 8, (some .long), 1)
def mx_m183 : mx_Me := (9, ⟨"BeachIsRelaidModel", "wrong", "(I)J"⟩, prog_11_method_53_code, 5, (some .long), 1)
def mx_m184 : mx_Me := (9, ⟨"BeachIsRelaidModel", "worst", "(I)I"⟩, prog_11_method_54_code, 6, (some .int), 1)
def mx_m185 : mx_Me := (9, ⟨"BeachIsRelaidModel", "behindTide", "(I)I"⟩, prog_11_method_55_code, 3, (some .int), 1)
def mx_m186 : mx_Me := (9, ⟨"BeachIsRelaidModel", "shore", "(I)I"⟩, prog_11_method_56_code, 10, (some .int), 1)
def mx_m187 : mx_Me := (9, ⟨"BeachIsRelaidModel", "tour", "(II)I"⟩, prog_11_method_57_code, 5, (some .int), 2)
def mx_m188 : mx_Me := (9, ⟨"BeachIsRelaidModel", "isMany", "()Z"⟩, prog_11_method_58_code, 2, (some .boolean), 0)
def mx_m189 : mx_Me := (9, ⟨"BeachIsRelaidModel", "orders", "(IIII)V"⟩, prog_11_method_59_code, 6, none, 4)
def mx_m190 : mx_Me := (9, ⟨"BeachIsRelaidModel", "soonest", "(II)I"⟩, prog_11_method_60_code, 4, (some .int), 2)
def mx_m191 : mx_Me := (9, ⟨"BeachIsRelaidModel", "send", "(IIII)V"⟩, prog_11_method_61_code, 6, none, 4)
def mx_m192 : mx_Me := (9, ⟨"BeachIsRelaidModel", "together", "(I)I"⟩, prog_11_method_62_code, 4, (some .int), 1)
def mx_m193 : mx_Me := (9, ⟨"BeachIsRelaidModel", "nearest", "(II)I"⟩, prog_11_method_63_code, 7, (some .int), 2)
def mx_m194 : mx_Me := (9, ⟨"BeachIsRelaidModel", "gcd", "(JJ)J"⟩, prog_11_method_64_code, 4, (some .long), 2)
def mx_m195 : mx_Me := (9, ⟨"BeachIsRelaidModel", "share", "(II)J"⟩, prog_11_method_65_code, 7, (some .long), 2)
def mx_m196 : mx_Me := (9, ⟨"BeachIsRelaidModel", "isSheet", "(I)Z"⟩, prog_11_method_66_code, 1, (some .boolean), 1)
def mx_m197 : mx_Me := (9, ⟨"BeachIsRelaidModel", "sheet", "(III)I"⟩, prog_11_method_67_code, 5, (some .int), 3)
def mx_m198 : mx_Me := (9, ⟨"BeachIsRelaidModel", "cell", "(III)I"⟩, prog_11_method_68_code, 4, (some .int), 3)
def mx_m199 : mx_Me := (9, ⟨"BeachIsRelaidModel", "copy", "(IIIII)I"⟩, prog_11_method_69_code, 7, (some .int), 5)
def mx_m200 : mx_Me := (9, ⟨"BeachIsRelaidModel", "crew", "(IIII)I"⟩, prog_11_method_70_code, 9, (some .int), 4)
def mx_m201 : mx_Me := (9, ⟨"BeachIsRelaidModel", "taken", "(II)I"⟩, prog_11_method_71_code, 4, (some .int), 2)
def mx_m202 : mx_Me := (9, ⟨"BeachIsRelaidModel", "otherwise", "(I)I"⟩, prog_11_method_72_code, 3, (some .int), 1)
def mx_m203 : mx_Me := (9, ⟨"BeachIsRelaidModel", "tides", "(IZ)I"⟩, prog_11_method_73_code, 8, (some .int), 2)
def mx_m204 : mx_Me := (9, ⟨"BeachIsRelaidModel", "isBehind", "(II)Z"⟩, prog_11_method_74_code, 5, (some .boolean), 2)
def mx_m205 : mx_Me := (9, ⟨"BeachIsRelaidModel", "tells", "(III)I"⟩, prog_11_method_75_code, 8, (some .int), 3)
def mx_m206 : mx_Me := (9, ⟨"BeachIsRelaidModel", "film", "(III)I"⟩, prog_11_method_76_code, 5, (some .int), 3)
def mx_m207 : mx_Me := (9, ⟨"BeachIsRelaidModel", "drawn", "(I)I"⟩, prog_11_method_77_code, 3, (some .int), 1)
def mx_m208 : mx_Me := (9, ⟨"BeachIsRelaidModel", "chance", "(IIII)J"⟩, prog_11_method_78_code, 9, (some .long), 4)
def mx_m209 : mx_Me := (9, ⟨"BeachIsRelaidModel", "image", "()I"⟩, prog_11_method_79_code, 1, (some .int), 0)
def mx_m210 : mx_Me := (9, ⟨"BeachIsRelaidModel", "back", "()I"⟩, prog_11_method_80_code, 1, (some .int), 0)
def mx_m211 : mx_Me := (9, ⟨"BeachIsRelaidModel", "count", "(I)I"⟩, prog_11_method_81_code, 2, (some .int), 1)
def mx_m212 : mx_Me := (11, ⟨"java/lang/Integer", "bitCount", "(I)I"⟩, prog_13_method_49_code, 1, (some .int), 1)
def mx_m213 : mx_Me := (12, ⟨"java/lang/Long", "bitCount", "(J)I"⟩, prog_14_method_50_code, 2, (some .int), 1)
def mx_m214 : mx_Me := (10, ⟨"BeachIsRelaidLaw", "law", "([I)Z"⟩, code, 4, (some .boolean), 1)
def mx_M_0 : List mx_Me := [mx_m0, mx_m1, mx_m2, mx_m3, mx_m4, mx_m5, mx_m6, mx_m7, mx_m8, mx_m9, mx_m10, mx_m11, mx_m12, mx_m13, mx_m14, mx_m15, mx_m16, mx_m17, mx_m18, mx_m19, mx_m20, mx_m21, mx_m22, mx_m23, mx_m24, mx_m25, mx_m26, mx_m27, mx_m28, mx_m29, mx_m30, mx_m31]
def mx_M_1 : List mx_Me := [mx_m32, mx_m33, mx_m34, mx_m35, mx_m36, mx_m37, mx_m38, mx_m39, mx_m40, mx_m41, mx_m42, mx_m43, mx_m44, mx_m45, mx_m46, mx_m47, mx_m48, mx_m49, mx_m50, mx_m51, mx_m52, mx_m53, mx_m54, mx_m55, mx_m56, mx_m57, mx_m58, mx_m59, mx_m60, mx_m61, mx_m62, mx_m63]
def mx_M_2 : List mx_Me := [mx_m64, mx_m65, mx_m66, mx_m67, mx_m68, mx_m69, mx_m70, mx_m71, mx_m72, mx_m73, mx_m74, mx_m75, mx_m76, mx_m77, mx_m78, mx_m79, mx_m80, mx_m81, mx_m82, mx_m83, mx_m84, mx_m85, mx_m86, mx_m87, mx_m88, mx_m89, mx_m90, mx_m91, mx_m92, mx_m93, mx_m94, mx_m95]
def mx_M_3 : List mx_Me := [mx_m96, mx_m97, mx_m98, mx_m99, mx_m100, mx_m101, mx_m102, mx_m103, mx_m104, mx_m105, mx_m106, mx_m107, mx_m108, mx_m109, mx_m110, mx_m111, mx_m112, mx_m113, mx_m114, mx_m115, mx_m116, mx_m117, mx_m118, mx_m119, mx_m120, mx_m121, mx_m122, mx_m123, mx_m124, mx_m125, mx_m126, mx_m127]
def mx_M_4 : List mx_Me := [mx_m128, mx_m129, mx_m130, mx_m131, mx_m132, mx_m133, mx_m134, mx_m135, mx_m136, mx_m137, mx_m138, mx_m139, mx_m140, mx_m141, mx_m142, mx_m143, mx_m144, mx_m145, mx_m146, mx_m147, mx_m148, mx_m149, mx_m150, mx_m151, mx_m152, mx_m153, mx_m154, mx_m155, mx_m156, mx_m157, mx_m158, mx_m159]
def mx_M_5 : List mx_Me := [mx_m160, mx_m161, mx_m162, mx_m163, mx_m164, mx_m165, mx_m166, mx_m167, mx_m168, mx_m169, mx_m170, mx_m171, mx_m172, mx_m173, mx_m174, mx_m175, mx_m176, mx_m177, mx_m178, mx_m179, mx_m180, mx_m181, mx_m182, mx_m183, mx_m184, mx_m185, mx_m186, mx_m187, mx_m188, mx_m189, mx_m190, mx_m191]
def mx_M_6 : List mx_Me := [mx_m192, mx_m193, mx_m194, mx_m195, mx_m196, mx_m197, mx_m198, mx_m199, mx_m200, mx_m201, mx_m202, mx_m203, mx_m204, mx_m205, mx_m206, mx_m207, mx_m208, mx_m209, mx_m210, mx_m211, mx_m212, mx_m213, mx_m214]
def mx_M : List (List mx_Me) := [mx_M_0, mx_M_1, mx_M_2, mx_M_3, mx_M_4, mx_M_5, mx_M_6]
def mx_m (k : Nat) : mx_Me := (mx_M.getD (k / 32) []).getD (k % 32) (99, ⟨"", "", ""⟩, ⟨#[]⟩, 0, none, 0)
abbrev mx_mc (k : Nat) : Nat := (mx_m k).1
abbrev mx_my (k : Nat) : MethodName := (mx_m k).2.1
abbrev mx_mb (k : Nat) : ByteArray := (mx_m k).2.2.1
abbrev mx_ml (k : Nat) : Nat := (mx_m k).2.2.2.1
abbrev mx_mr (k : Nat) : Option FieldType := (mx_m k).2.2.2.2.1
abbrev mx_np (k : Nat) : Nat := (mx_m k).2.2.2.2.2
def mx_t0_0 : List (List (Nat × mx_I)) := [[(0, .aload_n 0, 0, 0), (1, .invokespecial 3, 0, 27), (4, .aload_n 0, 0, 0), (5, .bipush 36, 0, 0), (7, .newarray .int, 0, 0), (9, .putfield 9, 0, 0), (12, .aload_n 0, 0, 0), (13, .bipush 36, 0, 0), (15, .newarray .int, 0, 0)], [(17, .putfield 15, 1, 0), (20, .aload_n 0, 0, 0), (21, .iconst 4, 0, 0), (22, .anewarray 18, 3, 0), (25, .putfield 20, 2, 0), (28, .iconst 0, 0, 0), (29, .istore_n 1, 0, 0), (30, .iload_n 1, 0, 0), (31, .iconst 4, 0, 0)], [(32, .if_icmp .ge 22, 54, 0), (35, .aload_n 0, 0, 0), (36, .getfield 20, 2, 0), (39, .iload_n 1, 0, 0), (40, .new 18, 2, 0), (43, .dup, 0, 0), (44, .invokespecial 24, 14, 6), (47, .aastore, 0, 0)], [(48, .iinc 1 1, 0, 0), (51, .goto (-21), 30, 0), (54, .return_, 0, 0)]]
def mx_t0 : List (List (List (Nat × mx_I))) := [mx_t0_0]
def mx_t1_0 : List (List (Nat × mx_I)) := [[(0, .aload_n 1, 0, 0), (1, .getfield 9, 0, 0), (4, .iconst 0, 0, 0), (5, .aload_n 0, 0, 0), (6, .getfield 9, 0, 0), (9, .iconst 0, 0, 0), (10, .bipush 36, 0, 0), (12, .invokestatic 25, 0, 23), (15, .aload_n 1, 0, 0)], [(16, .getfield 15, 1, 0), (19, .iconst 0, 0, 0), (20, .aload_n 0, 0, 0), (21, .getfield 15, 1, 0), (24, .iconst 0, 0, 0), (25, .bipush 36, 0, 0), (27, .invokestatic 25, 0, 23), (30, .iconst 0, 0, 0), (31, .istore_n 2, 0, 0)], [(32, .iload_n 2, 0, 0), (33, .iconst 4, 0, 0), (34, .if_icmp .ge 42, 76, 0), (37, .aload_n 0, 0, 0), (38, .getfield 20, 2, 0), (41, .iload_n 2, 0, 0), (42, .aaload, 0, 0), (43, .ifnull 27, 70, 0), (46, .aload_n 1, 0, 0), (47, .getfield 20, 2, 0)], [(50, .iload_n 2, 0, 0), (51, .aaload, 0, 0), (52, .ifnull 18, 70, 0), (55, .aload_n 0, 0, 0), (56, .getfield 20, 2, 0), (59, .iload_n 2, 0, 0), (60, .aaload, 0, 0), (61, .aload_n 1, 0, 0), (62, .getfield 20, 2, 0)], [(65, .iload_n 2, 0, 0), (66, .aaload, 0, 0), (67, .invokevirtual 31, 15, 1), (70, .iinc 2 1, 0, 0), (73, .goto (-41), 32, 0), (76, .aload_n 0, 0, 0), (77, .aload_n 1, 0, 0), (78, .getfield 35, 3, 0)], [(81, .putfield 35, 3, 0), (84, .aload_n 0, 0, 0), (85, .aload_n 1, 0, 0), (86, .getfield 39, 4, 0), (89, .putfield 39, 4, 0), (92, .aload_n 0, 0, 0), (93, .aload_n 1, 0, 0), (94, .getfield 42, 5, 0)], [(97, .putfield 42, 5, 0), (100, .return_, 0, 0)]]
def mx_t1 : List (List (List (Nat × mx_I))) := [mx_t1_0]
def mx_t2_0 : List (List (Nat × mx_I)) := [[(0, .iload_n 1, 0, 0), (1, .ifCond .lt 25, 26, 0), (4, .iload_n 1, 0, 0), (5, .aload_n 0, 0, 0), (6, .getfield 35, 3, 0), (9, .if_icmp .ge 17, 26, 0), (12, .iload_n 1, 0, 0), (13, .iconst 4, 0, 0), (14, .if_icmp .ge 12, 26, 0)], [(17, .aload_n 0, 0, 0), (18, .getfield 20, 2, 0), (21, .iload_n 1, 0, 0), (22, .aaload, 0, 0), (23, .goto 4, 27, 0), (26, .aconst_null, 0, 0), (27, .areturn, 0, 0)]]
def mx_t2 : List (List (List (Nat × mx_I))) := [mx_t2_0]
def mx_t3_0 : List (List (Nat × mx_I)) := [[(0, .aload_n 0, 0, 0), (1, .getfield 35, 3, 0), (4, .ifCond .lt 23, 27, 0), (7, .aload_n 0, 0, 0), (8, .getfield 35, 3, 0), (11, .iconst 4, 0, 0), (12, .if_icmp .ge 15, 27, 0), (15, .aload_n 0, 0, 0)], [(16, .getfield 20, 2, 0), (19, .aload_n 0, 0, 0), (20, .getfield 35, 3, 0), (23, .aaload, 0, 0), (24, .ifnonnull 6, 30, 0), (27, .bipush (-4), 0, 0), (29, .ireturn, 0, 0), (30, .aload_n 0, 0, 0), (31, .getfield 20, 2, 0)], [(34, .aload_n 0, 0, 0), (35, .getfield 35, 3, 0), (38, .aaload, 0, 0), (39, .astore 4, 0, 0), (41, .aload 4, 0, 0), (43, .iload_n 1, 0, 0), (44, .putfield 45, 200, 0), (47, .aload 4, 0, 0)], [(49, .iload_n 2, 0, 0), (50, .putfield 48, 201, 0), (53, .aload 4, 0, 0), (55, .iload_n 3, 0, 0), (56, .putfield 51, 202, 0), (59, .aload 4, 0, 0), (61, .iconst 0, 0, 0), (62, .putfield 54, 203, 0)], [(65, .aload_n 0, 0, 0), (66, .dup, 0, 0), (67, .getfield 35, 3, 0), (70, .iconst 1, 0, 0), (71, .iadd, 0, 0), (72, .putfield 35, 3, 0), (75, .aload_n 0, 0, 0), (76, .getfield 35, 3, 0), (79, .iconst 1, 0, 0)], [(80, .isub, 0, 0), (81, .ireturn, 0, 0)]]
def mx_t3 : List (List (List (Nat × mx_I))) := [mx_t3_0]
def mx_t4_0 : List (List (Nat × mx_I)) := [[(0, .iload_n 1, 0, 0), (1, .invokestatic 57, 126, 4), (4, .ifCond .eq 12, 16, 0), (7, .aload_n 0, 0, 0), (8, .getfield 15, 1, 0), (11, .iload_n 1, 0, 0), (12, .iaload, 0, 0), (13, .goto 5, 18, 0)], [(16, .bipush (-2), 0, 0), (18, .ireturn, 0, 0)]]
def mx_t4 : List (List (List (Nat × mx_I))) := [mx_t4_0]
def mx_t5_0 : List (List (Nat × mx_I)) := [[(0, .iload_n 1, 0, 0), (1, .invokestatic 57, 126, 4), (4, .ifCond .eq 22, 26, 0), (7, .aload_n 0, 0, 0), (8, .getfield 9, 0, 0), (11, .iload_n 1, 0, 0), (12, .iaload, 0, 0), (13, .aload_n 0, 0, 0), (14, .getfield 15, 1, 0)], [(17, .iload_n 1, 0, 0), (18, .iaload, 0, 0), (19, .if_icmp .eq 7, 26, 0), (22, .iconst 1, 0, 0), (23, .goto 4, 27, 0), (26, .iconst 0, 0, 0), (27, .ireturn, 0, 0)]]
def mx_t5 : List (List (List (Nat × mx_I))) := [mx_t5_0]
def mx_t6_0 : List (List (Nat × mx_I)) := [[(0, .aload_n 0, 0, 0), (1, .invokevirtual 61, 7, 1), (4, .invokestatic 65, 213, 3), (7, .ireturn, 0, 0)]]
def mx_t6 : List (List (List (Nat × mx_I))) := [mx_t6_0]
def mx_t7_0 : List (List (Nat × mx_I)) := [[(0, .lconst 0, 0, 0), (1, .lstore_n 1, 0, 0), (2, .iconst 0, 0, 0), (3, .istore_n 3, 0, 0), (4, .iload_n 3, 0, 0), (5, .bipush 36, 0, 0), (7, .if_icmp .ge 31, 38, 0), (10, .aload_n 0, 0, 0), (11, .getfield 9, 0, 0), (14, .iload_n 3, 0, 0), (15, .iaload, 0, 0)], [(16, .aload_n 0, 0, 0), (17, .getfield 15, 1, 0), (20, .iload_n 3, 0, 0), (21, .iaload, 0, 0), (22, .if_icmp .eq 10, 32, 0), (25, .lload_n 1, 0, 0), (26, .iload_n 3, 0, 0), (27, .invokestatic 71, 128, 4), (30, .lor, 0, 0), (31, .lstore_n 1, 0, 0)], [(32, .iinc 3 1, 0, 0), (35, .goto (-31), 4, 0), (38, .lload_n 1, 0, 0), (39, .lreturn, 0, 0)]]
def mx_t7 : List (List (List (Nat × mx_I))) := [mx_t7_0]
def mx_t8_0 : List (List (Nat × mx_I)) := [[(0, .iconst 0, 0, 0), (1, .istore_n 1, 0, 0), (2, .iload_n 1, 0, 0), (3, .bipush 36, 0, 0), (5, .if_icmp .ge 26, 31, 0), (8, .aload_n 0, 0, 0), (9, .getfield 9, 0, 0), (12, .iload_n 1, 0, 0), (13, .iaload, 0, 0), (14, .aload_n 0, 0, 0), (15, .getfield 15, 1, 0)], [(18, .iload_n 1, 0, 0), (19, .iaload, 0, 0), (20, .if_icmp .eq 5, 25, 0), (23, .iload_n 1, 0, 0), (24, .ireturn, 0, 0), (25, .iinc 1 1, 0, 0), (28, .goto (-26), 2, 0), (31, .iconst (-1), 0, 0)], [(32, .ireturn, 0, 0)]]
def mx_t8 : List (List (List (Nat × mx_I))) := [mx_t8_0]
def mx_t9_0 : List (List (Nat × mx_I)) := [[(0, .iload_n 1, 0, 0), (1, .ifCond .lt 9, 10, 0), (4, .iload_n 1, 0, 0), (5, .bipush 36, 0, 0), (7, .if_icmp .lt 5, 12, 0), (10, .iconst 0, 0, 0), (11, .ireturn, 0, 0), (12, .iload_n 1, 0, 0), (13, .bipush 6, 0, 0), (15, .irem, 0, 0)], [(16, .istore_n 2, 0, 0), (17, .iload_n 1, 0, 0), (18, .bipush 6, 0, 0), (20, .if_icmp .lt 28, 48, 0), (23, .aload_n 0, 0, 0), (24, .getfield 9, 0, 0), (27, .iload_n 1, 0, 0), (28, .bipush 6, 0, 0), (30, .isub, 0, 0), (31, .iaload, 0, 0)], [(32, .aload_n 0, 0, 0), (33, .getfield 15, 1, 0), (36, .iload_n 1, 0, 0), (37, .bipush 6, 0, 0), (39, .isub, 0, 0), (40, .iaload, 0, 0), (41, .if_icmp .eq 7, 48, 0), (44, .iconst 1, 0, 0), (45, .goto 4, 49, 0)], [(48, .iconst 0, 0, 0), (49, .istore_n 3, 0, 0), (50, .iload_n 3, 0, 0), (51, .iload_n 1, 0, 0), (52, .bipush 30, 0, 0), (54, .if_icmp .ge 28, 82, 0), (57, .aload_n 0, 0, 0), (58, .getfield 9, 0, 0), (61, .iload_n 1, 0, 0), (62, .bipush 6, 0, 0)], [(64, .iadd, 0, 0), (65, .iaload, 0, 0), (66, .aload_n 0, 0, 0), (67, .getfield 15, 1, 0), (70, .iload_n 1, 0, 0), (71, .bipush 6, 0, 0), (73, .iadd, 0, 0), (74, .iaload, 0, 0), (75, .if_icmp .eq 7, 82, 0), (78, .iconst 1, 0, 0), (79, .goto 4, 83, 0)], [(82, .iconst 0, 0, 0), (83, .iadd, 0, 0), (84, .istore_n 3, 0, 0), (85, .iload_n 3, 0, 0), (86, .iload_n 2, 0, 0), (87, .ifCond .le 26, 113, 0), (90, .aload_n 0, 0, 0), (91, .getfield 9, 0, 0), (94, .iload_n 1, 0, 0), (95, .iconst 1, 0, 0)], [(96, .isub, 0, 0), (97, .iaload, 0, 0), (98, .aload_n 0, 0, 0), (99, .getfield 15, 1, 0), (102, .iload_n 1, 0, 0), (103, .iconst 1, 0, 0), (104, .isub, 0, 0), (105, .iaload, 0, 0), (106, .if_icmp .eq 7, 113, 0), (109, .iconst 1, 0, 0), (110, .goto 4, 114, 0)], [(113, .iconst 0, 0, 0), (114, .iadd, 0, 0), (115, .istore_n 3, 0, 0), (116, .iload_n 3, 0, 0), (117, .iload_n 2, 0, 0), (118, .iconst 5, 0, 0), (119, .if_icmp .ge 26, 145, 0), (122, .aload_n 0, 0, 0), (123, .getfield 9, 0, 0), (126, .iload_n 1, 0, 0), (127, .iconst 1, 0, 0)]]
def mx_t9_1 : List (List (Nat × mx_I)) := [[(128, .iadd, 0, 0), (129, .iaload, 0, 0), (130, .aload_n 0, 0, 0), (131, .getfield 15, 1, 0), (134, .iload_n 1, 0, 0), (135, .iconst 1, 0, 0), (136, .iadd, 0, 0), (137, .iaload, 0, 0), (138, .if_icmp .eq 7, 145, 0), (141, .iconst 1, 0, 0), (142, .goto 4, 146, 0)], [(145, .iconst 0, 0, 0), (146, .iadd, 0, 0), (147, .istore_n 3, 0, 0), (148, .iload_n 3, 0, 0), (149, .ireturn, 0, 0)]]
def mx_t9 : List (List (List (Nat × mx_I))) := [mx_t9_0, mx_t9_1]
def mx_t10_0 : List (List (Nat × mx_I)) := [[(0, .iconst (-1), 0, 0), (1, .istore 4, 0, 0), (3, .iconst 0, 0, 0), (4, .istore 5, 0, 0), (6, .iload 5, 0, 0), (8, .bipush 36, 0, 0), (10, .if_icmp .ge 72, 82, 0), (13, .aload_n 0, 0, 0), (14, .getfield 9, 0, 0)], [(17, .iload 5, 0, 0), (19, .iaload, 0, 0), (20, .aload_n 0, 0, 0), (21, .getfield 15, 1, 0), (24, .iload 5, 0, 0), (26, .iaload, 0, 0), (27, .if_icmp .eq 16, 43, 0), (30, .lload_n 2, 0, 0), (31, .iload 5, 0, 0)], [(33, .invokestatic 75, 129, 4), (36, .ifCond .ne 7, 43, 0), (39, .iconst 1, 0, 0), (40, .goto 4, 44, 0), (43, .iconst 0, 0, 0), (44, .istore 6, 0, 0), (46, .iload 6, 0, 0)], [(48, .ifCond .eq 28, 76, 0), (51, .iload 4, 0, 0), (53, .iconst (-1), 0, 0), (54, .if_icmp .eq 18, 72, 0), (57, .iload_n 1, 0, 0), (58, .iload 5, 0, 0), (60, .invokestatic 79, 127, 4), (63, .iload_n 1, 0, 0)], [(64, .iload 4, 0, 0), (66, .invokestatic 79, 127, 4), (69, .if_icmp .ge 7, 76, 0), (72, .iload 5, 0, 0), (74, .istore 4, 0, 0), (76, .iinc 5 1, 0, 0), (79, .goto (-73), 6, 0)], [(82, .iload 4, 0, 0), (84, .ireturn, 0, 0)]]
def mx_t10 : List (List (List (Nat × mx_I))) := [mx_t10_0]
def mx_t11_0 : List (List (Nat × mx_I)) := [[(0, .iconst 0, 0, 0), (1, .istore_n 2, 0, 0), (2, .iload_n 2, 0, 0), (3, .aload_n 1, 0, 0), (4, .getfield 83, 502, 0), (7, .if_icmp .ge 31, 38, 0), (10, .iload_n 2, 0, 0), (11, .bipush 36, 0, 0), (13, .if_icmp .ge 25, 38, 0)], [(16, .aload_n 0, 0, 0), (17, .getfield 9, 0, 0), (20, .iload_n 2, 0, 0), (21, .iaload, 0, 0), (22, .aload_n 1, 0, 0), (23, .iload_n 2, 0, 0), (24, .invokevirtual 86, 59, 1), (27, .if_icmp .eq 5, 32, 0), (30, .iconst 0, 0, 0), (31, .ireturn, 0, 0)], [(32, .iinc 2 1, 0, 0), (35, .goto (-33), 2, 0), (38, .iconst 1, 0, 0), (39, .ireturn, 0, 0)]]
def mx_t11 : List (List (List (Nat × mx_I))) := [mx_t11_0]
def mx_t12_0 : List (List (Nat × mx_I)) := [[(0, .aload_n 0, 0, 0), (1, .invokespecial 3, 0, 27), (4, .return_, 0, 0)]]
def mx_t12 : List (List (List (Nat × mx_I))) := [mx_t12_0]
def mx_t13_0 : List (List (Nat × mx_I)) := [[(0, .aload_n 0, 0, 0), (1, .iconst 0, 0, 0), (2, .putfield 9, 100, 0), (5, .aload_n 0, 0, 0), (6, .iconst 0, 0, 0), (7, .putfield 15, 101, 0), (10, .lconst 0, 0, 0), (11, .lstore 5, 0, 0), (13, .iconst 0, 0, 0), (14, .istore 7, 0, 0)], [(16, .iload 7, 0, 0), (18, .bipush 36, 0, 0), (20, .if_icmp .ge 85, 105, 0), (23, .aload_n 1, 0, 0), (24, .aload_n 2, 0, 0), (25, .getfield 18, 202, 0), (28, .lload 5, 0, 0), (30, .invokevirtual 23, 10, 1)], [(33, .istore 8, 0, 0), (35, .iload 8, 0, 0), (37, .iconst (-1), 0, 0), (38, .if_icmp .eq 67, 105, 0), (41, .aload_n 3, 0, 0), (42, .aload_n 1, 0, 0), (43, .aload_n 2, 0, 0), (44, .iload 8, 0, 0), (46, .invokevirtual 29, 49, 1)], [(49, .iload 4, 0, 0), (51, .aload_n 0, 0, 0), (52, .getfield 9, 100, 0), (55, .isub, 0, 0), (56, .if_icmp .le 6, 62, 0), (59, .goto 46, 105, 0), (62, .aload_n 0, 0, 0), (63, .dup, 0, 0)], [(64, .getfield 9, 100, 0), (67, .aload_n 3, 0, 0), (68, .aload_n 1, 0, 0), (69, .aload_n 2, 0, 0), (70, .iload 8, 0, 0), (72, .invokevirtual 35, 50, 1), (75, .iadd, 0, 0), (76, .putfield 9, 100, 0), (79, .aload_n 0, 0, 0)], [(80, .dup, 0, 0), (81, .getfield 15, 101, 0), (84, .iconst 1, 0, 0), (85, .iadd, 0, 0), (86, .putfield 15, 101, 0), (89, .lload 5, 0, 0), (91, .iload 8, 0, 0), (93, .invokestatic 38, 128, 4)], [(96, .lor, 0, 0), (97, .lstore 5, 0, 0), (99, .iinc 7 1, 0, 0), (102, .goto (-86), 16, 0), (105, .return_, 0, 0)]]
def mx_t13 : List (List (List (Nat × mx_I))) := [mx_t13_0]
def mx_t14_0 : List (List (Nat × mx_I)) := [[(0, .aload_n 0, 0, 0), (1, .invokespecial 3, 0, 27), (4, .return_, 0, 0)]]
def mx_t14 : List (List (List (Nat × mx_I))) := [mx_t14_0]
def mx_t15_0 : List (List (Nat × mx_I)) := [[(0, .aload_n 0, 0, 0), (1, .aload_n 1, 0, 0), (2, .getfield 9, 200, 0), (5, .putfield 9, 200, 0), (8, .aload_n 0, 0, 0), (9, .aload_n 1, 0, 0), (10, .getfield 15, 201, 0), (13, .putfield 15, 201, 0)], [(16, .aload_n 0, 0, 0), (17, .aload_n 1, 0, 0), (18, .getfield 18, 202, 0), (21, .putfield 18, 202, 0), (24, .aload_n 0, 0, 0), (25, .aload_n 1, 0, 0), (26, .getfield 21, 203, 0), (29, .putfield 21, 203, 0)], [(32, .return_, 0, 0)]]
def mx_t15 : List (List (List (Nat × mx_I))) := [mx_t15_0]
def mx_t16_0 : List (List (Nat × mx_I)) := [[(0, .aload_n 0, 0, 0), (1, .getfield 9, 200, 0), (4, .tableswitch 81 1 5 #[36, 40, 44, 60, 74], 36, 0)], [], [(40, .iload_n 1, 0, 0), (41, .iconst 2, 0, 0), (42, .idiv, 0, 0), (43, .ireturn, 0, 0), (44, .iconst 2, 0, 0), (45, .iload_n 1, 0, 0), (46, .imul, 0, 0), (47, .ireturn, 0, 0)], [(48, .iload_n 2, 0, 0), (49, .ifCond .ne 11, 60, 0), (52, .iload_n 1, 0, 0), (53, .iconst 2, 0, 0), (54, .idiv, 0, 0), (55, .iconst 1, 0, 0), (56, .iadd, 0, 0), (57, .goto 6, 63, 0), (60, .iload_n 1, 0, 0), (61, .iconst 2, 0, 0), (62, .idiv, 0, 0), (63, .ireturn, 0, 0)], [(64, .iload_n 2, 0, 0), (65, .bipush 9, 0, 0), (67, .if_icmp .ne 7, 74, 0), (70, .iconst 1, 0, 0), (71, .goto 6, 77, 0), (74, .iconst 2, 0, 0), (75, .iload_n 1, 0, 0), (76, .imul, 0, 0), (77, .ireturn, 0, 0), (78, .iload_n 1, 0, 0), (79, .aload_n 0, 0, 0)], [(80, .getfield 15, 201, 0), (83, .iadd, 0, 0), (84, .ireturn, 0, 0), (85, .iload_n 1, 0, 0), (86, .ireturn, 0, 0)]]
def mx_t16 : List (List (List (Nat × mx_I))) := [mx_t16_0]
def mx_t17_0 : List (List (Nat × mx_I)) := [[(0, .iload_n 3, 0, 0), (1, .iconst 2, 0, 0), (2, .irem, 0, 0), (3, .ifCond .eq 14, 17, 0), (6, .iload_n 1, 0, 0), (7, .iconst 1, 0, 0), (8, .iadd, 0, 0), (9, .bipush 9, 0, 0), (11, .invokestatic 24, 0, 21), (14, .goto 4, 18, 0)], [(17, .iload_n 1, 0, 0), (18, .istore 4, 0, 0), (20, .aload_n 0, 0, 0), (21, .getfield 9, 200, 0), (24, .tableswitch 70 1 5 #[36, 57, 39, 57, 59], 36, 0)], [], [(60, .iload 4, 0, 0), (62, .ireturn, 0, 0), (63, .iload_n 3, 0, 0)], [(64, .bipush 6, 0, 0), (66, .idiv, 0, 0), (67, .aload_n 0, 0, 0), (68, .getfield 15, 201, 0), (71, .if_icmp .ne 7, 78, 0), (74, .iconst 0, 0, 0), (75, .goto 5, 80, 0), (78, .iload 4, 0, 0)], [(80, .ireturn, 0, 0), (81, .iload_n 2, 0, 0), (82, .ireturn, 0, 0), (83, .iload_n 1, 0, 0), (84, .iload_n 2, 0, 0), (85, .if_icmp .ne 7, 92, 0), (88, .iload_n 1, 0, 0), (89, .goto 4, 93, 0), (92, .iconst 0, 0, 0), (93, .ireturn, 0, 0), (94, .iload_n 1, 0, 0), (95, .ireturn, 0, 0)]]
def mx_t17 : List (List (List (Nat × mx_I))) := [mx_t17_0]
def mx_t18_0 : List (List (Nat × mx_I)) := [[(0, .aload_n 0, 0, 0), (1, .invokespecial 3, 0, 27), (4, .aload_n 0, 0, 0), (5, .sipush 160, 0, 0), (8, .newarray .int, 0, 0), (10, .putfield 9, 300, 0), (13, .aload_n 0, 0, 0), (14, .sipush 161, 0, 0)], [(17, .newarray .int, 0, 0), (19, .putfield 15, 302, 0), (22, .aload_n 0, 0, 0), (23, .sipush 161, 0, 0), (26, .newarray .int, 0, 0), (28, .putfield 18, 303, 0), (31, .aload_n 0, 0, 0)], [(32, .sipush 160, 0, 0), (35, .newarray .int, 0, 0), (37, .putfield 21, 306, 0), (40, .aload_n 0, 0, 0), (41, .iconst 3, 0, 0), (42, .newarray .int, 0, 0), (44, .putfield 24, 308, 0), (47, .aload_n 0, 0, 0)], [(48, .iconst (-1), 0, 0), (49, .putfield 27, 309, 0), (52, .return_, 0, 0)]]
def mx_t18 : List (List (List (Nat × mx_I))) := [mx_t18_0]
def mx_t19_0 : List (List (Nat × mx_I)) := [[(0, .aload_n 0, 0, 0), (1, .getfield 31, 301, 0), (4, .ifCond .lt 13, 17, 0), (7, .aload_n 0, 0, 0), (8, .getfield 31, 301, 0), (11, .sipush 160, 0, 0), (14, .if_icmp .lt 6, 20, 0)], [(17, .bipush (-4), 0, 0), (19, .ireturn, 0, 0), (20, .aload_n 0, 0, 0), (21, .getfield 9, 300, 0), (24, .aload_n 0, 0, 0), (25, .getfield 31, 301, 0), (28, .iload_n 1, 0, 0), (29, .iastore, 0, 0), (30, .aload_n 0, 0, 0), (31, .dup, 0, 0)], [(32, .getfield 31, 301, 0), (35, .iconst 1, 0, 0), (36, .iadd, 0, 0), (37, .putfield 31, 301, 0), (40, .aload_n 0, 0, 0), (41, .getfield 31, 301, 0), (44, .ireturn, 0, 0)]]
def mx_t19 : List (List (List (Nat × mx_I))) := [mx_t19_0]
def mx_t20_0 : List (List (Nat × mx_I)) := [[(0, .aload_n 0, 0, 0), (1, .iconst 0, 0, 0), (2, .putfield 31, 301, 0), (5, .return_, 0, 0)]]
def mx_t20 : List (List (List (Nat × mx_I))) := [mx_t20_0]
def mx_t21_0 : List (List (Nat × mx_I)) := [[(0, .aload_n 0, 0, 0), (1, .getfield 34, 307, 0), (4, .iconst 0, 0, 0), (5, .sipush 160, 0, 0), (8, .invokestatic 37, 130, 4), (11, .istore_n 1, 0, 0), (12, .iload_n 1, 0, 0), (13, .newarray .int, 0, 0), (15, .astore_n 2, 0, 0)], [(16, .aload_n 0, 0, 0), (17, .getfield 21, 306, 0), (20, .iconst 0, 0, 0), (21, .aload_n 2, 0, 0), (22, .iconst 0, 0, 0), (23, .iload_n 1, 0, 0), (24, .invokestatic 41, 0, 23), (27, .new 47, 6, 0), (30, .dup, 0, 0), (31, .aload_n 2, 0, 0)], [(32, .aload_n 0, 0, 0), (33, .getfield 24, 308, 0), (36, .invokevirtual 49, 0, 24), (39, .checkcast 50, 0, 0), (42, .invokespecial 54, 62, 5), (45, .areturn, 0, 0)]]
def mx_t21 : List (List (List (Nat × mx_I))) := [mx_t21_0]
def mx_t22_0 : List (List (Nat × mx_I)) := [[(0, .aload_n 0, 0, 0), (1, .invokevirtual 57, 23, 1), (4, .aload_n 0, 0, 0), (5, .iconst 0, 0, 0), (6, .putfield 60, 304, 0), (9, .aload_n 0, 0, 0), (10, .iconst 0, 0, 0), (11, .putfield 63, 305, 0), (14, .aload_n 0, 0, 0), (15, .iconst 0, 0, 0)], [(16, .putfield 34, 307, 0), (19, .aload_n 0, 0, 0), (20, .iconst (-1), 0, 0), (21, .putfield 27, 309, 0), (24, .iconst 0, 0, 0), (25, .istore_n 1, 0, 0), (26, .iload_n 1, 0, 0), (27, .iconst 3, 0, 0), (28, .if_icmp .ge 63, 91, 0), (31, .aload_n 0, 0, 0)], [(32, .iload_n 1, 0, 0), (33, .ifCond .ne 8, 41, 0), (36, .bipush (-19), 0, 0), (38, .goto 15, 53, 0), (41, .iload_n 1, 0, 0), (42, .iconst 1, 0, 0), (43, .if_icmp .ne 8, 51, 0), (46, .bipush (-20), 0, 0)], [(48, .goto 5, 53, 0), (51, .bipush (-21), 0, 0), (53, .invokevirtual 66, 35, 1), (56, .aload_n 0, 0, 0), (57, .getfield 27, 309, 0), (60, .iconst (-1), 0, 0), (61, .if_icmp .ne 8, 69, 0)], [(64, .aload_n 0, 0, 0), (65, .iconst 0, 0, 0), (66, .invokevirtual 70, 39, 1), (69, .aload_n 0, 0, 0), (70, .bipush (-18), 0, 0), (72, .invokevirtual 66, 35, 1), (75, .aload_n 0, 0, 0), (76, .getfield 24, 308, 0), (79, .iload_n 1, 0, 0)], [(80, .aload_n 0, 0, 0), (81, .getfield 34, 307, 0), (84, .iastore, 0, 0), (85, .iinc 1 1, 0, 0), (88, .goto (-62), 26, 0), (91, .aload_n 0, 0, 0), (92, .bipush (-22), 0, 0), (94, .invokevirtual 66, 35, 1)], [(97, .return_, 0, 0)]]
def mx_t22 : List (List (List (Nat × mx_I))) := [mx_t22_0]
def mx_t23_0 : List (List (Nat × mx_I)) := [[(0, .iconst 0, 0, 0), (1, .istore_n 1, 0, 0), (2, .iconst 0, 0, 0), (3, .istore_n 2, 0, 0), (4, .iload_n 2, 0, 0), (5, .sipush 160, 0, 0), (8, .if_icmp .gt 65, 73, 0), (11, .aload_n 0, 0, 0), (12, .iload_n 1, 0, 0), (13, .invokevirtual 73, 25, 1)], [(16, .istore_n 1, 0, 0), (17, .aload_n 0, 0, 0), (18, .iload_n 1, 0, 0), (19, .invokevirtual 77, 26, 1), (22, .istore_n 3, 0, 0), (23, .aload_n 0, 0, 0), (24, .getfield 18, 303, 0), (27, .iload_n 2, 0, 0), (28, .iload_n 1, 0, 0), (29, .iastore, 0, 0), (30, .aload_n 0, 0, 0), (31, .getfield 15, 302, 0)], [(34, .iload_n 2, 0, 0), (35, .aload_n 0, 0, 0), (36, .iload_n 1, 0, 0), (37, .iload_n 3, 0, 0), (38, .invokevirtual 80, 29, 1), (41, .iastore, 0, 0), (42, .aload_n 0, 0, 0), (43, .getfield 15, 302, 0), (46, .iload_n 2, 0, 0), (47, .iaload, 0, 0)], [(48, .bipush (-22), 0, 0), (50, .if_icmp .eq 14, 64, 0), (53, .aload_n 0, 0, 0), (54, .getfield 15, 302, 0), (57, .iload_n 2, 0, 0), (58, .iaload, 0, 0), (59, .bipush (-23), 0, 0), (61, .if_icmp .ne 4, 65, 0)], [(64, .return_, 0, 0), (65, .iload_n 3, 0, 0), (66, .istore_n 1, 0, 0), (67, .iinc 2 1, 0, 0), (70, .goto (-66), 4, 0), (73, .return_, 0, 0)]]
def mx_t23 : List (List (List (Nat × mx_I))) := [mx_t23_0]
def mx_t24_0 : List (List (Nat × mx_I)) := [[(0, .iload_n 1, 0, 0), (1, .ifCond .lt 27, 28, 0), (4, .iload_n 1, 0, 0), (5, .aload_n 0, 0, 0), (6, .getfield 31, 301, 0), (9, .if_icmp .ge 19, 28, 0), (12, .iload_n 1, 0, 0), (13, .sipush 160, 0, 0)], [(16, .if_icmp .ge 12, 28, 0), (19, .aload_n 0, 0, 0), (20, .getfield 9, 300, 0), (23, .iload_n 1, 0, 0), (24, .iaload, 0, 0), (25, .goto 4, 29, 0), (28, .iconst (-1), 0, 0), (29, .ireturn, 0, 0)]]
def mx_t24 : List (List (List (Nat × mx_I))) := [mx_t24_0]
def mx_t25_0 : List (List (Nat × mx_I)) := [[(0, .iload_n 1, 0, 0), (1, .istore_n 2, 0, 0), (2, .iconst 0, 0, 0), (3, .istore_n 3, 0, 0), (4, .iload_n 3, 0, 0), (5, .sipush 160, 0, 0), (8, .if_icmp .ge 32, 40, 0), (11, .aload_n 0, 0, 0), (12, .iload_n 2, 0, 0), (13, .invokevirtual 84, 24, 1)], [(16, .bipush 32, 0, 0), (18, .if_icmp .eq 13, 31, 0), (21, .aload_n 0, 0, 0), (22, .iload_n 2, 0, 0), (23, .invokevirtual 84, 24, 1), (26, .bipush 10, 0, 0), (28, .if_icmp .ne 12, 40, 0), (31, .iinc 2 1, 0, 0)], [(34, .iinc 3 1, 0, 0), (37, .goto (-33), 4, 0), (40, .iload_n 2, 0, 0), (41, .ireturn, 0, 0)]]
def mx_t25 : List (List (List (Nat × mx_I))) := [mx_t25_0]
def mx_t26_0 : List (List (Nat × mx_I)) := [[(0, .iload_n 1, 0, 0), (1, .iconst 1, 0, 0), (2, .iadd, 0, 0), (3, .istore_n 2, 0, 0), (4, .aload_n 0, 0, 0), (5, .iload_n 1, 0, 0), (6, .invokevirtual 84, 24, 1), (9, .invokestatic 87, 27, 3), (12, .ifCond .eq 35, 47, 0), (15, .iconst 0, 0, 0)], [(16, .istore_n 3, 0, 0), (17, .iload_n 3, 0, 0), (18, .sipush 160, 0, 0), (21, .if_icmp .ge 23, 44, 0), (24, .aload_n 0, 0, 0), (25, .iload_n 2, 0, 0), (26, .invokevirtual 84, 24, 1), (29, .invokestatic 87, 27, 3)], [(32, .ifCond .eq 12, 44, 0), (35, .iinc 2 1, 0, 0), (38, .iinc 3 1, 0, 0), (41, .goto (-24), 17, 0), (44, .goto 43, 87, 0), (47, .aload_n 0, 0, 0)], [(48, .iload_n 1, 0, 0), (49, .invokevirtual 84, 24, 1), (52, .invokestatic 91, 28, 3), (55, .ifCond .eq 32, 87, 0), (58, .iconst 0, 0, 0), (59, .istore_n 3, 0, 0), (60, .iload_n 3, 0, 0), (61, .sipush 160, 0, 0)], [(64, .if_icmp .ge 23, 87, 0), (67, .aload_n 0, 0, 0), (68, .iload_n 2, 0, 0), (69, .invokevirtual 84, 24, 1), (72, .invokestatic 91, 28, 3), (75, .ifCond .eq 12, 87, 0), (78, .iinc 2 1, 0, 0)], [(81, .iinc 3 1, 0, 0), (84, .goto (-24), 60, 0), (87, .iload_n 2, 0, 0), (88, .ireturn, 0, 0)]]
def mx_t26 : List (List (List (Nat × mx_I))) := [mx_t26_0]
def mx_t27_0 : List (List (Nat × mx_I)) := [[(0, .iload_n 0, 0, 0), (1, .bipush 97, 0, 0), (3, .if_icmp .lt 13, 16, 0), (6, .iload_n 0, 0, 0), (7, .bipush 122, 0, 0), (9, .if_icmp .gt 7, 16, 0), (12, .iconst 1, 0, 0), (13, .goto 4, 17, 0)], [(16, .iconst 0, 0, 0), (17, .ireturn, 0, 0)]]
def mx_t27 : List (List (List (Nat × mx_I))) := [mx_t27_0]
def mx_t28_0 : List (List (Nat × mx_I)) := [[(0, .iload_n 0, 0, 0), (1, .bipush 48, 0, 0), (3, .if_icmp .lt 13, 16, 0), (6, .iload_n 0, 0, 0), (7, .bipush 57, 0, 0), (9, .if_icmp .gt 7, 16, 0), (12, .iconst 1, 0, 0), (13, .goto 4, 17, 0)], [(16, .iconst 0, 0, 0), (17, .ireturn, 0, 0)]]
def mx_t28 : List (List (List (Nat × mx_I))) := [mx_t28_0]
def mx_t29_0 : List (List (Nat × mx_I)) := [[(0, .aload_n 0, 0, 0), (1, .iload_n 1, 0, 0), (2, .invokevirtual 84, 24, 1), (5, .istore_n 3, 0, 0), (6, .iload_n 3, 0, 0), (7, .invokestatic 87, 27, 3), (10, .ifCond .eq 10, 20, 0), (13, .aload_n 0, 0, 0), (14, .iload_n 1, 0, 0), (15, .iload_n 2, 0, 0)], [(16, .invokevirtual 94, 31, 1), (19, .ireturn, 0, 0), (20, .iload_n 3, 0, 0), (21, .invokestatic 91, 28, 3), (24, .ifCond .eq 10, 34, 0), (27, .aload_n 0, 0, 0), (28, .iload_n 1, 0, 0), (29, .iload_n 2, 0, 0), (30, .invokevirtual 97, 30, 1)], [(33, .ireturn, 0, 0), (34, .iload_n 3, 0, 0), (35, .lookupswitch 108 #[(-1, 81), (40, 84), (41, 87), (42, 99), (43, 93), (45, 96), (59, 90), (60, 102), (61, 105)], 81, 0)], [], [], [], [], [(116, .bipush (-22), 0, 0), (118, .ireturn, 0, 0), (119, .bipush (-16), 0, 0), (121, .ireturn, 0, 0), (122, .bipush (-17), 0, 0), (124, .ireturn, 0, 0), (125, .bipush (-18), 0, 0), (127, .ireturn, 0, 0)]]
def mx_t29_1 : List (List (Nat × mx_I)) := [[(128, .bipush (-12), 0, 0), (130, .ireturn, 0, 0), (131, .bipush (-13), 0, 0), (133, .ireturn, 0, 0), (134, .bipush (-14), 0, 0), (136, .ireturn, 0, 0), (137, .bipush (-10), 0, 0), (139, .ireturn, 0, 0), (140, .bipush (-11), 0, 0), (142, .ireturn, 0, 0), (143, .bipush (-23), 0, 0)], [(145, .ireturn, 0, 0)]]
def mx_t29 : List (List (List (Nat × mx_I))) := [mx_t29_0, mx_t29_1]
def mx_t30_0 : List (List (Nat × mx_I)) := [[(0, .iload_n 2, 0, 0), (1, .iload_n 1, 0, 0), (2, .isub, 0, 0), (3, .iconst 4, 0, 0), (4, .if_icmp .le 6, 10, 0), (7, .bipush (-23), 0, 0), (9, .ireturn, 0, 0), (10, .iconst 0, 0, 0), (11, .istore_n 3, 0, 0), (12, .iload_n 1, 0, 0), (13, .istore 4, 0, 0), (15, .iload 4, 0, 0)], [(17, .iload_n 2, 0, 0), (18, .if_icmp .ge 24, 42, 0), (21, .iload_n 3, 0, 0), (22, .bipush 10, 0, 0), (24, .imul, 0, 0), (25, .aload_n 0, 0, 0), (26, .iload 4, 0, 0), (28, .invokevirtual 84, 24, 1), (31, .iadd, 0, 0)], [(32, .bipush 48, 0, 0), (34, .isub, 0, 0), (35, .istore_n 3, 0, 0), (36, .iinc 4 1, 0, 0), (39, .goto (-24), 15, 0), (42, .iload_n 3, 0, 0), (43, .ireturn, 0, 0)]]
def mx_t30 : List (List (List (Nat × mx_I))) := [mx_t30_0]
def mx_t31_0 : List (List (Nat × mx_I)) := [[(0, .aload_n 0, 0, 0), (1, .iload_n 1, 0, 0), (2, .iload_n 2, 0, 0), (3, .ldc 100, 2, 0), (5, .invokevirtual 102, 32, 1), (8, .ifCond .eq 5, 13, 0), (11, .iconst (-1), 0, 0), (12, .ireturn, 0, 0), (13, .aload_n 0, 0, 0), (14, .iload_n 1, 0, 0), (15, .iload_n 2, 0, 0)], [(16, .ldc 106, 3, 0), (18, .invokevirtual 102, 32, 1), (21, .ifCond .eq 6, 27, 0), (24, .bipush (-2), 0, 0), (26, .ireturn, 0, 0), (27, .aload_n 0, 0, 0), (28, .iload_n 1, 0, 0), (29, .iload_n 2, 0, 0), (30, .ldc 108, 4, 0)], [(32, .invokevirtual 102, 32, 1), (35, .ifCond .eq 6, 41, 0), (38, .bipush (-3), 0, 0), (40, .ireturn, 0, 0), (41, .aload_n 0, 0, 0), (42, .iload_n 1, 0, 0), (43, .iload_n 2, 0, 0), (44, .ldc 110, 5, 0), (46, .invokevirtual 102, 32, 1)], [(49, .ifCond .eq 6, 55, 0), (52, .bipush (-4), 0, 0), (54, .ireturn, 0, 0), (55, .aload_n 0, 0, 0), (56, .iload_n 1, 0, 0), (57, .iload_n 2, 0, 0), (58, .ldc 112, 6, 0), (60, .invokevirtual 102, 32, 1), (63, .ifCond .eq 6, 69, 0)], [(66, .bipush (-5), 0, 0), (68, .ireturn, 0, 0), (69, .aload_n 0, 0, 0), (70, .iload_n 1, 0, 0), (71, .iload_n 2, 0, 0), (72, .ldc 114, 7, 0), (74, .invokevirtual 102, 32, 1), (77, .ifCond .eq 6, 83, 0)], [(80, .bipush (-6), 0, 0), (82, .ireturn, 0, 0), (83, .aload_n 0, 0, 0), (84, .iload_n 1, 0, 0), (85, .iload_n 2, 0, 0), (86, .ldc 116, 8, 0), (88, .invokevirtual 102, 32, 1), (91, .ifCond .eq 6, 97, 0), (94, .bipush (-19), 0, 0)], [(96, .ireturn, 0, 0), (97, .aload_n 0, 0, 0), (98, .iload_n 1, 0, 0), (99, .iload_n 2, 0, 0), (100, .ldc 118, 9, 0), (102, .invokevirtual 102, 32, 1), (105, .ifCond .eq 6, 111, 0), (108, .bipush (-20), 0, 0), (110, .ireturn, 0, 0), (111, .aload_n 0, 0, 0)], [(112, .iload_n 1, 0, 0), (113, .iload_n 2, 0, 0), (114, .ldc 120, 10, 0), (116, .invokevirtual 102, 32, 1), (119, .ifCond .eq 6, 125, 0), (122, .bipush (-21), 0, 0), (124, .ireturn, 0, 0), (125, .aload_n 0, 0, 0), (126, .iload_n 1, 0, 0), (127, .iload_n 2, 0, 0)]]
def mx_t31_1 : List (List (Nat × mx_I)) := [[(128, .ldc 122, 11, 0), (130, .invokevirtual 102, 32, 1), (133, .ifCond .eq 6, 139, 0), (136, .bipush (-7), 0, 0), (138, .ireturn, 0, 0), (139, .aload_n 0, 0, 0), (140, .iload_n 1, 0, 0), (141, .iload_n 2, 0, 0), (142, .ldc 124, 12, 0)], [(144, .invokevirtual 102, 32, 1), (147, .ifCond .eq 6, 153, 0), (150, .bipush (-8), 0, 0), (152, .ireturn, 0, 0), (153, .aload_n 0, 0, 0), (154, .iload_n 1, 0, 0), (155, .iload_n 2, 0, 0), (156, .ldc 126, 13, 0), (158, .invokevirtual 102, 32, 1)], [(161, .ifCond .eq 8, 169, 0), (164, .bipush (-9), 0, 0), (166, .goto 5, 171, 0), (169, .bipush (-23), 0, 0), (171, .ireturn, 0, 0)]]
def mx_t31 : List (List (List (Nat × mx_I))) := [mx_t31_0, mx_t31_1]
def mx_t32_0 : List (List (Nat × mx_I)) := [[(0, .iload_n 2, 0, 0), (1, .iload_n 1, 0, 0), (2, .isub, 0, 0), (3, .aload_n 3, 0, 0), (4, .invokevirtual 128, 0, 25), (7, .if_icmp .eq 5, 12, 0), (10, .iconst 0, 0, 0), (11, .ireturn, 0, 0), (12, .iconst 0, 0, 0), (13, .istore 4, 0, 0), (15, .iload 4, 0, 0)], [(17, .aload_n 3, 0, 0), (18, .invokevirtual 128, 0, 25), (21, .if_icmp .ge 28, 49, 0), (24, .aload_n 0, 0, 0), (25, .iload_n 1, 0, 0), (26, .iload 4, 0, 0), (28, .iadd, 0, 0), (29, .invokevirtual 84, 24, 1)], [(32, .aload_n 3, 0, 0), (33, .iload 4, 0, 0), (35, .invokevirtual 133, 0, 26), (38, .if_icmp .eq 5, 43, 0), (41, .iconst 0, 0, 0), (42, .ireturn, 0, 0), (43, .iinc 4 1, 0, 0), (46, .goto (-31), 15, 0)], [(49, .iconst 1, 0, 0), (50, .ireturn, 0, 0)]]
def mx_t32 : List (List (List (Nat × mx_I))) := [mx_t32_0]
def mx_t33_0 : List (List (Nat × mx_I)) := [[(0, .aload_n 0, 0, 0), (1, .getfield 60, 304, 0), (4, .ifCond .lt 25, 29, 0), (7, .aload_n 0, 0, 0), (8, .getfield 60, 304, 0), (11, .sipush 160, 0, 0), (14, .if_icmp .gt 15, 29, 0)], [(17, .aload_n 0, 0, 0), (18, .getfield 15, 302, 0), (21, .aload_n 0, 0, 0), (22, .getfield 60, 304, 0), (25, .iaload, 0, 0), (26, .goto 5, 31, 0), (29, .bipush (-22), 0, 0), (31, .ireturn, 0, 0)]]
def mx_t33 : List (List (List (Nat × mx_I))) := [mx_t33_0]
def mx_t34_0 : List (List (Nat × mx_I)) := [[(0, .aload_n 0, 0, 0), (1, .getfield 27, 309, 0), (4, .iconst (-1), 0, 0), (5, .if_icmp .ne 33, 38, 0), (8, .aload_n 0, 0, 0), (9, .getfield 60, 304, 0), (12, .ifCond .lt 26, 38, 0), (15, .aload_n 0, 0, 0)], [(16, .getfield 60, 304, 0), (19, .sipush 160, 0, 0), (22, .if_icmp .gt 16, 38, 0), (25, .aload_n 0, 0, 0), (26, .aload_n 0, 0, 0), (27, .getfield 18, 303, 0), (30, .aload_n 0, 0, 0), (31, .getfield 60, 304, 0)], [(34, .iaload, 0, 0), (35, .putfield 27, 309, 0), (38, .return_, 0, 0)]]
def mx_t34 : List (List (List (Nat × mx_I))) := [mx_t34_0]
def mx_t35_0 : List (List (Nat × mx_I)) := [[(0, .aload_n 0, 0, 0), (1, .getfield 27, 309, 0), (4, .iconst (-1), 0, 0), (5, .if_icmp .eq 4, 9, 0), (8, .return_, 0, 0), (9, .aload_n 0, 0, 0), (10, .invokevirtual 137, 33, 1), (13, .iload_n 1, 0, 0), (14, .if_icmp .ne 16, 30, 0)], [(17, .aload_n 0, 0, 0), (18, .dup, 0, 0), (19, .getfield 60, 304, 0), (22, .iconst 1, 0, 0), (23, .iadd, 0, 0), (24, .putfield 60, 304, 0), (27, .goto 7, 34, 0), (30, .aload_n 0, 0, 0), (31, .invokevirtual 140, 34, 1)], [(34, .return_, 0, 0)]]
def mx_t35 : List (List (List (Nat × mx_I))) := [mx_t35_0]
def mx_t36_0 : List (List (Nat × mx_I)) := [[(0, .aload_n 0, 0, 0), (1, .getfield 27, 309, 0), (4, .iconst (-1), 0, 0), (5, .if_icmp .ne 40, 45, 0), (8, .aload_n 0, 0, 0), (9, .getfield 34, 307, 0), (12, .ifCond .lt 33, 45, 0), (15, .aload_n 0, 0, 0)], [(16, .getfield 34, 307, 0), (19, .sipush 160, 0, 0), (22, .if_icmp .ge 23, 45, 0), (25, .aload_n 0, 0, 0), (26, .getfield 21, 306, 0), (29, .aload_n 0, 0, 0), (30, .getfield 34, 307, 0)], [(33, .iload_n 1, 0, 0), (34, .iastore, 0, 0), (35, .aload_n 0, 0, 0), (36, .dup, 0, 0), (37, .getfield 34, 307, 0), (40, .iconst 1, 0, 0), (41, .iadd, 0, 0), (42, .putfield 34, 307, 0), (45, .return_, 0, 0)]]
def mx_t36 : List (List (List (Nat × mx_I))) := [mx_t36_0]
def mx_t37_0 : List (List (Nat × mx_I)) := [[(0, .aload_n 0, 0, 0), (1, .getfield 63, 305, 0), (4, .iconst 5, 0, 0), (5, .if_icmp .lt 9, 14, 0), (8, .aload_n 0, 0, 0), (9, .invokevirtual 140, 34, 1), (12, .iconst 0, 0, 0), (13, .ireturn, 0, 0), (14, .aload_n 0, 0, 0), (15, .dup, 0, 0)], [(16, .getfield 63, 305, 0), (19, .iconst 1, 0, 0), (20, .iadd, 0, 0), (21, .putfield 63, 305, 0), (24, .aload_n 0, 0, 0), (25, .dup, 0, 0), (26, .getfield 60, 304, 0), (29, .iconst 1, 0, 0), (30, .iadd, 0, 0), (31, .putfield 60, 304, 0)], [(34, .iconst 1, 0, 0), (35, .ireturn, 0, 0)]]
def mx_t37 : List (List (List (Nat × mx_I))) := [mx_t37_0]
def mx_t38_0 : List (List (Nat × mx_I)) := [[(0, .iload_n 0, 0, 0), (1, .tableswitch 55 (-14) (-7) #[53, 51, 51, 55, 55, 55, 49, 47], 47, 0)], [], [], [(48, .iconst 0, 0, 0), (49, .ireturn, 0, 0), (50, .iconst 1, 0, 0), (51, .ireturn, 0, 0), (52, .iconst 3, 0, 0), (53, .ireturn, 0, 0), (54, .iconst 4, 0, 0), (55, .ireturn, 0, 0), (56, .iconst (-1), 0, 0), (57, .ireturn, 0, 0)]]
def mx_t38 : List (List (List (Nat × mx_I))) := [mx_t38_0]
def mx_t39_0 : List (List (Nat × mx_I)) := [[(0, .aload_n 0, 0, 0), (1, .iload_n 1, 0, 0), (2, .iconst 1, 0, 0), (3, .iadd, 0, 0), (4, .invokevirtual 143, 40, 1), (7, .iconst 0, 0, 0), (8, .istore_n 2, 0, 0), (9, .iload_n 2, 0, 0), (10, .sipush 160, 0, 0), (13, .if_icmp .ge 55, 68, 0)], [(16, .aload_n 0, 0, 0), (17, .getfield 27, 309, 0), (20, .iconst (-1), 0, 0), (21, .if_icmp .ne 47, 68, 0), (24, .aload_n 0, 0, 0), (25, .invokevirtual 137, 33, 1), (28, .invokestatic 146, 38, 3), (31, .iload_n 1, 0, 0)], [(32, .if_icmp .ne 36, 68, 0), (35, .aload_n 0, 0, 0), (36, .invokevirtual 137, 33, 1), (39, .istore_n 3, 0, 0), (40, .aload_n 0, 0, 0), (41, .dup, 0, 0), (42, .getfield 60, 304, 0), (45, .iconst 1, 0, 0), (46, .iadd, 0, 0), (47, .putfield 60, 304, 0)], [(50, .aload_n 0, 0, 0), (51, .iload_n 1, 0, 0), (52, .iconst 1, 0, 0), (53, .iadd, 0, 0), (54, .invokevirtual 143, 40, 1), (57, .aload_n 0, 0, 0), (58, .iload_n 3, 0, 0), (59, .invokevirtual 149, 36, 1), (62, .iinc 2 1, 0, 0)], [(65, .goto (-56), 9, 0), (68, .return_, 0, 0)]]
def mx_t39 : List (List (List (Nat × mx_I))) := [mx_t39_0]
def mx_t40_0 : List (List (Nat × mx_I)) := [[(0, .iload_n 1, 0, 0), (1, .iconst 2, 0, 0), (2, .if_icmp .ne 10, 12, 0), (5, .aload_n 0, 0, 0), (6, .invokevirtual 152, 41, 1), (9, .goto 20, 29, 0), (12, .iload_n 1, 0, 0), (13, .iconst 5, 0, 0), (14, .if_icmp .lt 10, 24, 0)], [(17, .aload_n 0, 0, 0), (18, .invokevirtual 155, 42, 1), (21, .goto 8, 29, 0), (24, .aload_n 0, 0, 0), (25, .iload_n 1, 0, 0), (26, .invokevirtual 70, 39, 1), (29, .return_, 0, 0)]]
def mx_t40 : List (List (List (Nat × mx_I))) := [mx_t40_0]
def mx_t41_0 : List (List (Nat × mx_I)) := [[(0, .aload_n 0, 0, 0), (1, .invokevirtual 137, 33, 1), (4, .bipush (-9), 0, 0), (6, .if_icmp .ne 31, 37, 0), (9, .aload_n 0, 0, 0), (10, .invokevirtual 158, 37, 1), (13, .ifCond .eq 23, 36, 0)], [(16, .aload_n 0, 0, 0), (17, .invokevirtual 152, 41, 1), (20, .aload_n 0, 0, 0), (21, .dup, 0, 0), (22, .getfield 63, 305, 0), (25, .iconst 1, 0, 0), (26, .isub, 0, 0), (27, .putfield 63, 305, 0), (30, .aload_n 0, 0, 0), (31, .bipush (-9), 0, 0)], [(33, .invokevirtual 149, 36, 1), (36, .return_, 0, 0), (37, .aload_n 0, 0, 0), (38, .iconst 3, 0, 0), (39, .invokevirtual 70, 39, 1), (42, .aload_n 0, 0, 0), (43, .invokevirtual 137, 33, 1), (46, .istore_n 1, 0, 0), (47, .aload_n 0, 0, 0)], [(48, .getfield 27, 309, 0), (51, .iconst (-1), 0, 0), (52, .if_icmp .ne 35, 87, 0), (55, .iload_n 1, 0, 0), (56, .bipush (-10), 0, 0), (58, .if_icmp .eq 9, 67, 0), (61, .iload_n 1, 0, 0), (62, .bipush (-11), 0, 0)], [(64, .if_icmp .ne 23, 87, 0), (67, .aload_n 0, 0, 0), (68, .dup, 0, 0), (69, .getfield 60, 304, 0), (72, .iconst 1, 0, 0), (73, .iadd, 0, 0), (74, .putfield 60, 304, 0), (77, .aload_n 0, 0, 0), (78, .iconst 3, 0, 0), (79, .invokevirtual 70, 39, 1)], [(82, .aload_n 0, 0, 0), (83, .iload_n 1, 0, 0), (84, .invokevirtual 149, 36, 1), (87, .return_, 0, 0)]]
def mx_t41 : List (List (List (Nat × mx_I))) := [mx_t41_0]
def mx_t42_0 : List (List (Nat × mx_I)) := [[(0, .aload_n 0, 0, 0), (1, .invokevirtual 137, 33, 1), (4, .istore_n 1, 0, 0), (5, .iload_n 1, 0, 0), (6, .bipush (-6), 0, 0), (8, .if_icmp .lt 21, 29, 0), (11, .aload_n 0, 0, 0), (12, .iload_n 1, 0, 0), (13, .invokevirtual 149, 36, 1)], [(16, .aload_n 0, 0, 0), (17, .dup, 0, 0), (18, .getfield 60, 304, 0), (21, .iconst 1, 0, 0), (22, .iadd, 0, 0), (23, .putfield 60, 304, 0), (26, .goto 80, 106, 0), (29, .iload_n 1, 0, 0), (30, .bipush (-13), 0, 0)], [(32, .if_icmp .ne 33, 65, 0), (35, .aload_n 0, 0, 0), (36, .invokevirtual 158, 37, 1), (39, .ifCond .eq 67, 106, 0), (42, .aload_n 0, 0, 0), (43, .invokevirtual 155, 42, 1), (46, .aload_n 0, 0, 0), (47, .dup, 0, 0)], [(48, .getfield 63, 305, 0), (51, .iconst 1, 0, 0), (52, .isub, 0, 0), (53, .putfield 63, 305, 0), (56, .aload_n 0, 0, 0), (57, .bipush (-15), 0, 0), (59, .invokevirtual 149, 36, 1), (62, .goto 44, 106, 0)], [(65, .iload_n 1, 0, 0), (66, .bipush (-16), 0, 0), (68, .if_icmp .ne 34, 102, 0), (71, .aload_n 0, 0, 0), (72, .invokevirtual 158, 37, 1), (75, .ifCond .eq 31, 106, 0), (78, .aload_n 0, 0, 0), (79, .iconst 0, 0, 0)], [(80, .invokevirtual 70, 39, 1), (83, .aload_n 0, 0, 0), (84, .bipush (-17), 0, 0), (86, .invokevirtual 66, 35, 1), (89, .aload_n 0, 0, 0), (90, .dup, 0, 0), (91, .getfield 63, 305, 0), (94, .iconst 1, 0, 0), (95, .isub, 0, 0)], [(96, .putfield 63, 305, 0), (99, .goto 7, 106, 0), (102, .aload_n 0, 0, 0), (103, .invokevirtual 140, 34, 1), (106, .return_, 0, 0)]]
def mx_t42 : List (List (List (Nat × mx_I))) := [mx_t42_0]
def mx_t43_0 : List (List (Nat × mx_I)) := [[(0, .aload_n 0, 0, 0), (1, .invokespecial 3, 0, 27), (4, .aload_n 0, 0, 0), (5, .bipush 6, 0, 0), (7, .anewarray 9, 4, 0), (10, .putfield 11, 400, 0), (13, .aload_n 0, 0, 0), (14, .bipush 6, 0, 0)], [(16, .newarray .int, 0, 0), (18, .putfield 17, 402, 0), (21, .aload_n 0, 0, 0), (22, .sipush 160, 0, 0), (25, .newarray .int, 0, 0), (27, .putfield 21, 403, 0), (30, .aload_n 0, 0, 0), (31, .bipush 36, 0, 0)], [(33, .newarray .int, 0, 0), (35, .putfield 24, 404, 0), (38, .return_, 0, 0)]]
def mx_t43 : List (List (List (Nat × mx_I))) := [mx_t43_0]
def mx_t44_0 : List (List (Nat × mx_I)) := [[(0, .aload_n 0, 0, 0), (1, .getfield 27, 401, 0), (4, .ifCond .lt 12, 16, 0), (7, .aload_n 0, 0, 0), (8, .getfield 27, 401, 0), (11, .bipush 6, 0, 0), (13, .if_icmp .lt 6, 19, 0)], [(16, .bipush (-4), 0, 0), (18, .ireturn, 0, 0), (19, .aload_n 0, 0, 0), (20, .getfield 11, 400, 0), (23, .aload_n 0, 0, 0), (24, .getfield 27, 401, 0), (27, .aload_n 1, 0, 0), (28, .aastore, 0, 0), (29, .aload_n 0, 0, 0), (30, .dup, 0, 0), (31, .getfield 27, 401, 0)], [(34, .iconst 1, 0, 0), (35, .iadd, 0, 0), (36, .putfield 27, 401, 0), (39, .aload_n 0, 0, 0), (40, .getfield 27, 401, 0), (43, .iconst 1, 0, 0), (44, .isub, 0, 0), (45, .ireturn, 0, 0)]]
def mx_t44 : List (List (List (Nat × mx_I))) := [mx_t44_0]
def mx_t45_0 : List (List (Nat × mx_I)) := [[(0, .iload_n 1, 0, 0), (1, .ifCond .lt 26, 27, 0), (4, .iload_n 1, 0, 0), (5, .aload_n 0, 0, 0), (6, .getfield 27, 401, 0), (9, .if_icmp .ge 18, 27, 0), (12, .iload_n 1, 0, 0), (13, .bipush 6, 0, 0), (15, .if_icmp .ge 12, 27, 0)], [(18, .aload_n 0, 0, 0), (19, .getfield 11, 400, 0), (22, .iload_n 1, 0, 0), (23, .aaload, 0, 0), (24, .goto 4, 28, 0), (27, .aconst_null, 0, 0), (28, .areturn, 0, 0)]]
def mx_t45 : List (List (List (Nat × mx_I))) := [mx_t45_0]
def mx_t46_0 : List (List (Nat × mx_I)) := [[(0, .aload_n 1, 0, 0), (1, .iload_n 3, 0, 0), (2, .invokevirtual 31, 4, 1), (5, .istore 4, 0, 0), (7, .aload_n 0, 0, 0), (8, .aload_n 1, 0, 0), (9, .iload_n 3, 0, 0), (10, .iload 4, 0, 0), (12, .aload_n 2, 0, 0), (13, .getfield 37, 201, 0)], [(16, .invokevirtual 42, 53, 1), (19, .aload_n 0, 0, 0), (20, .aload_n 1, 0, 0), (21, .getfield 46, 5, 0), (24, .iconst 0, 0, 0), (25, .invokevirtual 49, 54, 1), (28, .iconst 0, 0, 0), (29, .bipush 99, 0, 0), (31, .invokestatic 53, 130, 4)], [(34, .istore 5, 0, 0), (36, .aload_n 2, 0, 0), (37, .iload 5, 0, 0), (39, .iload 4, 0, 0), (41, .invokevirtual 57, 16, 1), (44, .iconst 1, 0, 0), (45, .bipush 99, 0, 0), (47, .invokestatic 53, 130, 4)], [(50, .ireturn, 0, 0)]]
def mx_t46 : List (List (List (Nat × mx_I))) := [mx_t46_0]
def mx_t47_0 : List (List (Nat × mx_I)) := [[(0, .aload_n 1, 0, 0), (1, .iload_n 3, 0, 0), (2, .invokevirtual 31, 4, 1), (5, .istore 4, 0, 0), (7, .aload_n 0, 0, 0), (8, .aload_n 1, 0, 0), (9, .iload_n 3, 0, 0), (10, .iload 4, 0, 0), (12, .aload_n 2, 0, 0), (13, .getfield 37, 201, 0)], [(16, .invokevirtual 42, 53, 1), (19, .aload_n 0, 0, 0), (20, .aload_n 1, 0, 0), (21, .getfield 46, 5, 0), (24, .iconst 1, 0, 0), (25, .invokevirtual 49, 54, 1), (28, .iconst 0, 0, 0), (29, .bipush 9, 0, 0), (31, .invokestatic 53, 130, 4)], [(34, .istore 5, 0, 0), (36, .aload_n 2, 0, 0), (37, .iload 5, 0, 0), (39, .iload 4, 0, 0), (41, .iload_n 3, 0, 0), (42, .invokevirtual 60, 17, 1), (45, .iconst 0, 0, 0), (46, .bipush 9, 0, 0)], [(48, .invokestatic 53, 130, 4), (51, .ireturn, 0, 0)]]
def mx_t47 : List (List (List (Nat × mx_I))) := [mx_t47_0]
def mx_t48_0 : List (List (Nat × mx_I)) := [[(0, .aload_n 0, 0, 0), (1, .aload_n 1, 0, 0), (2, .iload_n 2, 0, 0), (3, .iload_n 2, 0, 0), (4, .invokestatic 63, 126, 4), (7, .ifCond .eq 12, 19, 0), (10, .aload_n 1, 0, 0), (11, .getfield 67, 0, 0), (14, .iload_n 2, 0, 0), (15, .iaload, 0, 0)], [(16, .goto 4, 20, 0), (19, .iconst 0, 0, 0), (20, .iconst 0, 0, 0), (21, .invokevirtual 42, 53, 1), (24, .aload_n 0, 0, 0), (25, .aload_n 1, 0, 0), (26, .getfield 46, 5, 0), (29, .iconst 2, 0, 0), (30, .invokevirtual 49, 54, 1)], [(33, .iconst 0, 0, 0), (34, .bipush 9, 0, 0), (36, .invokestatic 53, 130, 4), (39, .ireturn, 0, 0)]]
def mx_t48 : List (List (List (Nat × mx_I))) := [mx_t48_0]
def mx_t49_0 : List (List (Nat × mx_I)) := [[(0, .aload_n 2, 0, 0), (1, .getfield 70, 202, 0), (4, .iload_n 3, 0, 0), (5, .invokestatic 73, 127, 4), (8, .aload_n 0, 0, 0), (9, .aload_n 1, 0, 0), (10, .aload_n 2, 0, 0), (11, .iload_n 3, 0, 0), (12, .invokevirtual 76, 46, 1), (15, .iadd, 0, 0)], [(16, .ireturn, 0, 0)]]
def mx_t49 : List (List (List (Nat × mx_I))) := [mx_t49_0]
def mx_t50_0 : List (List (Nat × mx_I)) := [[(0, .iload_n 3, 0, 0), (1, .invokestatic 63, 126, 4), (4, .ifCond .ne 5, 9, 0), (7, .iconst 0, 0, 0), (8, .ireturn, 0, 0), (9, .aload_n 2, 0, 0), (10, .getfield 70, 202, 0), (13, .iload_n 3, 0, 0), (14, .invokestatic 73, 127, 4)], [(17, .aload_n 0, 0, 0), (18, .aload_n 1, 0, 0), (19, .aload_n 2, 0, 0), (20, .iload_n 3, 0, 0), (21, .invokevirtual 76, 46, 1), (24, .iadd, 0, 0), (25, .istore 4, 0, 0), (27, .aload_n 1, 0, 0), (28, .getfield 67, 0, 0), (31, .iload_n 3, 0, 0)], [(32, .aload_n 0, 0, 0), (33, .aload_n 1, 0, 0), (34, .aload_n 2, 0, 0), (35, .iload_n 3, 0, 0), (36, .invokevirtual 80, 47, 1), (39, .iastore, 0, 0), (40, .aload_n 2, 0, 0), (41, .iload_n 3, 0, 0), (42, .putfield 70, 202, 0), (45, .aload_n 2, 0, 0), (46, .aload_n 2, 0, 0), (47, .getfield 83, 203, 0)], [(50, .iconst 1, 0, 0), (51, .iadd, 0, 0), (52, .sipush 9999, 0, 0), (55, .invokestatic 86, 0, 21), (58, .putfield 83, 203, 0), (61, .iload 4, 0, 0), (63, .ireturn, 0, 0)]]
def mx_t50 : List (List (List (Nat × mx_I))) := [mx_t50_0]
def mx_t51_0 : List (List (Nat × mx_I)) := [[(0, .bipush 36, 0, 0), (2, .bipush 6, 0, 0), (4, .iload_n 2, 0, 0), (5, .iconst 0, 0, 0), (6, .bipush 6, 0, 0), (8, .invokestatic 53, 130, 4), (11, .imul, 0, 0), (12, .isub, 0, 0), (13, .istore_n 3, 0, 0), (14, .iload_n 3, 0, 0), (15, .istore 4, 0, 0)], [(17, .iload 4, 0, 0), (19, .bipush 36, 0, 0), (21, .if_icmp .ge 23, 44, 0), (24, .aload_n 0, 0, 0), (25, .getfield 24, 404, 0), (28, .iload 4, 0, 0), (30, .aload_n 0, 0, 0), (31, .aload_n 1, 0, 0)], [(32, .iload 4, 0, 0), (34, .invokevirtual 91, 48, 1), (37, .iastore, 0, 0), (38, .iinc 4 1, 0, 0), (41, .goto (-24), 17, 0), (44, .iload_n 3, 0, 0), (45, .istore 4, 0, 0), (47, .iload 4, 0, 0)], [(49, .bipush 36, 0, 0), (51, .if_icmp .ge 23, 74, 0), (54, .aload_n 1, 0, 0), (55, .getfield 67, 0, 0), (58, .iload 4, 0, 0), (60, .aload_n 0, 0, 0), (61, .getfield 24, 404, 0)], [(64, .iload 4, 0, 0), (66, .iaload, 0, 0), (67, .iastore, 0, 0), (68, .iinc 4 1, 0, 0), (71, .goto (-24), 47, 0), (74, .aload_n 1, 0, 0), (75, .dup, 0, 0), (76, .getfield 95, 4, 0), (79, .iconst 1, 0, 0)], [(80, .iadd, 0, 0), (81, .putfield 95, 4, 0), (84, .return_, 0, 0)]]
def mx_t51 : List (List (List (Nat × mx_I))) := [mx_t51_0]
def mx_t52_0 : List (List (Nat × mx_I)) := [[(0, .lconst 0, 0, 0), (1, .lstore_n 3, 0, 0), (2, .iconst 0, 0, 0), (3, .istore 5, 0, 0), (5, .iload 5, 0, 0), (7, .bipush 36, 0, 0), (9, .if_icmp .ge 35, 44, 0), (12, .aload_n 0, 0, 0), (13, .aload_n 1, 0, 0), (14, .aload_n 2, 0, 0), (15, .iload 5, 0, 0)], [(17, .invokevirtual 80, 47, 1), (20, .aload_n 1, 0, 0), (21, .getfield 98, 1, 0), (24, .iload 5, 0, 0), (26, .iaload, 0, 0), (27, .if_icmp .ne 11, 38, 0), (30, .lload_n 3, 0, 0), (31, .iload 5, 0, 0)], [(33, .invokestatic 101, 128, 4), (36, .lor, 0, 0), (37, .lstore_n 3, 0, 0), (38, .iinc 5 1, 0, 0), (41, .goto (-36), 5, 0), (44, .lload_n 3, 0, 0), (45, .lreturn, 0, 0)]]
def mx_t52 : List (List (List (Nat × mx_I))) := [mx_t52_0]
def mx_t53_0 : List (List (Nat × mx_I)) := [[(0, .aload_n 0, 0, 0), (1, .getfield 17, 402, 0), (4, .iconst 0, 0, 0), (5, .iload_n 3, 0, 0), (6, .iastore, 0, 0), (7, .aload_n 0, 0, 0), (8, .getfield 17, 402, 0), (11, .iconst 1, 0, 0), (12, .iload_n 2, 0, 0), (13, .bipush 6, 0, 0), (15, .idiv, 0, 0)], [(16, .iastore, 0, 0), (17, .aload_n 0, 0, 0), (18, .getfield 17, 402, 0), (21, .iconst 2, 0, 0), (22, .iload_n 2, 0, 0), (23, .bipush 6, 0, 0), (25, .irem, 0, 0), (26, .iastore, 0, 0), (27, .aload_n 0, 0, 0), (28, .getfield 17, 402, 0), (31, .iconst 3, 0, 0)], [(32, .aload_n 1, 0, 0), (33, .getfield 95, 4, 0), (36, .iastore, 0, 0), (37, .aload_n 0, 0, 0), (38, .getfield 17, 402, 0), (41, .iconst 4, 0, 0), (42, .iload 4, 0, 0), (44, .iastore, 0, 0), (45, .aload_n 0, 0, 0), (46, .getfield 17, 402, 0)], [(49, .iconst 5, 0, 0), (50, .aload_n 1, 0, 0), (51, .iload_n 2, 0, 0), (52, .invokevirtual 105, 9, 1), (55, .iastore, 0, 0), (56, .return_, 0, 0)]]
def mx_t53 : List (List (List (Nat × mx_I))) := [mx_t53_0]
def mx_t54_0 : List (List (Nat × mx_I)) := [[(0, .aload_n 0, 0, 0), (1, .iload_n 1, 0, 0), (2, .invokevirtual 108, 45, 1), (5, .astore_n 3, 0, 0), (6, .aload_n 3, 0, 0), (7, .ifnull 12, 19, 0), (10, .iload_n 2, 0, 0), (11, .ifCond .lt 8, 19, 0), (14, .iload_n 2, 0, 0), (15, .iconst 3, 0, 0)], [(16, .if_icmp .lt 5, 21, 0), (19, .iconst 0, 0, 0), (20, .ireturn, 0, 0), (21, .iload_n 2, 0, 0), (22, .ifCond .ne 7, 29, 0), (25, .iconst 0, 0, 0), (26, .goto 11, 37, 0), (29, .aload_n 3, 0, 0), (30, .getfield 112, 601, 0)], [(33, .iload_n 2, 0, 0), (34, .iconst 1, 0, 0), (35, .isub, 0, 0), (36, .iaload, 0, 0), (37, .istore 4, 0, 0), (39, .iconst 0, 0, 0), (40, .istore 5, 0, 0), (42, .iload 4, 0, 0), (44, .iconst 0, 0, 0), (45, .invokestatic 115, 0, 20)], [(48, .istore 6, 0, 0), (50, .iload 6, 0, 0), (52, .aload_n 3, 0, 0), (53, .getfield 112, 601, 0), (56, .iload_n 2, 0, 0), (57, .iaload, 0, 0), (58, .if_icmp .ge 153, 211, 0), (61, .iload 6, 0, 0), (63, .aload_n 3, 0, 0)], [(64, .getfield 118, 600, 0), (67, .arraylength, 0, 0), (68, .if_icmp .ge 143, 211, 0), (71, .aload_n 3, 0, 0), (72, .getfield 118, 600, 0), (75, .iload 6, 0, 0), (77, .iaload, 0, 0), (78, .istore 7, 0, 0)], [(80, .iload 7, 0, 0), (82, .bipush (-6), 0, 0), (84, .if_icmp .lt 48, 132, 0), (87, .iload 5, 0, 0), (89, .ifCond .lt 116, 205, 0), (92, .iload 5, 0, 0), (94, .sipush 160, 0, 0)], [(97, .if_icmp .ge 108, 205, 0), (100, .aload_n 0, 0, 0), (101, .getfield 21, 403, 0), (104, .iload 5, 0, 0), (106, .iload 7, 0, 0), (108, .ifCond .ge 15, 123, 0), (111, .aload_n 0, 0, 0)], [(112, .getfield 17, 402, 0), (115, .iconst (-1), 0, 0), (116, .iload 7, 0, 0), (118, .isub, 0, 0), (119, .iaload, 0, 0), (120, .goto 5, 125, 0), (123, .iload 7, 0, 0), (125, .iastore, 0, 0), (126, .iinc 5 1, 0, 0)]]
def mx_t54_1 : List (List (Nat × mx_I)) := [[(129, .goto 76, 205, 0), (132, .iload 7, 0, 0), (134, .bipush (-9), 0, 0), (136, .if_icmp .eq 10, 146, 0), (139, .iload 7, 0, 0), (141, .bipush (-15), 0, 0), (143, .if_icmp .ne 8, 151, 0)], [(146, .iload 5, 0, 0), (148, .goto 7, 155, 0), (151, .iload 5, 0, 0), (153, .iconst 1, 0, 0), (154, .isub, 0, 0), (155, .istore 8, 0, 0), (157, .iload 8, 0, 0), (159, .iconst 1, 0, 0)], [(160, .if_icmp .lt 45, 205, 0), (163, .iload 8, 0, 0), (165, .sipush 160, 0, 0), (168, .if_icmp .ge 37, 205, 0), (171, .aload_n 0, 0, 0), (172, .getfield 21, 403, 0), (175, .iload 8, 0, 0)], [(177, .iconst 1, 0, 0), (178, .isub, 0, 0), (179, .iload 7, 0, 0), (181, .aload_n 0, 0, 0), (182, .getfield 21, 403, 0), (185, .iload 8, 0, 0), (187, .iconst 1, 0, 0), (188, .isub, 0, 0), (189, .iaload, 0, 0), (190, .aload_n 0, 0, 0), (191, .getfield 21, 403, 0)], [(194, .iload 8, 0, 0), (196, .iaload, 0, 0), (197, .invokestatic 121, 55, 3), (200, .iastore, 0, 0), (201, .iload 8, 0, 0), (203, .istore 5, 0, 0), (205, .iinc 6 1, 0, 0)], [(208, .goto (-158), 50, 0), (211, .aload_n 0, 0, 0), (212, .getfield 21, 403, 0), (215, .iconst 0, 0, 0), (216, .iaload, 0, 0), (217, .ireturn, 0, 0)]]
def mx_t54 : List (List (List (Nat × mx_I))) := [mx_t54_0, mx_t54_1]
def mx_t55_0 : List (List (Nat × mx_I)) := [[(0, .iload_n 0, 0, 0), (1, .tableswitch 119 (-14) (-7) #[115, 111, 107, 96, 85, 75, 61, 47], 47, 0)], [], [], [(48, .iload_n 1, 0, 0), (49, .ifCond .ne 7, 56, 0), (52, .iload_n 2, 0, 0), (53, .ifCond .eq 7, 60, 0), (56, .iconst 1, 0, 0), (57, .goto 4, 61, 0), (60, .iconst 0, 0, 0), (61, .ireturn, 0, 0), (62, .iload_n 1, 0, 0), (63, .ifCond .eq 11, 74, 0)], [(66, .iload_n 2, 0, 0), (67, .ifCond .eq 7, 74, 0), (70, .iconst 1, 0, 0), (71, .goto 4, 75, 0), (74, .iconst 0, 0, 0), (75, .ireturn, 0, 0), (76, .iload_n 1, 0, 0), (77, .ifCond .ne 7, 84, 0)], [(80, .iconst 1, 0, 0), (81, .goto 4, 85, 0), (84, .iconst 0, 0, 0), (85, .ireturn, 0, 0), (86, .iload_n 1, 0, 0), (87, .iload_n 2, 0, 0), (88, .if_icmp .ge 7, 95, 0), (91, .iconst 1, 0, 0), (92, .goto 4, 96, 0), (95, .iconst 0, 0, 0)], [(96, .ireturn, 0, 0), (97, .iload_n 1, 0, 0), (98, .iload_n 2, 0, 0), (99, .if_icmp .ne 7, 106, 0), (102, .iconst 1, 0, 0), (103, .goto 4, 107, 0), (106, .iconst 0, 0, 0), (107, .ireturn, 0, 0), (108, .iload_n 1, 0, 0), (109, .iload_n 2, 0, 0), (110, .iadd, 0, 0), (111, .ireturn, 0, 0)], [(112, .iload_n 1, 0, 0), (113, .iload_n 2, 0, 0), (114, .isub, 0, 0), (115, .ireturn, 0, 0), (116, .iload_n 1, 0, 0), (117, .iload_n 2, 0, 0), (118, .imul, 0, 0), (119, .ireturn, 0, 0), (120, .iload_n 1, 0, 0), (121, .ineg, 0, 0), (122, .ireturn, 0, 0)]]
def mx_t55 : List (List (List (Nat × mx_I))) := [mx_t55_0]
def mx_t56_0 : List (List (Nat × mx_I)) := [[(0, .aload_n 0, 0, 0), (1, .invokespecial 3, 0, 27), (4, .aload_n 0, 0, 0), (5, .bipush 40, 0, 0), (7, .newarray .int, 0, 0), (9, .putfield 9, 500, 0), (12, .aload_n 0, 0, 0), (13, .iconst (-1), 0, 0), (14, .putfield 15, 501, 0)], [(17, .return_, 0, 0)]]
def mx_t56 : List (List (List (Nat × mx_I))) := [mx_t56_0]
def mx_t57_0 : List (List (Nat × mx_I)) := [[(0, .aload_n 0, 0, 0), (1, .getfield 15, 501, 0), (4, .iconst (-1), 0, 0), (5, .if_icmp .eq 7, 12, 0), (8, .iconst 1, 0, 0), (9, .goto 4, 13, 0), (12, .iconst 0, 0, 0), (13, .ireturn, 0, 0)]]
def mx_t57 : List (List (List (Nat × mx_I))) := [mx_t57_0]
def mx_t58_0 : List (List (Nat × mx_I)) := [[(0, .aload_n 0, 0, 0), (1, .iload_n 1, 0, 0), (2, .putfield 15, 501, 0), (5, .aload_n 0, 0, 0), (6, .iload_n 2, 0, 0), (7, .iconst 0, 0, 0), (8, .bipush 40, 0, 0), (10, .invokestatic 19, 130, 4), (13, .putfield 23, 502, 0)], [(16, .iconst 0, 0, 0), (17, .istore_n 3, 0, 0), (18, .iload_n 3, 0, 0), (19, .bipush 40, 0, 0), (21, .if_icmp .ge 16, 37, 0), (24, .aload_n 0, 0, 0), (25, .getfield 9, 500, 0), (28, .iload_n 3, 0, 0), (29, .iconst 0, 0, 0), (30, .iastore, 0, 0), (31, .iinc 3 1, 0, 0)], [(34, .goto (-16), 18, 0), (37, .return_, 0, 0)]]
def mx_t58 : List (List (List (Nat × mx_I))) := [mx_t58_0]
def mx_t59_0 : List (List (Nat × mx_I)) := [[(0, .iload_n 1, 0, 0), (1, .ifCond .lt 26, 27, 0), (4, .iload_n 1, 0, 0), (5, .aload_n 0, 0, 0), (6, .getfield 23, 502, 0), (9, .if_icmp .ge 18, 27, 0), (12, .iload_n 1, 0, 0), (13, .bipush 40, 0, 0), (15, .if_icmp .ge 12, 27, 0)], [(18, .aload_n 0, 0, 0), (19, .getfield 9, 500, 0), (22, .iload_n 1, 0, 0), (23, .iaload, 0, 0), (24, .goto 4, 28, 0), (27, .iconst 0, 0, 0), (28, .ireturn, 0, 0)]]
def mx_t59 : List (List (List (Nat × mx_I))) := [mx_t59_0]
def mx_t60_0 : List (List (Nat × mx_I)) := [[(0, .iload_n 1, 0, 0), (1, .ifCond .lt 49, 50, 0), (4, .iload_n 1, 0, 0), (5, .aload_n 0, 0, 0), (6, .getfield 23, 502, 0), (9, .if_icmp .ge 41, 50, 0), (12, .iload_n 1, 0, 0), (13, .bipush 40, 0, 0), (15, .if_icmp .ge 35, 50, 0)], [(18, .aload_n 0, 0, 0), (19, .getfield 9, 500, 0), (22, .iload_n 1, 0, 0), (23, .aload_n 0, 0, 0), (24, .getfield 15, 501, 0), (27, .ifCond .ne 8, 35, 0), (30, .iload_n 2, 0, 0), (31, .i2b, 0, 0)], [(32, .goto 17, 49, 0), (35, .aload_n 0, 0, 0), (36, .getfield 15, 501, 0), (39, .iconst 1, 0, 0), (40, .if_icmp .ne 8, 48, 0), (43, .iload_n 2, 0, 0), (44, .i2s, 0, 0), (45, .goto 4, 49, 0)], [(48, .iload_n 2, 0, 0), (49, .iastore, 0, 0), (50, .return_, 0, 0)]]
def mx_t60 : List (List (List (Nat × mx_I))) := [mx_t60_0]
def mx_t61_0 : List (List (Nat × mx_I)) := [[(0, .lconst 0, 0, 0), (1, .lstore_n 1, 0, 0), (2, .iconst 0, 0, 0), (3, .istore_n 3, 0, 0), (4, .iload_n 3, 0, 0), (5, .aload_n 0, 0, 0), (6, .getfield 23, 502, 0), (9, .if_icmp .ge 43, 52, 0), (12, .aload_n 0, 0, 0), (13, .iload_n 3, 0, 0), (14, .invokevirtual 26, 59, 1)], [(17, .istore 4, 0, 0), (19, .iload 4, 0, 0), (21, .invokestatic 30, 126, 4), (24, .ifCond .eq 12, 36, 0), (27, .lload_n 1, 0, 0), (28, .iload 4, 0, 0), (30, .invokestatic 34, 129, 4)], [(33, .ifCond .eq 5, 38, 0), (36, .iconst 0, 0, 0), (37, .ireturn, 0, 0), (38, .lload_n 1, 0, 0), (39, .iload 4, 0, 0), (41, .invokestatic 38, 128, 4), (44, .lor, 0, 0), (45, .lstore_n 1, 0, 0), (46, .iinc 3 1, 0, 0)], [(49, .goto (-45), 4, 0), (52, .iconst 1, 0, 0), (53, .ireturn, 0, 0)]]
def mx_t61 : List (List (List (Nat × mx_I))) := [mx_t61_0]
def mx_t62_0 : List (List (Nat × mx_I)) := [[(0, .aload_n 0, 0, 0), (1, .invokespecial 1, 0, 27), (4, .aload_n 0, 0, 0), (5, .aload_n 1, 0, 0), (6, .putfield 7, 600, 0), (9, .aload_n 0, 0, 0), (10, .aload_n 2, 0, 0), (11, .putfield 13, 601, 0), (14, .return_, 0, 0)]]
def mx_t62 : List (List (List (Nat × mx_I))) := [mx_t62_0]
def mx_t63_0 : List (List (Nat × mx_I)) := [[(0, .aload_n 0, 0, 0), (1, .invokespecial 3, 0, 27), (4, .aload_n 0, 0, 0), (5, .bipush 7, 0, 0), (7, .newarray .int, 0, 0), (9, .putfield 9, 700, 0), (12, .aload_n 0, 0, 0), (13, .sipush 896, 0, 0)], [(16, .newarray .int, 0, 0), (18, .putfield 15, 702, 0), (21, .aload_n 0, 0, 0), (22, .bipush 28, 0, 0), (24, .newarray .int, 0, 0), (26, .putfield 18, 703, 0), (29, .aload_n 0, 0, 0), (30, .iconst 4, 0, 0), (31, .newarray .int, 0, 0)], [(33, .putfield 21, 704, 0), (36, .return_, 0, 0)]]
def mx_t63 : List (List (List (Nat × mx_I))) := [mx_t63_0]
def mx_t64_0 : List (List (Nat × mx_I)) := [[(0, .aload_n 0, 0, 0), (1, .iconst 0, 0, 0), (2, .putfield 24, 701, 0), (5, .iconst 0, 0, 0), (6, .istore_n 2, 0, 0), (7, .iload_n 2, 0, 0), (8, .bipush 36, 0, 0), (10, .if_icmp .ge 48, 58, 0), (13, .aload_n 1, 0, 0), (14, .iload_n 2, 0, 0), (15, .invokevirtual 28, 5, 1)], [(18, .ifCond .eq 34, 52, 0), (21, .aload_n 0, 0, 0), (22, .getfield 24, 701, 0), (25, .bipush 7, 0, 0), (27, .if_icmp .lt 5, 32, 0), (30, .iconst 0, 0, 0), (31, .ireturn, 0, 0)], [(32, .aload_n 0, 0, 0), (33, .getfield 9, 700, 0), (36, .aload_n 0, 0, 0), (37, .getfield 24, 701, 0), (40, .iload_n 2, 0, 0), (41, .iastore, 0, 0), (42, .aload_n 0, 0, 0), (43, .dup, 0, 0), (44, .getfield 24, 701, 0), (47, .iconst 1, 0, 0)], [(48, .iadd, 0, 0), (49, .putfield 24, 701, 0), (52, .iinc 2 1, 0, 0), (55, .goto (-48), 7, 0), (58, .iconst 1, 0, 0), (59, .ireturn, 0, 0)]]
def mx_t64 : List (List (List (Nat × mx_I))) := [mx_t64_0]
def mx_t65_0 : List (List (Nat × mx_I)) := [[(0, .iconst 1, 0, 0), (1, .aload_n 0, 0, 0), (2, .getfield 24, 701, 0), (5, .ishl, 0, 0), (6, .iconst 1, 0, 0), (7, .isub, 0, 0), (8, .istore 4, 0, 0), (10, .iload 4, 0, 0), (12, .istore 5, 0, 0), (14, .iload 5, 0, 0)], [(16, .ifCond .le 58, 74, 0), (19, .iconst 0, 0, 0), (20, .istore 6, 0, 0), (22, .iload 6, 0, 0), (24, .aload_n 0, 0, 0), (25, .getfield 24, 701, 0), (28, .if_icmp .ge 40, 68, 0), (31, .aload_n 0, 0, 0)], [(32, .iload 5, 0, 0), (34, .bipush 7, 0, 0), (36, .imul, 0, 0), (37, .iload 6, 0, 0), (39, .iadd, 0, 0), (40, .iload 5, 0, 0), (42, .iload 4, 0, 0), (44, .if_icmp .ne 7, 51, 0), (47, .iconst 0, 0, 0)], [(48, .goto 11, 59, 0), (51, .aload_n 0, 0, 0), (52, .iload 5, 0, 0), (54, .iload 6, 0, 0), (56, .invokevirtual 34, 66, 1), (59, .invokevirtual 38, 75, 1), (62, .iinc 6 1, 0, 0)], [(65, .goto (-43), 22, 0), (68, .iinc 5 (-1), 0, 0), (71, .goto (-57), 14, 0), (74, .aload_n 0, 0, 0), (75, .iconst 0, 0, 0), (76, .putfield 42, 705, 0), (79, .aload_n 0, 0, 0)], [(80, .iconst (-1), 0, 0), (81, .putfield 45, 706, 0), (84, .iconst 0, 0, 0), (85, .istore 5, 0, 0), (87, .iconst 0, 0, 0), (88, .istore 6, 0, 0), (90, .iload 6, 0, 0), (92, .aload_n 0, 0, 0), (93, .getfield 24, 701, 0)], [(96, .if_icmp .ge 89, 185, 0), (99, .aload_n 2, 0, 0), (100, .getfield 48, 202, 0), (103, .aload_n 0, 0, 0), (104, .iload 6, 0, 0), (106, .invokevirtual 53, 73, 1), (109, .invokestatic 57, 127, 4)], [(112, .aload_n 0, 0, 0), (113, .iconst 1, 0, 0), (114, .iload 6, 0, 0), (116, .ishl, 0, 0), (117, .bipush 7, 0, 0), (119, .imul, 0, 0), (120, .iload 6, 0, 0), (122, .iadd, 0, 0), (123, .invokevirtual 60, 74, 1), (126, .iadd, 0, 0), (127, .istore 7, 0, 0)]]
def mx_t65_1 : List (List (Nat × mx_I)) := [[(129, .aload_n 0, 0, 0), (130, .getfield 45, 706, 0), (133, .iconst (-1), 0, 0), (134, .if_icmp .eq 12, 146, 0), (137, .iload 7, 0, 0), (139, .aload_n 0, 0, 0), (140, .getfield 42, 705, 0), (143, .if_icmp .ge 19, 162, 0)], [(146, .aload_n 0, 0, 0), (147, .iload 7, 0, 0), (149, .putfield 42, 705, 0), (152, .aload_n 0, 0, 0), (153, .aload_n 0, 0, 0), (154, .iload 6, 0, 0), (156, .invokevirtual 53, 73, 1), (159, .putfield 45, 706, 0)], [(162, .iload 5, 0, 0), (164, .aload_n 3, 0, 0), (165, .aload_n 1, 0, 0), (166, .aload_n 2, 0, 0), (167, .aload_n 0, 0, 0), (168, .iload 6, 0, 0), (170, .invokevirtual 53, 73, 1), (173, .invokevirtual 63, 46, 1)], [(176, .iadd, 0, 0), (177, .istore 5, 0, 0), (179, .iinc 6 1, 0, 0), (182, .goto (-92), 90, 0), (185, .aload_n 0, 0, 0), (186, .dup, 0, 0), (187, .getfield 42, 705, 0), (190, .iload 5, 0, 0)], [(192, .iadd, 0, 0), (193, .putfield 42, 705, 0), (196, .return_, 0, 0)]]
def mx_t65 : List (List (List (Nat × mx_I))) := [mx_t65_0, mx_t65_1]
def mx_t66_0 : List (List (Nat × mx_I)) := [[(0, .ldc 69, 0, 1000000), (2, .istore_n 3, 0, 0), (3, .iconst 0, 0, 0), (4, .istore 4, 0, 0), (6, .iload 4, 0, 0), (8, .aload_n 0, 0, 0), (9, .getfield 24, 701, 0), (12, .if_icmp .ge 58, 70, 0), (15, .iload_n 1, 0, 0)], [(16, .iload 4, 0, 0), (18, .ishr, 0, 0), (19, .iconst 1, 0, 0), (20, .iand, 0, 0), (21, .ifCond .ne 43, 64, 0), (24, .aload_n 0, 0, 0), (25, .iload_n 2, 0, 0), (26, .invokevirtual 53, 73, 1), (29, .aload_n 0, 0, 0), (30, .iload 4, 0, 0)], [(32, .invokevirtual 53, 73, 1), (35, .invokestatic 57, 127, 4), (38, .aload_n 0, 0, 0), (39, .iload_n 1, 0, 0), (40, .iconst 1, 0, 0), (41, .iload 4, 0, 0), (43, .ishl, 0, 0), (44, .ior, 0, 0), (45, .bipush 7, 0, 0), (47, .imul, 0, 0)], [(48, .iload 4, 0, 0), (50, .iadd, 0, 0), (51, .invokevirtual 60, 74, 1), (54, .iadd, 0, 0), (55, .istore 5, 0, 0), (57, .iload_n 3, 0, 0), (58, .iload 5, 0, 0), (60, .invokestatic 70, 0, 21), (63, .istore_n 3, 0, 0)], [(64, .iinc 4 1, 0, 0), (67, .goto (-61), 6, 0), (70, .iload_n 3, 0, 0), (71, .ireturn, 0, 0)]]
def mx_t66 : List (List (List (Nat × mx_I))) := [mx_t66_0]
def mx_t67_0 : List (List (Nat × mx_I)) := [[(0, .aload_n 1, 0, 0), (1, .getfield 75, 3, 0), (4, .istore_n 3, 0, 0), (5, .iconst 0, 0, 0), (6, .istore 4, 0, 0), (8, .iload 4, 0, 0), (10, .iload_n 3, 0, 0), (11, .if_icmp .ge 17, 28, 0), (14, .aload_n 0, 0, 0), (15, .aload_n 1, 0, 0)], [(16, .aload_n 2, 0, 0), (17, .iload 4, 0, 0), (19, .invokevirtual 78, 68, 1), (22, .iinc 4 1, 0, 0), (25, .goto (-17), 8, 0), (28, .iconst 1, 0, 0), (29, .aload_n 0, 0, 0), (30, .getfield 24, 701, 0)], [(33, .ishl, 0, 0), (34, .istore 4, 0, 0), (36, .iload_n 3, 0, 0), (37, .aload_n 0, 0, 0), (38, .getfield 24, 701, 0), (41, .invokestatic 70, 0, 21), (44, .istore 5, 0, 0), (46, .iconst 0, 0, 0), (47, .istore 6, 0, 0)], [(49, .iload 6, 0, 0), (51, .iload 4, 0, 0), (53, .if_icmp .ge 37, 90, 0), (56, .aload_n 0, 0, 0), (57, .iload_n 3, 0, 0), (58, .sipush 128, 0, 0), (61, .imul, 0, 0), (62, .iload 6, 0, 0)], [(64, .iadd, 0, 0), (65, .iload 6, 0, 0), (67, .invokestatic 82, 212, 3), (70, .iload 5, 0, 0), (72, .if_icmp .ne 7, 79, 0), (75, .iconst 0, 0, 0), (76, .goto 5, 81, 0), (79, .ldc 69, 0, 1000000)], [(81, .invokevirtual 38, 75, 1), (84, .iinc 6 1, 0, 0), (87, .goto (-38), 49, 0), (90, .iload_n 3, 0, 0), (91, .iconst 1, 0, 0), (92, .isub, 0, 0), (93, .istore 6, 0, 0), (95, .iload 6, 0, 0)], [(97, .ifCond .lt 46, 143, 0), (100, .iconst 0, 0, 0), (101, .istore 7, 0, 0), (103, .iload 7, 0, 0), (105, .iload 4, 0, 0), (107, .if_icmp .ge 30, 137, 0), (110, .aload_n 0, 0, 0), (111, .iload 6, 0, 0)], [(113, .sipush 128, 0, 0), (116, .imul, 0, 0), (117, .iload 7, 0, 0), (119, .iadd, 0, 0), (120, .aload_n 0, 0, 0), (121, .iload 6, 0, 0), (123, .iload 7, 0, 0), (125, .invokevirtual 87, 69, 1)]]
def mx_t67_1 : List (List (Nat × mx_I)) := [[(128, .invokevirtual 38, 75, 1), (131, .iinc 7 1, 0, 0), (134, .goto (-31), 103, 0), (137, .iinc 6 (-1), 0, 0), (140, .goto (-45), 95, 0), (143, .aload_n 0, 0, 0)], [(144, .aload_n 0, 0, 0), (145, .iconst 0, 0, 0), (146, .invokevirtual 60, 74, 1), (149, .putfield 42, 705, 0), (152, .aload_n 0, 0, 0), (153, .iload_n 3, 0, 0), (154, .invokevirtual 90, 71, 1), (157, .return_, 0, 0)]]
def mx_t67 : List (List (List (Nat × mx_I))) := [mx_t67_0, mx_t67_1]
def mx_t68_0 : List (List (Nat × mx_I)) := [[(0, .aload_n 1, 0, 0), (1, .iload_n 3, 0, 0), (2, .invokevirtual 94, 2, 1), (5, .astore 4, 0, 0), (7, .iconst 0, 0, 0), (8, .istore 5, 0, 0), (10, .iload 5, 0, 0), (12, .aload_n 0, 0, 0), (13, .getfield 24, 701, 0)], [(16, .if_icmp .ge 58, 74, 0), (19, .iload_n 3, 0, 0), (20, .bipush 7, 0, 0), (22, .imul, 0, 0), (23, .iload 5, 0, 0), (25, .iadd, 0, 0), (26, .istore 6, 0, 0), (28, .aload 4, 0, 0), (30, .ifnull 38, 68, 0)], [(33, .iload 6, 0, 0), (35, .ifCond .lt 33, 68, 0), (38, .iload 6, 0, 0), (40, .aload_n 0, 0, 0), (41, .getfield 18, 703, 0), (44, .arraylength, 0, 0), (45, .if_icmp .ge 23, 68, 0)], [(48, .aload_n 0, 0, 0), (49, .getfield 18, 703, 0), (52, .iload 6, 0, 0), (54, .aload_n 2, 0, 0), (55, .aload_n 1, 0, 0), (56, .aload 4, 0, 0), (58, .aload_n 0, 0, 0), (59, .iload 5, 0, 0), (61, .invokevirtual 53, 73, 1)], [(64, .invokevirtual 98, 49, 1), (67, .iastore, 0, 0), (68, .iinc 5 1, 0, 0), (71, .goto (-61), 10, 0), (74, .return_, 0, 0)]]
def mx_t68 : List (List (List (Nat × mx_I))) := [mx_t68_0]
def mx_t69_0 : List (List (Nat × mx_I)) := [[(0, .aload_n 0, 0, 0), (1, .iload_n 1, 0, 0), (2, .iconst 1, 0, 0), (3, .iadd, 0, 0), (4, .sipush 128, 0, 0), (7, .imul, 0, 0), (8, .iload_n 2, 0, 0), (9, .iadd, 0, 0), (10, .invokevirtual 60, 74, 1), (13, .istore_n 3, 0, 0), (14, .iconst 0, 0, 0), (15, .istore 4, 0, 0)], [(17, .iload 4, 0, 0), (19, .aload_n 0, 0, 0), (20, .getfield 24, 701, 0), (23, .if_icmp .ge 31, 54, 0), (26, .iload_n 2, 0, 0), (27, .iload 4, 0, 0), (29, .ishr, 0, 0), (30, .iconst 1, 0, 0), (31, .iand, 0, 0)], [(32, .ifCond .ne 16, 48, 0), (35, .iload_n 3, 0, 0), (36, .aload_n 0, 0, 0), (37, .iload_n 1, 0, 0), (38, .iload_n 2, 0, 0), (39, .iload 4, 0, 0), (41, .invokevirtual 101, 70, 1), (44, .invokestatic 70, 0, 21), (47, .istore_n 3, 0, 0)], [(48, .iinc 4 1, 0, 0), (51, .goto (-34), 17, 0), (54, .iload_n 3, 0, 0), (55, .ireturn, 0, 0)]]
def mx_t69 : List (List (List (Nat × mx_I))) := [mx_t69_0]
def mx_t70_0 : List (List (Nat × mx_I)) := [[(0, .iload_n 1, 0, 0), (1, .bipush 7, 0, 0), (3, .imul, 0, 0), (4, .iload_n 3, 0, 0), (5, .iadd, 0, 0), (6, .istore 4, 0, 0), (8, .iload 4, 0, 0), (10, .ifCond .lt 23, 33, 0), (13, .iload 4, 0, 0), (15, .aload_n 0, 0, 0)], [(16, .getfield 18, 703, 0), (19, .arraylength, 0, 0), (20, .if_icmp .ge 13, 33, 0), (23, .aload_n 0, 0, 0), (24, .getfield 18, 703, 0), (27, .iload 4, 0, 0), (29, .iaload, 0, 0), (30, .goto 5, 35, 0)], [(33, .ldc 69, 0, 1000000), (35, .istore 5, 0, 0), (37, .iload 5, 0, 0), (39, .aload_n 0, 0, 0), (40, .iload_n 1, 0, 0), (41, .iconst 1, 0, 0), (42, .iadd, 0, 0), (43, .sipush 128, 0, 0), (46, .imul, 0, 0), (47, .iload_n 2, 0, 0)], [(48, .iconst 1, 0, 0), (49, .iload_n 3, 0, 0), (50, .ishl, 0, 0), (51, .ior, 0, 0), (52, .iadd, 0, 0), (53, .invokevirtual 60, 74, 1), (56, .iadd, 0, 0), (57, .ireturn, 0, 0)]]
def mx_t70 : List (List (List (Nat × mx_I))) := [mx_t70_0]
def mx_t71_0 : List (List (Nat × mx_I)) := [[(0, .iconst 0, 0, 0), (1, .istore_n 2, 0, 0), (2, .iconst 0, 0, 0), (3, .istore_n 3, 0, 0), (4, .iload_n 3, 0, 0), (5, .iload_n 1, 0, 0), (6, .if_icmp .ge 111, 117, 0), (9, .iload_n 3, 0, 0), (10, .iconst 4, 0, 0), (11, .if_icmp .ge 106, 117, 0), (14, .aload_n 0, 0, 0), (15, .getfield 21, 704, 0)], [(18, .iload_n 3, 0, 0), (19, .iconst (-1), 0, 0), (20, .iastore, 0, 0), (21, .iconst 0, 0, 0), (22, .istore 4, 0, 0), (24, .iload 4, 0, 0), (26, .aload_n 0, 0, 0), (27, .getfield 24, 701, 0), (30, .if_icmp .ge 81, 111, 0)], [(33, .aload_n 0, 0, 0), (34, .getfield 21, 704, 0), (37, .iload_n 3, 0, 0), (38, .iaload, 0, 0), (39, .iconst (-1), 0, 0), (40, .if_icmp .ne 71, 111, 0), (43, .iload_n 2, 0, 0), (44, .iload 4, 0, 0), (46, .ishr, 0, 0), (47, .iconst 1, 0, 0)], [(48, .iand, 0, 0), (49, .ifCond .ne 7, 56, 0), (52, .iconst 1, 0, 0), (53, .goto 4, 57, 0), (56, .iconst 0, 0, 0), (57, .istore 5, 0, 0), (59, .iload 5, 0, 0), (61, .ifCond .eq 44, 105, 0)], [(64, .aload_n 0, 0, 0), (65, .iload_n 3, 0, 0), (66, .iload_n 2, 0, 0), (67, .iload 4, 0, 0), (69, .invokevirtual 101, 70, 1), (72, .aload_n 0, 0, 0), (73, .iload_n 3, 0, 0), (74, .sipush 128, 0, 0), (77, .imul, 0, 0), (78, .iload_n 2, 0, 0), (79, .iadd, 0, 0)], [(80, .invokevirtual 60, 74, 1), (83, .if_icmp .ne 22, 105, 0), (86, .aload_n 0, 0, 0), (87, .getfield 21, 704, 0), (90, .iload_n 3, 0, 0), (91, .aload_n 0, 0, 0), (92, .iload 4, 0, 0), (94, .invokevirtual 53, 73, 1)], [(97, .iastore, 0, 0), (98, .iload_n 2, 0, 0), (99, .iconst 1, 0, 0), (100, .iload 4, 0, 0), (102, .ishl, 0, 0), (103, .ior, 0, 0), (104, .istore_n 2, 0, 0), (105, .iinc 4 1, 0, 0), (108, .goto (-84), 24, 0), (111, .iinc 3 1, 0, 0)], [(114, .goto (-110), 4, 0), (117, .return_, 0, 0)]]
def mx_t71 : List (List (List (Nat × mx_I))) := [mx_t71_0]
def mx_t72_0 : List (List (Nat × mx_I)) := [[(0, .iload_n 1, 0, 0), (1, .ifCond .lt 17, 18, 0), (4, .iload_n 1, 0, 0), (5, .iconst 4, 0, 0), (6, .if_icmp .ge 12, 18, 0), (9, .aload_n 0, 0, 0), (10, .getfield 21, 704, 0), (13, .iload_n 1, 0, 0), (14, .iaload, 0, 0), (15, .goto 4, 19, 0)], [(18, .iconst (-1), 0, 0), (19, .ireturn, 0, 0)]]
def mx_t72 : List (List (List (Nat × mx_I))) := [mx_t72_0]
def mx_t73_0 : List (List (Nat × mx_I)) := [[(0, .iload_n 1, 0, 0), (1, .ifCond .lt 18, 19, 0), (4, .iload_n 1, 0, 0), (5, .bipush 7, 0, 0), (7, .if_icmp .ge 12, 19, 0), (10, .aload_n 0, 0, 0), (11, .getfield 9, 700, 0), (14, .iload_n 1, 0, 0), (15, .iaload, 0, 0)], [(16, .goto 4, 20, 0), (19, .iconst 0, 0, 0), (20, .ireturn, 0, 0)]]
def mx_t73 : List (List (List (Nat × mx_I))) := [mx_t73_0]
def mx_t74_0 : List (List (Nat × mx_I)) := [[(0, .iload_n 1, 0, 0), (1, .ifCond .lt 21, 22, 0), (4, .iload_n 1, 0, 0), (5, .aload_n 0, 0, 0), (6, .getfield 15, 702, 0), (9, .arraylength, 0, 0), (10, .if_icmp .ge 12, 22, 0), (13, .aload_n 0, 0, 0), (14, .getfield 15, 702, 0)], [(17, .iload_n 1, 0, 0), (18, .iaload, 0, 0), (19, .goto 5, 24, 0), (22, .ldc 69, 0, 1000000), (24, .ireturn, 0, 0)]]
def mx_t74 : List (List (List (Nat × mx_I))) := [mx_t74_0]
def mx_t75_0 : List (List (Nat × mx_I)) := [[(0, .iload_n 1, 0, 0), (1, .ifCond .lt 19, 20, 0), (4, .iload_n 1, 0, 0), (5, .aload_n 0, 0, 0), (6, .getfield 15, 702, 0), (9, .arraylength, 0, 0), (10, .if_icmp .ge 10, 20, 0), (13, .aload_n 0, 0, 0), (14, .getfield 15, 702, 0)], [(17, .iload_n 1, 0, 0), (18, .iload_n 2, 0, 0), (19, .iastore, 0, 0), (20, .return_, 0, 0)]]
def mx_t75 : List (List (List (Nat × mx_I))) := [mx_t75_0]
def mx_t76_0 : List (List (Nat × mx_I)) := [[(0, .aload_n 0, 0, 0), (1, .invokespecial 1, 0, 27), (4, .aload_n 0, 0, 0), (5, .new 7, 0, 0), (8, .dup, 0, 0), (9, .invokespecial 9, 0, 5), (12, .putfield 10, 800, 0), (15, .aload_n 0, 0, 0)], [(16, .new 7, 0, 0), (19, .dup, 0, 0), (20, .invokespecial 9, 0, 5), (23, .putfield 16, 801, 0), (26, .aload_n 0, 0, 0), (27, .new 7, 0, 0), (30, .dup, 0, 0), (31, .invokespecial 9, 0, 5)], [(34, .putfield 19, 802, 0), (37, .aload_n 0, 0, 0), (38, .iconst 0, 0, 0), (39, .putfield 22, 803, 0), (42, .aload_n 0, 0, 0), (43, .new 26, 3, 0), (46, .dup, 0, 0), (47, .invokespecial 28, 18, 6)], [(50, .putfield 29, 804, 0), (53, .aload_n 0, 0, 0), (54, .new 33, 4, 0), (57, .dup, 0, 0), (58, .invokespecial 35, 43, 6), (61, .putfield 36, 805, 0)], [(64, .aload_n 0, 0, 0), (65, .new 40, 1, 0), (68, .dup, 0, 0), (69, .invokespecial 42, 12, 6), (72, .putfield 43, 806, 0), (75, .aload_n 0, 0, 0), (76, .new 47, 7, 0), (79, .dup, 0, 0)], [(80, .invokespecial 49, 63, 6), (83, .putfield 50, 807, 0), (86, .aload_n 0, 0, 0), (87, .iconst 4, 0, 0), (88, .anewarray 54, 5, 0), (91, .putfield 56, 808, 0), (94, .iconst 0, 0, 0), (95, .istore_n 1, 0, 0)], [(96, .iload_n 1, 0, 0), (97, .iconst 4, 0, 0), (98, .if_icmp .ge 22, 120, 0), (101, .aload_n 0, 0, 0), (102, .getfield 56, 808, 0), (105, .iload_n 1, 0, 0), (106, .new 54, 5, 0), (109, .dup, 0, 0), (110, .invokespecial 60, 56, 6)], [(113, .aastore, 0, 0), (114, .iinc 1 1, 0, 0), (117, .goto (-21), 96, 0), (120, .iconst 0, 0, 0), (121, .istore_n 1, 0, 0), (122, .iload_n 1, 0, 0), (123, .ldc 61, 1, 0), (125, .invokevirtual 63, 0, 25)]]
def mx_t76_1 : List (List (Nat × mx_I)) := [[(128, .if_icmp .ge 23, 151, 0), (131, .aload_n 0, 0, 0), (132, .getfield 29, 804, 0), (135, .ldc 61, 1, 0), (137, .iload_n 1, 0, 0), (138, .invokevirtual 69, 0, 26), (141, .invokevirtual 73, 19, 1)], [(144, .pop, 0, 0), (145, .iinc 1 1, 0, 0), (148, .goto (-26), 122, 0), (151, .aload_n 0, 0, 0), (152, .getfield 29, 804, 0), (155, .invokevirtual 77, 22, 1), (158, .aload_n 0, 0, 0), (159, .getfield 36, 805, 0)], [(162, .aload_n 0, 0, 0), (163, .getfield 29, 804, 0), (166, .invokevirtual 80, 21, 1), (169, .invokevirtual 84, 44, 1), (172, .pop, 0, 0), (173, .aload_n 0, 0, 0), (174, .getfield 29, 804, 0)], [(177, .invokevirtual 88, 20, 1), (180, .return_, 0, 0)]]
def mx_t76 : List (List (List (Nat × mx_I))) := [mx_t76_0, mx_t76_1]
def mx_t77_0 : List (List (Nat × mx_I)) := [[(0, .aload_n 0, 0, 0), (1, .iload_n 2, 0, 0), (2, .iload_n 1, 0, 0), (3, .invokevirtual 91, 80, 1), (6, .istore 4, 0, 0), (8, .iload 4, 0, 0), (10, .ifCond .lt 20, 30, 0), (13, .iload_n 1, 0, 0), (14, .iconst 4, 0, 0), (15, .if_icmp .gt 15, 30, 0)], [(18, .iload_n 3, 0, 0), (19, .ifCond .lt 11, 30, 0), (22, .iload_n 3, 0, 0), (23, .iload_n 1, 0, 0), (24, .invokestatic 95, 78, 3), (27, .if_icmp .le 6, 33, 0), (30, .bipush (-2), 0, 0)], [(32, .ireturn, 0, 0), (33, .aload_n 0, 0, 0), (34, .getfield 10, 800, 0), (37, .iload_n 2, 0, 0), (38, .invokevirtual 98, 2, 1), (41, .astore 5, 0, 0), (43, .iload_n 1, 0, 0), (44, .ifCond .ne 14, 58, 0), (47, .aload_n 0, 0, 0)], [(48, .getfield 10, 800, 0), (51, .iload_n 3, 0, 0), (52, .putfield 102, 4, 0), (55, .goto 88, 143, 0), (58, .iload_n 1, 0, 0), (59, .iconst 1, 0, 0), (60, .if_icmp .ne 23, 83, 0), (63, .iload_n 2, 0, 0)], [(64, .invokestatic 106, 126, 3), (67, .ifCond .eq 16, 83, 0), (70, .aload_n 0, 0, 0), (71, .getfield 10, 800, 0), (74, .getfield 110, 0, 0), (77, .iload_n 2, 0, 0), (78, .iload_n 3, 0, 0), (79, .iastore, 0, 0)], [(80, .goto 63, 143, 0), (83, .iload_n 1, 0, 0), (84, .iconst 2, 0, 0), (85, .if_icmp .ne 23, 108, 0), (88, .iload_n 2, 0, 0), (89, .invokestatic 106, 126, 3), (92, .ifCond .eq 16, 108, 0), (95, .aload_n 0, 0, 0)], [(96, .getfield 10, 800, 0), (99, .getfield 114, 1, 0), (102, .iload_n 2, 0, 0), (103, .iload_n 3, 0, 0), (104, .iastore, 0, 0), (105, .goto 38, 143, 0), (108, .iload_n 1, 0, 0), (109, .iconst 3, 0, 0), (110, .if_icmp .ne 17, 127, 0)], [(113, .aload 5, 0, 0), (115, .ifnull 12, 127, 0), (118, .aload 5, 0, 0), (120, .iload_n 3, 0, 0), (121, .putfield 117, 201, 0), (124, .goto 19, 143, 0), (127, .iload_n 1, 0, 0)]]
def mx_t77_1 : List (List (Nat × mx_I)) := [[(128, .iconst 4, 0, 0), (129, .if_icmp .ne 14, 143, 0), (132, .aload 5, 0, 0), (134, .ifnull 9, 143, 0), (137, .aload 5, 0, 0), (139, .iload_n 3, 0, 0), (140, .putfield 122, 202, 0), (143, .iload 4, 0, 0)], [(145, .ireturn, 0, 0)]]
def mx_t77 : List (List (List (Nat × mx_I))) := [mx_t77_0, mx_t77_1]
def mx_t78_0 : List (List (Nat × mx_I)) := [[(0, .iload_n 0, 0, 0), (1, .tableswitch 41 0 3 #[31, 35, 35, 38], 31, 0)], [], [(32, .sipush 999, 0, 0), (35, .ireturn, 0, 0), (36, .bipush 9, 0, 0), (38, .ireturn, 0, 0), (39, .bipush 9, 0, 0), (41, .ireturn, 0, 0), (42, .bipush 35, 0, 0), (44, .ireturn, 0, 0)]]
def mx_t78 : List (List (List (Nat × mx_I))) := [mx_t78_0]
def mx_t79_0 : List (List (Nat × mx_I)) := [[(0, .iload_n 1, 0, 0), (1, .ifCond .lt 26, 27, 0), (4, .iload_n 1, 0, 0), (5, .bipush 6, 0, 0), (7, .if_icmp .ge 20, 27, 0), (10, .iload_n 2, 0, 0), (11, .ifCond .lt 16, 27, 0), (14, .iload_n 2, 0, 0), (15, .bipush 9, 0, 0)], [(17, .if_icmp .gt 10, 27, 0), (20, .iload_n 3, 0, 0), (21, .invokestatic 106, 126, 3), (24, .ifCond .ne 6, 30, 0), (27, .bipush (-2), 0, 0), (29, .ireturn, 0, 0), (30, .aload_n 0, 0, 0), (31, .getfield 10, 800, 0)], [(34, .iload_n 1, 0, 0), (35, .iload_n 2, 0, 0), (36, .iload_n 3, 0, 0), (37, .invokevirtual 125, 3, 1), (40, .ireturn, 0, 0)]]
def mx_t79 : List (List (List (Nat × mx_I))) := [mx_t79_0]
def mx_t80_0 : List (List (Nat × mx_I)) := [[(0, .iload_n 2, 0, 0), (1, .ifCond .ne 11, 12, 0), (4, .aload_n 0, 0, 0), (5, .getfield 10, 800, 0), (8, .getfield 102, 4, 0), (11, .ireturn, 0, 0), (12, .iload_n 2, 0, 0), (13, .iconst 1, 0, 0), (14, .if_icmp .ne 25, 39, 0)], [(17, .iload_n 1, 0, 0), (18, .invokestatic 106, 126, 3), (21, .ifCond .eq 15, 36, 0), (24, .aload_n 0, 0, 0), (25, .getfield 10, 800, 0), (28, .getfield 110, 0, 0), (31, .iload_n 1, 0, 0)], [(32, .iaload, 0, 0), (33, .goto 5, 38, 0), (36, .bipush (-2), 0, 0), (38, .ireturn, 0, 0), (39, .iload_n 2, 0, 0), (40, .iconst 2, 0, 0), (41, .if_icmp .ne 12, 53, 0), (44, .aload_n 0, 0, 0), (45, .getfield 10, 800, 0)], [(48, .iload_n 1, 0, 0), (49, .invokevirtual 129, 4, 1), (52, .ireturn, 0, 0), (53, .aload_n 0, 0, 0), (54, .getfield 10, 800, 0), (57, .iload_n 1, 0, 0), (58, .invokevirtual 98, 2, 1), (61, .astore_n 3, 0, 0), (62, .aload_n 3, 0, 0), (63, .ifnonnull 6, 69, 0)], [(66, .bipush (-2), 0, 0), (68, .ireturn, 0, 0), (69, .iload_n 2, 0, 0), (70, .tableswitch 50 3 6 #[30, 35, 40, 45], 30, 0)], [], [(100, .aload_n 3, 0, 0), (101, .getfield 117, 201, 0), (104, .ireturn, 0, 0), (105, .aload_n 3, 0, 0), (106, .getfield 122, 202, 0), (109, .ireturn, 0, 0), (110, .aload_n 3, 0, 0), (111, .getfield 132, 200, 0)], [(114, .ireturn, 0, 0), (115, .aload_n 3, 0, 0), (116, .getfield 135, 203, 0), (119, .ireturn, 0, 0), (120, .bipush (-2), 0, 0), (122, .ireturn, 0, 0)]]
def mx_t80 : List (List (List (Nat × mx_I))) := [mx_t80_0]
def mx_t81_0 : List (List (Nat × mx_I)) := [[(0, .aload_n 0, 0, 0), (1, .getfield 10, 800, 0), (4, .iload_n 1, 0, 0), (5, .invokevirtual 98, 2, 1), (8, .astore 4, 0, 0), (10, .aload 4, 0, 0), (12, .ifnull 10, 22, 0), (15, .iload_n 2, 0, 0)], [(16, .invokestatic 106, 126, 3), (19, .ifCond .ne 6, 25, 0), (22, .bipush (-2), 0, 0), (24, .ireturn, 0, 0), (25, .iload_n 3, 0, 0), (26, .tableswitch 85 0 3 #[30, 45, 60, 70], 30, 0)], [], [(56, .aload_n 0, 0, 0), (57, .getfield 36, 805, 0), (60, .aload_n 0, 0, 0), (61, .getfield 10, 800, 0)], [(64, .aload 4, 0, 0), (66, .iload_n 2, 0, 0), (67, .invokevirtual 138, 46, 1), (70, .ireturn, 0, 0), (71, .aload_n 0, 0, 0), (72, .getfield 36, 805, 0), (75, .aload_n 0, 0, 0), (76, .getfield 10, 800, 0), (79, .aload 4, 0, 0)], [(81, .iload_n 2, 0, 0), (82, .invokevirtual 142, 47, 1), (85, .ireturn, 0, 0), (86, .aload 4, 0, 0), (88, .getfield 122, 202, 0), (91, .iload_n 2, 0, 0), (92, .invokestatic 145, 127, 3), (95, .ireturn, 0, 0)], [(96, .aload_n 0, 0, 0), (97, .getfield 36, 805, 0), (100, .aload_n 0, 0, 0), (101, .getfield 10, 800, 0), (104, .aload 4, 0, 0), (106, .iload_n 2, 0, 0), (107, .invokevirtual 148, 49, 1), (110, .ireturn, 0, 0), (111, .bipush (-2), 0, 0)], [(113, .ireturn, 0, 0)]]
def mx_t81 : List (List (List (Nat × mx_I))) := [mx_t81_0]
def mx_t82_0 : List (List (Nat × mx_I)) := [[(0, .iload_n 1, 0, 0), (1, .ifCond .lt 10, 11, 0), (4, .iload_n 1, 0, 0), (5, .sipush 255, 0, 0), (8, .if_icmp .le 8, 16, 0), (11, .bipush (-2), 0, 0), (13, .goto 11, 24, 0)], [(16, .aload_n 0, 0, 0), (17, .getfield 29, 804, 0), (20, .iload_n 1, 0, 0), (21, .invokevirtual 73, 19, 1), (24, .ireturn, 0, 0)]]
def mx_t82 : List (List (List (Nat × mx_I))) := [mx_t82_0]
def mx_t83_0 : List (List (Nat × mx_I)) := [[(0, .aload_n 0, 0, 0), (1, .getfield 36, 805, 0), (4, .getfield 151, 401, 0), (7, .bipush 6, 0, 0), (9, .if_icmp .lt 6, 15, 0), (12, .bipush (-4), 0, 0), (14, .ireturn, 0, 0), (15, .aload_n 0, 0, 0)], [(16, .getfield 29, 804, 0), (19, .invokevirtual 77, 22, 1), (22, .aload_n 0, 0, 0), (23, .getfield 29, 804, 0), (26, .invokevirtual 88, 20, 1), (29, .aload_n 0, 0, 0), (30, .getfield 29, 804, 0)], [(33, .getfield 154, 309, 0), (36, .iconst (-1), 0, 0), (37, .if_icmp .ne 20, 57, 0), (40, .aload_n 0, 0, 0), (41, .getfield 36, 805, 0), (44, .aload_n 0, 0, 0), (45, .getfield 29, 804, 0)], [(48, .invokevirtual 80, 21, 1), (51, .invokevirtual 84, 44, 1), (54, .goto 13, 67, 0), (57, .bipush (-100), 0, 0), (59, .aload_n 0, 0, 0), (60, .getfield 29, 804, 0), (63, .getfield 154, 309, 0)], [(66, .isub, 0, 0), (67, .ireturn, 0, 0)]]
def mx_t83 : List (List (List (Nat × mx_I))) := [mx_t83_0]
def mx_t84_0 : List (List (Nat × mx_I)) := [[(0, .aload_n 0, 0, 0), (1, .getfield 36, 805, 0), (4, .iload_n 1, 0, 0), (5, .invokevirtual 157, 45, 1), (8, .ifnonnull 6, 14, 0), (11, .bipush (-2), 0, 0), (13, .ireturn, 0, 0), (14, .aload_n 0, 0, 0), (15, .getfield 10, 800, 0)], [(18, .getfield 161, 5, 0), (21, .istore_n 2, 0, 0), (22, .aload_n 0, 0, 0), (23, .getfield 10, 800, 0), (26, .iload_n 1, 0, 0), (27, .putfield 161, 5, 0), (30, .iload_n 2, 0, 0), (31, .ireturn, 0, 0)]]
def mx_t84 : List (List (List (Nat × mx_I))) := [mx_t84_0]
def mx_t85_0 : List (List (Nat × mx_I)) := [[(0, .iload_n 1, 0, 0), (1, .ifCond .lt 9, 10, 0), (4, .iload_n 1, 0, 0), (5, .bipush 6, 0, 0), (7, .if_icmp .le 6, 13, 0), (10, .bipush (-2), 0, 0), (12, .ireturn, 0, 0), (13, .aload_n 0, 0, 0), (14, .getfield 10, 800, 0)], [(17, .getfield 102, 4, 0), (20, .sipush 999, 0, 0), (23, .if_icmp .lt 6, 29, 0), (26, .bipush (-3), 0, 0), (28, .ireturn, 0, 0), (29, .aload_n 0, 0, 0), (30, .getfield 36, 805, 0)], [(33, .aload_n 0, 0, 0), (34, .getfield 10, 800, 0), (37, .iload_n 1, 0, 0), (38, .invokevirtual 164, 51, 1), (41, .aload_n 0, 0, 0), (42, .getfield 10, 800, 0), (45, .invokevirtual 168, 6, 1)], [(48, .ireturn, 0, 0)]]
def mx_t85 : List (List (List (Nat × mx_I))) := [mx_t85_0]
def mx_t86_0 : List (List (Nat × mx_I)) := [[(0, .aload_n 0, 0, 0), (1, .getfield 10, 800, 0), (4, .iload_n 1, 0, 0), (5, .invokevirtual 98, 2, 1), (8, .astore_n 3, 0, 0), (9, .aload_n 3, 0, 0), (10, .ifnull 10, 20, 0), (13, .iload_n 2, 0, 0), (14, .invokestatic 106, 126, 3)], [(17, .ifCond .ne 8, 25, 0), (20, .bipush (-2), 0, 0), (22, .goto 16, 38, 0), (25, .aload_n 0, 0, 0), (26, .getfield 36, 805, 0), (29, .aload_n 0, 0, 0), (30, .getfield 10, 800, 0)], [(33, .aload_n 3, 0, 0), (34, .iload_n 2, 0, 0), (35, .invokevirtual 171, 50, 1), (38, .ireturn, 0, 0)]]
def mx_t86 : List (List (List (Nat × mx_I))) := [mx_t86_0]
def mx_t87_0 : List (List (Nat × mx_I)) := [[(0, .aload_n 0, 0, 0), (1, .getfield 10, 800, 0), (4, .iload_n 1, 0, 0), (5, .invokevirtual 98, 2, 1), (8, .astore_n 3, 0, 0), (9, .aload_n 3, 0, 0), (10, .ifnull 14, 24, 0), (13, .iload_n 2, 0, 0), (14, .ifCond .lt 10, 24, 0)], [(17, .iload_n 2, 0, 0), (18, .sipush 999, 0, 0), (21, .if_icmp .le 6, 27, 0), (24, .bipush (-2), 0, 0), (26, .ireturn, 0, 0), (27, .aload_n 0, 0, 0), (28, .getfield 43, 806, 0), (31, .aload_n 0, 0, 0)], [(32, .getfield 10, 800, 0), (35, .aload_n 3, 0, 0), (36, .aload_n 0, 0, 0), (37, .getfield 36, 805, 0), (40, .iload_n 2, 0, 0), (41, .invokevirtual 174, 13, 1), (44, .aload_n 0, 0, 0), (45, .getfield 43, 806, 0)], [(48, .getfield 178, 101, 0), (51, .ireturn, 0, 0)]]
def mx_t87 : List (List (List (Nat × mx_I))) := [mx_t87_0]
def mx_t88_0 : List (List (Nat × mx_I)) := [[(0, .aload_n 0, 0, 0), (1, .getfield 16, 801, 0), (4, .aload_n 0, 0, 0), (5, .getfield 10, 800, 0), (8, .invokevirtual 181, 1, 1), (11, .aload_n 0, 0, 0), (12, .getfield 16, 801, 0), (15, .iload_n 1, 0, 0)], [(16, .invokevirtual 98, 2, 1), (19, .astore 4, 0, 0), (21, .aload 4, 0, 0), (23, .ifnull 14, 37, 0), (26, .iload_n 2, 0, 0), (27, .ifCond .lt 10, 37, 0), (30, .iload_n 2, 0, 0), (31, .sipush 999, 0, 0)], [(34, .if_icmp .le 6, 40, 0), (37, .bipush (-2), 0, 0), (39, .ireturn, 0, 0), (40, .aload_n 0, 0, 0), (41, .getfield 43, 806, 0), (44, .aload_n 0, 0, 0), (45, .getfield 16, 801, 0)], [(48, .aload 4, 0, 0), (50, .aload_n 0, 0, 0), (51, .getfield 36, 805, 0), (54, .iload_n 2, 0, 0), (55, .invokevirtual 174, 13, 1), (58, .iload_n 3, 0, 0), (59, .tableswitch 59 0 3 #[29, 37, 45, 53], 29, 0)], [], [(88, .aload_n 0, 0, 0), (89, .getfield 43, 806, 0), (92, .getfield 185, 100, 0), (95, .ireturn, 0, 0)], [(96, .aload_n 0, 0, 0), (97, .getfield 43, 806, 0), (100, .getfield 178, 101, 0), (103, .ireturn, 0, 0), (104, .aload_n 0, 0, 0), (105, .getfield 16, 801, 0), (108, .invokevirtual 168, 6, 1), (111, .ireturn, 0, 0)], [(112, .aload 4, 0, 0), (114, .getfield 122, 202, 0), (117, .ireturn, 0, 0), (118, .bipush (-2), 0, 0), (120, .ireturn, 0, 0)]]
def mx_t88 : List (List (List (Nat × mx_I))) := [mx_t88_0]
def mx_t89_0 : List (List (Nat × mx_I)) := [[(0, .iload_n 1, 0, 0), (1, .ifCond .ne 11, 12, 0), (4, .aload_n 0, 0, 0), (5, .getfield 10, 800, 0), (8, .invokevirtual 188, 7, 1), (11, .lreturn, 0, 0), (12, .iload_n 1, 0, 0), (13, .bipush 10, 0, 0), (15, .if_icmp .lt 28, 43, 0)], [(18, .iload_n 1, 0, 0), (19, .bipush 10, 0, 0), (21, .isub, 0, 0), (22, .invokestatic 106, 126, 3), (25, .ifCond .eq 18, 43, 0), (28, .aload_n 0, 0, 0), (29, .getfield 10, 800, 0)], [(32, .invokevirtual 188, 7, 1), (35, .iload_n 1, 0, 0), (36, .bipush 10, 0, 0), (38, .isub, 0, 0), (39, .invokestatic 192, 93, 3), (42, .lreturn, 0, 0), (43, .iload_n 1, 0, 0), (44, .bipush 50, 0, 0), (46, .if_icmp .lt 17, 63, 0)], [(49, .aload_n 0, 0, 0), (50, .getfield 10, 800, 0), (53, .iload_n 1, 0, 0), (54, .bipush 50, 0, 0), (56, .isub, 0, 0), (57, .invokevirtual 98, 2, 1), (60, .goto 4, 64, 0), (63, .aconst_null, 0, 0)], [(64, .astore_n 2, 0, 0), (65, .aload_n 2, 0, 0), (66, .ifnonnull 9, 75, 0), (69, .ldc2_w 196, 0, (-4611686018427387904)), (72, .goto 15, 87, 0), (75, .aload_n 0, 0, 0), (76, .getfield 36, 805, 0), (79, .aload_n 0, 0, 0)], [(80, .getfield 10, 800, 0), (83, .aload_n 2, 0, 0), (84, .invokevirtual 198, 52, 1), (87, .lreturn, 0, 0)]]
def mx_t89 : List (List (List (Nat × mx_I))) := [mx_t89_0]
def mx_t90_0 : List (List (Nat × mx_I)) := [[(0, .iload_n 1, 0, 0), (1, .tableswitch 91 0 5 #[39, 47, 58, 69, 74, 83], 39, 0)], [], [(40, .aload_n 0, 0, 0), (41, .getfield 10, 800, 0), (44, .invokevirtual 168, 6, 1), (47, .ireturn, 0, 0)], [(48, .aload_n 0, 0, 0), (49, .getfield 10, 800, 0), (52, .invokevirtual 188, 7, 1), (55, .invokestatic 202, 91, 3), (58, .ireturn, 0, 0), (59, .aload_n 0, 0, 0), (60, .getfield 10, 800, 0), (63, .invokevirtual 188, 7, 1)], [(66, .invokestatic 206, 92, 3), (69, .ireturn, 0, 0), (70, .aload_n 0, 0, 0), (71, .invokevirtual 209, 95, 1), (74, .ireturn, 0, 0), (75, .aload_n 0, 0, 0), (76, .aload_n 0, 0, 0), (77, .invokevirtual 209, 95, 1)], [(80, .invokevirtual 212, 96, 1), (83, .ireturn, 0, 0), (84, .aload_n 0, 0, 0), (85, .getfield 10, 800, 0), (88, .invokevirtual 215, 8, 1), (91, .ireturn, 0, 0), (92, .bipush (-2), 0, 0), (94, .ireturn, 0, 0)]]
def mx_t90 : List (List (List (Nat × mx_I))) := [mx_t90_0]
def mx_t91_0 : List (List (Nat × mx_I)) := [[(0, .iconst 0, 0, 0), (1, .istore_n 2, 0, 0), (2, .lload_n 0, 0, 0), (3, .lstore_n 3, 0, 0), (4, .iconst 0, 0, 0), (5, .istore 5, 0, 0), (7, .iload 5, 0, 0), (9, .bipush 36, 0, 0), (11, .if_icmp .ge 34, 45, 0), (14, .lload_n 3, 0, 0), (15, .iload 5, 0, 0)], [(17, .invokestatic 218, 129, 3), (20, .ifCond .eq 19, 39, 0), (23, .lload_n 3, 0, 0), (24, .lload_n 0, 0, 0), (25, .iload 5, 0, 0), (27, .invokestatic 192, 93, 3), (30, .ldc2_w 222, 0, (-1))], [(33, .lxor, 0, 0), (34, .land, 0, 0), (35, .lstore_n 3, 0, 0), (36, .iinc 2 1, 0, 0), (39, .iinc 5 1, 0, 0), (42, .goto (-35), 7, 0), (45, .iload_n 2, 0, 0), (46, .ireturn, 0, 0)]]
def mx_t91 : List (List (List (Nat × mx_I))) := [mx_t91_0]
def mx_t92_0 : List (List (Nat × mx_I)) := [[(0, .iconst 0, 0, 0), (1, .istore_n 2, 0, 0), (2, .lload_n 0, 0, 0), (3, .lstore_n 3, 0, 0), (4, .iconst 0, 0, 0), (5, .istore 5, 0, 0), (7, .iload 5, 0, 0), (9, .bipush 36, 0, 0), (11, .if_icmp .ge 45, 56, 0), (14, .lload_n 3, 0, 0), (15, .iload 5, 0, 0)], [(17, .invokestatic 218, 129, 3), (20, .ifCond .eq 30, 50, 0), (23, .lload_n 0, 0, 0), (24, .iload 5, 0, 0), (26, .invokestatic 192, 93, 3), (29, .lstore 6, 0, 0), (31, .lload_n 3, 0, 0)], [(32, .lload 6, 0, 0), (34, .ldc2_w 222, 0, (-1)), (37, .lxor, 0, 0), (38, .land, 0, 0), (39, .lstore_n 3, 0, 0), (40, .iload_n 2, 0, 0), (41, .lload 6, 0, 0), (43, .invokestatic 224, 213, 3), (46, .invokestatic 229, 0, 20)], [(49, .istore_n 2, 0, 0), (50, .iinc 5 1, 0, 0), (53, .goto (-46), 7, 0), (56, .iload_n 2, 0, 0), (57, .ireturn, 0, 0)]]
def mx_t92 : List (List (List (Nat × mx_I))) := [mx_t92_0]
def mx_t93_0 : List (List (Nat × mx_I)) := [[(0, .lload_n 0, 0, 0), (1, .iload_n 2, 0, 0), (2, .invokestatic 218, 129, 3), (5, .ifCond .eq 10, 15, 0), (8, .iload_n 2, 0, 0), (9, .invokestatic 234, 128, 3), (12, .goto 4, 16, 0), (15, .lconst 0, 0, 0)], [(16, .lstore_n 3, 0, 0), (17, .iconst 0, 0, 0), (18, .istore 5, 0, 0), (20, .iload 5, 0, 0), (22, .bipush 36, 0, 0), (24, .if_icmp .ge 30, 54, 0), (27, .lload_n 0, 0, 0), (28, .lload_n 3, 0, 0), (29, .invokestatic 238, 94, 3)], [(32, .land, 0, 0), (33, .lstore 6, 0, 0), (35, .lload 6, 0, 0), (37, .lload_n 3, 0, 0), (38, .lcmp, 0, 0), (39, .ifCond .ne 6, 45, 0), (42, .goto 12, 54, 0), (45, .lload 6, 0, 0), (47, .lstore_n 3, 0, 0)], [(48, .iinc 5 1, 0, 0), (51, .goto (-31), 20, 0), (54, .lload_n 3, 0, 0), (55, .lreturn, 0, 0)]]
def mx_t93 : List (List (List (Nat × mx_I))) := [mx_t93_0]
def mx_t94_0 : List (List (Nat × mx_I)) := [[(0, .lload_n 0, 0, 0), (1, .ldc2_w 242, 0, (-34905131041)), (4, .land, 0, 0), (5, .iconst 1, 0, 0), (6, .lshl, 0, 0), (7, .lload_n 0, 0, 0), (8, .ldc2_w 244, 0, (-1090785346)), (11, .land, 0, 0), (12, .iconst 1, 0, 0), (13, .lushr, 0, 0), (14, .lor, 0, 0), (15, .lstore_n 2, 0, 0)], [(16, .lload_n 0, 0, 0), (17, .lload_n 2, 0, 0), (18, .lor, 0, 0), (19, .lload_n 0, 0, 0), (20, .bipush 6, 0, 0), (22, .lshl, 0, 0), (23, .lor, 0, 0), (24, .lload_n 0, 0, 0), (25, .bipush 6, 0, 0), (27, .lushr, 0, 0), (28, .lor, 0, 0), (29, .lreturn, 0, 0)]]
def mx_t94 : List (List (List (Nat × mx_I))) := [mx_t94_0]
def mx_t95_0 : List (List (Nat × mx_I)) := [[(0, .iconst 0, 0, 0), (1, .istore_n 1, 0, 0), (2, .aload_n 0, 0, 0), (3, .iconst 0, 0, 0), (4, .invokevirtual 212, 96, 1), (7, .istore_n 2, 0, 0), (8, .iconst 1, 0, 0), (9, .istore_n 3, 0, 0), (10, .iload_n 3, 0, 0), (11, .bipush 6, 0, 0), (13, .if_icmp .gt 27, 40, 0)], [(16, .aload_n 0, 0, 0), (17, .iload_n 3, 0, 0), (18, .invokevirtual 212, 96, 1), (21, .istore 4, 0, 0), (23, .iload 4, 0, 0), (25, .iload_n 2, 0, 0), (26, .if_icmp .le 8, 34, 0), (29, .iload 4, 0, 0), (31, .istore_n 2, 0, 0)], [(32, .iload_n 3, 0, 0), (33, .istore_n 1, 0, 0), (34, .iinc 3 1, 0, 0), (37, .goto (-27), 10, 0), (40, .iload_n 1, 0, 0), (41, .ireturn, 0, 0)]]
def mx_t95 : List (List (List (Nat × mx_I))) := [mx_t95_0]
def mx_t96_0 : List (List (Nat × mx_I)) := [[(0, .aload_n 0, 0, 0), (1, .getfield 16, 801, 0), (4, .aload_n 0, 0, 0), (5, .getfield 10, 800, 0), (8, .invokevirtual 181, 1, 1), (11, .aload_n 0, 0, 0), (12, .getfield 36, 805, 0), (15, .aload_n 0, 0, 0)], [(16, .getfield 16, 801, 0), (19, .iload_n 1, 0, 0), (20, .invokevirtual 164, 51, 1), (23, .aload_n 0, 0, 0), (24, .getfield 16, 801, 0), (27, .invokevirtual 168, 6, 1), (30, .ireturn, 0, 0)]]
def mx_t96 : List (List (List (Nat × mx_I))) := [mx_t96_0]
def mx_t97_0 : List (List (Nat × mx_I)) := [[(0, .aload_n 0, 0, 0), (1, .iload_n 1, 0, 0), (2, .invokevirtual 246, 125, 1), (5, .astore_n 3, 0, 0), (6, .aload_n 0, 0, 0), (7, .getfield 16, 801, 0), (10, .aload_n 0, 0, 0), (11, .getfield 10, 800, 0), (14, .invokevirtual 181, 1, 1)], [(17, .aload_n 0, 0, 0), (18, .getfield 16, 801, 0), (21, .iload_n 2, 0, 0), (22, .invokevirtual 98, 2, 1), (25, .astore 4, 0, 0), (27, .aload_n 3, 0, 0), (28, .ifnull 8, 36, 0), (31, .aload 4, 0, 0)], [(33, .ifnonnull 6, 39, 0), (36, .bipush (-2), 0, 0), (38, .ireturn, 0, 0), (39, .aload_n 3, 0, 0), (40, .invokevirtual 250, 57, 1), (43, .ifCond .ne 6, 49, 0), (46, .bipush (-11), 0, 0)], [(48, .ireturn, 0, 0), (49, .aload_n 3, 0, 0), (50, .invokevirtual 254, 61, 1), (53, .ifCond .ne 6, 59, 0), (56, .bipush (-2), 0, 0), (58, .ireturn, 0, 0), (59, .iconst 0, 0, 0), (60, .istore 5, 0, 0), (62, .iconst 0, 0, 0), (63, .istore 6, 0, 0)], [(65, .iload 6, 0, 0), (67, .aload_n 3, 0, 0), (68, .getfield 257, 502, 0), (71, .if_icmp .ge 33, 104, 0), (74, .iload 5, 0, 0), (76, .aload_n 0, 0, 0), (77, .getfield 36, 805, 0)], [(80, .aload_n 0, 0, 0), (81, .getfield 16, 801, 0), (84, .aload 4, 0, 0), (86, .aload_n 3, 0, 0), (87, .iload 6, 0, 0), (89, .invokevirtual 260, 59, 1), (92, .invokevirtual 171, 50, 1), (95, .iadd, 0, 0)], [(96, .istore 5, 0, 0), (98, .iinc 6 1, 0, 0), (101, .goto (-36), 65, 0), (104, .iload 5, 0, 0), (106, .ireturn, 0, 0)]]
def mx_t97 : List (List (List (Nat × mx_I))) := [mx_t97_0]
def mx_t98_0 : List (List (Nat × mx_I)) := [[(0, .aload_n 0, 0, 0), (1, .getfield 10, 800, 0), (4, .iload_n 1, 0, 0), (5, .invokevirtual 98, 2, 1), (8, .astore_n 3, 0, 0), (9, .aload_n 3, 0, 0), (10, .ifnull 12, 22, 0), (13, .iload_n 2, 0, 0), (14, .ifCond .lt 8, 22, 0)], [(17, .iload_n 2, 0, 0), (18, .iconst 1, 0, 0), (19, .if_icmp .le 6, 25, 0), (22, .bipush (-2), 0, 0), (24, .ireturn, 0, 0), (25, .aload_n 0, 0, 0), (26, .getfield 50, 807, 0), (29, .aload_n 0, 0, 0), (30, .getfield 10, 800, 0)], [(33, .invokevirtual 263, 64, 1), (36, .ifCond .ne 6, 42, 0), (39, .bipush (-3), 0, 0), (41, .ireturn, 0, 0), (42, .aload_n 0, 0, 0), (43, .getfield 50, 807, 0), (46, .aload_n 0, 0, 0), (47, .getfield 10, 800, 0)], [(50, .aload_n 3, 0, 0), (51, .aload_n 0, 0, 0), (52, .getfield 36, 805, 0), (55, .invokevirtual 267, 65, 1), (58, .iload_n 2, 0, 0), (59, .ifCond .ne 13, 72, 0), (62, .aload_n 0, 0, 0), (63, .getfield 50, 807, 0)], [(66, .getfield 271, 705, 0), (69, .goto 10, 79, 0), (72, .aload_n 0, 0, 0), (73, .getfield 50, 807, 0), (76, .getfield 274, 706, 0), (79, .ireturn, 0, 0)]]
def mx_t98 : List (List (List (Nat × mx_I))) := [mx_t98_0]
def mx_t99_0 : List (List (Nat × mx_I)) := [[(0, .iload_n 1, 0, 0), (1, .bipush 10, 0, 0), (3, .if_icmp .lt 21, 24, 0), (6, .aload_n 0, 0, 0), (7, .getfield 10, 800, 0), (10, .iload_n 1, 0, 0), (11, .bipush 10, 0, 0), (13, .isub, 0, 0), (14, .invokevirtual 98, 2, 1)], [(17, .ifnull 7, 24, 0), (20, .iconst 1, 0, 0), (21, .goto 4, 25, 0), (24, .iconst 0, 0, 0), (25, .istore_n 2, 0, 0), (26, .iload_n 1, 0, 0), (27, .ifCond .eq 10, 37, 0), (30, .iload_n 2, 0, 0), (31, .ifCond .ne 6, 37, 0)], [(34, .bipush (-2), 0, 0), (36, .ireturn, 0, 0), (37, .aload_n 0, 0, 0), (38, .getfield 50, 807, 0), (41, .aload_n 0, 0, 0), (42, .getfield 10, 800, 0), (45, .invokevirtual 263, 64, 1)], [(48, .ifCond .ne 6, 54, 0), (51, .bipush (-3), 0, 0), (53, .ireturn, 0, 0), (54, .aload_n 0, 0, 0), (55, .getfield 50, 807, 0), (58, .aload_n 0, 0, 0), (59, .getfield 10, 800, 0), (62, .aload_n 0, 0, 0), (63, .getfield 36, 805, 0)], [(66, .invokevirtual 277, 67, 1), (69, .iload_n 1, 0, 0), (70, .ifCond .ne 13, 83, 0), (73, .aload_n 0, 0, 0), (74, .getfield 50, 807, 0), (77, .getfield 271, 705, 0)], [(80, .goto 14, 94, 0), (83, .aload_n 0, 0, 0), (84, .getfield 50, 807, 0), (87, .iload_n 1, 0, 0), (88, .bipush 10, 0, 0), (90, .isub, 0, 0), (91, .invokevirtual 281, 72, 1), (94, .ireturn, 0, 0)]]
def mx_t99 : List (List (List (Nat × mx_I))) := [mx_t99_0]
def mx_t100_0 : List (List (Nat × mx_I)) := [[(0, .iload_n 1, 0, 0), (1, .invokestatic 106, 126, 3), (4, .ifCond .eq 12, 16, 0), (7, .iload_n 2, 0, 0), (8, .ifCond .lt 8, 16, 0), (11, .iload_n 2, 0, 0), (12, .iconst 1, 0, 0), (13, .if_icmp .le 6, 19, 0)], [(16, .bipush (-2), 0, 0), (18, .ireturn, 0, 0), (19, .iconst (-1), 0, 0), (20, .istore_n 3, 0, 0), (21, .iconst (-1), 0, 0), (22, .istore 4, 0, 0), (24, .iconst 0, 0, 0), (25, .istore 5, 0, 0), (27, .iload 5, 0, 0), (29, .iconst 4, 0, 0), (30, .if_icmp .ge 60, 90, 0)], [(33, .aload_n 0, 0, 0), (34, .getfield 10, 800, 0), (37, .iload 5, 0, 0), (39, .invokevirtual 98, 2, 1), (42, .astore 6, 0, 0), (44, .aload 6, 0, 0), (46, .ifnull 38, 84, 0)], [(49, .aload_n 0, 0, 0), (50, .getfield 36, 805, 0), (53, .aload_n 0, 0, 0), (54, .getfield 10, 800, 0), (57, .aload 6, 0, 0), (59, .iload_n 1, 0, 0), (60, .invokevirtual 148, 49, 1), (63, .istore 7, 0, 0)], [(65, .iload_n 3, 0, 0), (66, .iconst (-1), 0, 0), (67, .if_icmp .eq 10, 77, 0), (70, .iload 7, 0, 0), (72, .iload 4, 0, 0), (74, .if_icmp .ge 10, 84, 0), (77, .iload 5, 0, 0), (79, .istore_n 3, 0, 0)], [(80, .iload 7, 0, 0), (82, .istore 4, 0, 0), (84, .iinc 5 1, 0, 0), (87, .goto (-60), 27, 0), (90, .iload_n 2, 0, 0), (91, .ifCond .ne 7, 98, 0), (94, .iload_n 3, 0, 0), (95, .goto 5, 100, 0)], [(98, .iload 4, 0, 0), (100, .ireturn, 0, 0)]]
def mx_t100 : List (List (List (Nat × mx_I))) := [mx_t100_0]
def mx_t101_0 : List (List (Nat × mx_I)) := [[(0, .aload_n 0, 0, 0), (1, .getfield 10, 800, 0), (4, .invokevirtual 168, 6, 1), (7, .istore_n 3, 0, 0), (8, .iload_n 1, 0, 0), (9, .ifCond .lt 13, 22, 0), (12, .iload_n 1, 0, 0), (13, .bipush 6, 0, 0), (15, .if_icmp .ge 7, 22, 0)], [(18, .iload_n 3, 0, 0), (19, .ifCond .ne 7, 26, 0), (22, .ldc2_w 196, 0, (-4611686018427387904)), (25, .lreturn, 0, 0), (26, .iconst 0, 0, 0), (27, .istore 4, 0, 0), (29, .iconst 0, 0, 0), (30, .istore 5, 0, 0)], [(32, .iload 5, 0, 0), (34, .bipush 6, 0, 0), (36, .if_icmp .ge 29, 65, 0), (39, .aload_n 0, 0, 0), (40, .getfield 10, 800, 0), (43, .iload_n 1, 0, 0), (44, .bipush 6, 0, 0), (46, .imul, 0, 0), (47, .iload 5, 0, 0)], [(49, .iadd, 0, 0), (50, .invokevirtual 284, 5, 1), (53, .ifCond .eq 6, 59, 0), (56, .iinc 4 1, 0, 0), (59, .iinc 5 1, 0, 0), (62, .goto (-30), 32, 0)], [(65, .iload 4, 0, 0), (67, .iload_n 3, 0, 0), (68, .iload_n 2, 0, 0), (69, .invokestatic 287, 102, 3), (72, .lreturn, 0, 0)]]
def mx_t101 : List (List (List (Nat × mx_I))) := [mx_t101_0]
def mx_t102_0 : List (List (Nat × mx_I)) := [[(0, .iload_n 0, 0, 0), (1, .iload_n 1, 0, 0), (2, .invokestatic 291, 103, 3), (5, .istore_n 3, 0, 0), (6, .iload_n 3, 0, 0), (7, .ifCond .eq 12, 19, 0), (10, .iload_n 2, 0, 0), (11, .ifCond .lt 8, 19, 0), (14, .iload_n 2, 0, 0), (15, .iconst 1, 0, 0)], [(16, .if_icmp .le 7, 23, 0), (19, .ldc2_w 196, 0, (-4611686018427387904)), (22, .lreturn, 0, 0), (23, .iload_n 2, 0, 0), (24, .ifCond .ne 7, 31, 0), (27, .iload_n 0, 0, 0), (28, .goto 4, 32, 0), (31, .iload_n 1, 0, 0)], [(32, .iload_n 3, 0, 0), (33, .idiv, 0, 0), (34, .i2l, 0, 0), (35, .lreturn, 0, 0)]]
def mx_t102 : List (List (List (Nat × mx_I))) := [mx_t102_0]
def mx_t103_0 : List (List (Nat × mx_I)) := [[(0, .iload_n 0, 0, 0), (1, .istore_n 2, 0, 0), (2, .iload_n 1, 0, 0), (3, .istore_n 3, 0, 0), (4, .iconst 0, 0, 0), (5, .istore 4, 0, 0), (7, .iload 4, 0, 0), (9, .bipush 36, 0, 0), (11, .if_icmp .ge 23, 34, 0), (14, .iload_n 3, 0, 0), (15, .ifCond .eq 19, 34, 0)], [(18, .iload_n 2, 0, 0), (19, .iload_n 3, 0, 0), (20, .irem, 0, 0), (21, .istore 5, 0, 0), (23, .iload_n 3, 0, 0), (24, .istore_n 2, 0, 0), (25, .iload 5, 0, 0), (27, .istore_n 3, 0, 0), (28, .iinc 4 1, 0, 0), (31, .goto (-24), 7, 0)], [(34, .iload_n 2, 0, 0), (35, .ireturn, 0, 0)]]
def mx_t103 : List (List (List (Nat × mx_I))) := [mx_t103_0]
def mx_t104_0 : List (List (Nat × mx_I)) := [[(0, .aload_n 0, 0, 0), (1, .iload_n 1, 0, 0), (2, .invokevirtual 246, 125, 1), (5, .astore 4, 0, 0), (7, .aload_n 0, 0, 0), (8, .getfield 16, 801, 0), (11, .aload_n 0, 0, 0), (12, .getfield 10, 800, 0), (15, .invokevirtual 181, 1, 1)], [(18, .aload_n 0, 0, 0), (19, .getfield 16, 801, 0), (22, .iload_n 2, 0, 0), (23, .invokevirtual 98, 2, 1), (26, .astore 5, 0, 0), (28, .aload 4, 0, 0), (30, .ifnull 18, 48, 0)], [(33, .aload 5, 0, 0), (35, .ifnull 13, 48, 0), (38, .iload_n 3, 0, 0), (39, .ifCond .lt 9, 48, 0), (42, .iload_n 3, 0, 0), (43, .bipush 6, 0, 0), (45, .if_icmp .le 6, 51, 0)], [(48, .bipush (-2), 0, 0), (50, .ireturn, 0, 0), (51, .aload 4, 0, 0), (53, .invokevirtual 250, 57, 1), (56, .ifCond .ne 6, 62, 0), (59, .bipush (-11), 0, 0), (61, .ireturn, 0, 0), (62, .aload 4, 0, 0)], [(64, .getfield 257, 502, 0), (67, .bipush 36, 0, 0), (69, .if_icmp .le 6, 75, 0), (72, .bipush (-2), 0, 0), (74, .ireturn, 0, 0), (75, .iload_n 3, 0, 0), (76, .tableswitch 94 0 5 #[40, 49, 58, 67, 76, 85], 40, 0)], [], [], [(116, .aload_n 0, 0, 0), (117, .aload 4, 0, 0), (119, .aload 5, 0, 0), (121, .invokevirtual 294, 105, 1), (124, .ireturn, 0, 0), (125, .aload_n 0, 0, 0), (126, .aload 4, 0, 0)]]
def mx_t104_1 : List (List (Nat × mx_I)) := [[(128, .aload 5, 0, 0), (130, .invokevirtual 298, 106, 1), (133, .ireturn, 0, 0), (134, .aload_n 0, 0, 0), (135, .aload 4, 0, 0), (137, .aload 5, 0, 0), (139, .invokevirtual 301, 107, 1), (142, .ireturn, 0, 0), (143, .aload_n 0, 0, 0)], [(144, .aload 4, 0, 0), (146, .aload 5, 0, 0), (148, .invokevirtual 304, 108, 1), (151, .ireturn, 0, 0), (152, .aload_n 0, 0, 0), (153, .aload 4, 0, 0), (155, .aload 5, 0, 0), (157, .invokevirtual 307, 109, 1)], [(160, .ireturn, 0, 0), (161, .aload_n 0, 0, 0), (162, .aload 4, 0, 0), (164, .aload 5, 0, 0), (166, .invokevirtual 310, 110, 1), (169, .ireturn, 0, 0), (170, .aload_n 0, 0, 0), (171, .aload 4, 0, 0), (173, .invokevirtual 313, 111, 1)], [(176, .ireturn, 0, 0)]]
def mx_t104 : List (List (List (Nat × mx_I))) := [mx_t104_0, mx_t104_1]
def mx_t105_0 : List (List (Nat × mx_I)) := [[(0, .iconst 0, 0, 0), (1, .istore_n 3, 0, 0), (2, .iload_n 3, 0, 0), (3, .aload_n 1, 0, 0), (4, .getfield 257, 502, 0), (7, .if_icmp .ge 32, 39, 0), (10, .aload_n 0, 0, 0), (11, .getfield 36, 805, 0), (14, .aload_n 0, 0, 0), (15, .getfield 16, 801, 0)], [(18, .aload_n 2, 0, 0), (19, .iload_n 3, 0, 0), (20, .invokevirtual 142, 47, 1), (23, .aload_n 1, 0, 0), (24, .iload_n 3, 0, 0), (25, .invokevirtual 260, 59, 1), (28, .if_icmp .eq 5, 33, 0), (31, .iload_n 3, 0, 0)], [(32, .ireturn, 0, 0), (33, .iinc 3 1, 0, 0), (36, .goto (-34), 2, 0), (39, .iconst (-1), 0, 0), (40, .ireturn, 0, 0)]]
def mx_t105 : List (List (List (Nat × mx_I))) := [mx_t105_0]
def mx_t106_0 : List (List (Nat × mx_I)) := [[(0, .iconst 0, 0, 0), (1, .istore_n 3, 0, 0), (2, .iconst 0, 0, 0), (3, .istore 4, 0, 0), (5, .iload 4, 0, 0), (7, .bipush 6, 0, 0), (9, .if_icmp .ge 36, 45, 0), (12, .aload_n 2, 0, 0), (13, .iload 4, 0, 0), (15, .putfield 132, 200, 0)], [(18, .iload_n 3, 0, 0), (19, .aload_n 0, 0, 0), (20, .aload_n 1, 0, 0), (21, .aload_n 2, 0, 0), (22, .invokevirtual 294, 105, 1), (25, .iconst (-1), 0, 0), (26, .if_icmp .ne 10, 36, 0), (29, .iconst 1, 0, 0), (30, .iload 4, 0, 0)], [(32, .ishl, 0, 0), (33, .goto 4, 37, 0), (36, .iconst 0, 0, 0), (37, .ior, 0, 0), (38, .istore_n 3, 0, 0), (39, .iinc 4 1, 0, 0), (42, .goto (-37), 5, 0), (45, .iload_n 3, 0, 0), (46, .ireturn, 0, 0)]]
def mx_t106 : List (List (List (Nat × mx_I))) := [mx_t106_0]
def mx_t107_0 : List (List (Nat × mx_I)) := [[(0, .iconst 0, 0, 0), (1, .istore_n 3, 0, 0), (2, .iconst 0, 0, 0), (3, .istore 4, 0, 0), (5, .iload 4, 0, 0), (7, .bipush 9, 0, 0), (9, .if_icmp .gt 36, 45, 0), (12, .aload_n 2, 0, 0), (13, .iload 4, 0, 0), (15, .putfield 117, 201, 0)], [(18, .iload_n 3, 0, 0), (19, .aload_n 0, 0, 0), (20, .aload_n 1, 0, 0), (21, .aload_n 2, 0, 0), (22, .invokevirtual 294, 105, 1), (25, .iconst (-1), 0, 0), (26, .if_icmp .ne 10, 36, 0), (29, .iconst 1, 0, 0), (30, .iload 4, 0, 0)], [(32, .ishl, 0, 0), (33, .goto 4, 37, 0), (36, .iconst 0, 0, 0), (37, .ior, 0, 0), (38, .istore_n 3, 0, 0), (39, .iinc 4 1, 0, 0), (42, .goto (-37), 5, 0), (45, .iload_n 3, 0, 0), (46, .ireturn, 0, 0)]]
def mx_t107 : List (List (List (Nat × mx_I))) := [mx_t107_0]
def mx_t108_0 : List (List (Nat × mx_I)) := [[(0, .iconst 0, 0, 0), (1, .istore_n 3, 0, 0), (2, .iconst 0, 0, 0), (3, .istore 4, 0, 0), (5, .iload 4, 0, 0), (7, .bipush 100, 0, 0), (9, .if_icmp .ge 36, 45, 0), (12, .aload_n 0, 0, 0), (13, .getfield 16, 801, 0)], [(16, .iload 4, 0, 0), (18, .putfield 102, 4, 0), (21, .iload_n 3, 0, 0), (22, .aload_n 0, 0, 0), (23, .aload_n 1, 0, 0), (24, .aload_n 2, 0, 0), (25, .invokevirtual 294, 105, 1), (28, .iconst (-1), 0, 0), (29, .if_icmp .ne 7, 36, 0)], [(32, .iconst 1, 0, 0), (33, .goto 4, 37, 0), (36, .iconst 0, 0, 0), (37, .iadd, 0, 0), (38, .istore_n 3, 0, 0), (39, .iinc 4 1, 0, 0), (42, .goto (-37), 5, 0), (45, .iload_n 3, 0, 0), (46, .ireturn, 0, 0)]]
def mx_t108 : List (List (List (Nat × mx_I))) := [mx_t108_0]
def mx_t109_0 : List (List (Nat × mx_I)) := [[(0, .iconst 0, 0, 0), (1, .istore_n 3, 0, 0), (2, .iload_n 3, 0, 0), (3, .bipush 100, 0, 0), (5, .if_icmp .ge 29, 34, 0), (8, .aload_n 0, 0, 0), (9, .getfield 16, 801, 0), (12, .iload_n 3, 0, 0), (13, .putfield 102, 4, 0)], [(16, .aload_n 0, 0, 0), (17, .aload_n 1, 0, 0), (18, .aload_n 2, 0, 0), (19, .invokevirtual 294, 105, 1), (22, .iconst (-1), 0, 0), (23, .if_icmp .ne 5, 28, 0), (26, .iload_n 3, 0, 0), (27, .ireturn, 0, 0), (28, .iinc 3 1, 0, 0), (31, .goto (-29), 2, 0)], [(34, .iconst (-1), 0, 0), (35, .ireturn, 0, 0)]]
def mx_t109 : List (List (List (Nat × mx_I))) := [mx_t109_0]
def mx_t110_0 : List (List (Nat × mx_I)) := [[(0, .iconst 0, 0, 0), (1, .istore_n 3, 0, 0), (2, .iconst 0, 0, 0), (3, .istore 4, 0, 0), (5, .iload 4, 0, 0), (7, .aload_n 0, 0, 0), (8, .getfield 36, 805, 0), (11, .getfield 151, 401, 0), (14, .if_icmp .ge 39, 53, 0)], [(17, .aload_n 0, 0, 0), (18, .getfield 16, 801, 0), (21, .iload 4, 0, 0), (23, .putfield 161, 5, 0), (26, .iload_n 3, 0, 0), (27, .aload_n 0, 0, 0), (28, .aload_n 1, 0, 0), (29, .aload_n 2, 0, 0), (30, .invokevirtual 294, 105, 1)], [(33, .iconst (-1), 0, 0), (34, .if_icmp .ne 10, 44, 0), (37, .iconst 1, 0, 0), (38, .iload 4, 0, 0), (40, .ishl, 0, 0), (41, .goto 4, 45, 0), (44, .iconst 0, 0, 0), (45, .ior, 0, 0), (46, .istore_n 3, 0, 0), (47, .iinc 4 1, 0, 0)], [(50, .goto (-45), 5, 0), (53, .iload_n 3, 0, 0), (54, .ireturn, 0, 0)]]
def mx_t110 : List (List (List (Nat × mx_I))) := [mx_t110_0]
def mx_t111_0 : List (List (Nat × mx_I)) := [[(0, .iconst 0, 0, 0), (1, .istore_n 2, 0, 0), (2, .iconst 0, 0, 0), (3, .istore_n 3, 0, 0), (4, .iload_n 3, 0, 0), (5, .bipush 6, 0, 0), (7, .if_icmp .gt 53, 60, 0), (10, .aload_n 0, 0, 0), (11, .getfield 16, 801, 0), (14, .aload_n 0, 0, 0), (15, .getfield 10, 800, 0)], [(18, .invokevirtual 181, 1, 1), (21, .aload_n 0, 0, 0), (22, .getfield 36, 805, 0), (25, .aload_n 0, 0, 0), (26, .getfield 16, 801, 0), (29, .iload_n 3, 0, 0), (30, .invokevirtual 164, 51, 1)], [(33, .iload_n 2, 0, 0), (34, .aload_n 0, 0, 0), (35, .getfield 16, 801, 0), (38, .aload_n 1, 0, 0), (39, .invokevirtual 317, 11, 1), (42, .ifCond .eq 9, 51, 0), (45, .iconst 1, 0, 0), (46, .iload_n 3, 0, 0), (47, .ishl, 0, 0)], [(48, .goto 4, 52, 0), (51, .iconst 0, 0, 0), (52, .ior, 0, 0), (53, .istore_n 2, 0, 0), (54, .iinc 3 1, 0, 0), (57, .goto (-53), 4, 0), (60, .iload_n 2, 0, 0), (61, .ireturn, 0, 0)]]
def mx_t111 : List (List (List (Nat × mx_I))) := [mx_t111_0]
def mx_t112_0 : List (List (Nat × mx_I)) := [[(0, .aload_n 0, 0, 0), (1, .iload_n 1, 0, 0), (2, .invokevirtual 246, 125, 1), (5, .astore 4, 0, 0), (7, .aload_n 0, 0, 0), (8, .getfield 10, 800, 0), (11, .iload_n 2, 0, 0), (12, .invokevirtual 98, 2, 1), (15, .astore 5, 0, 0)], [(17, .aload 4, 0, 0), (19, .ifnull 18, 37, 0), (22, .aload 5, 0, 0), (24, .ifnull 13, 37, 0), (27, .iload_n 3, 0, 0), (28, .ifCond .lt 9, 37, 0), (31, .iload_n 3, 0, 0)], [(32, .bipush 36, 0, 0), (34, .if_icmp .le 6, 40, 0), (37, .bipush (-2), 0, 0), (39, .ireturn, 0, 0), (40, .aload 4, 0, 0), (42, .iconst 0, 0, 0), (43, .iload_n 3, 0, 0), (44, .invokevirtual 321, 58, 1), (47, .iconst 0, 0, 0)], [(48, .istore 6, 0, 0), (50, .iload 6, 0, 0), (52, .iload_n 3, 0, 0), (53, .if_icmp .ge 31, 84, 0), (56, .aload 4, 0, 0), (58, .iload 6, 0, 0), (60, .aload_n 0, 0, 0), (61, .getfield 36, 805, 0)], [(64, .aload_n 0, 0, 0), (65, .getfield 10, 800, 0), (68, .aload 5, 0, 0), (70, .iload 6, 0, 0), (72, .invokevirtual 142, 47, 1), (75, .invokevirtual 324, 60, 1), (78, .iinc 6 1, 0, 0)], [(81, .goto (-31), 50, 0), (84, .iload_n 3, 0, 0), (85, .ireturn, 0, 0)]]
def mx_t112 : List (List (List (Nat × mx_I))) := [mx_t112_0]
def mx_t113_0 : List (List (Nat × mx_I)) := [[(0, .aload_n 0, 0, 0), (1, .iload_n 1, 0, 0), (2, .invokestatic 327, 114, 3), (5, .invokevirtual 212, 96, 1), (8, .ireturn, 0, 0)]]
def mx_t113 : List (List (List (Nat × mx_I))) := [mx_t113_0]
def mx_t114_0 : List (List (Nat × mx_I)) := [[(0, .iload_n 0, 0, 0), (1, .ldc_w 330, 0, 1103515245), (4, .imul, 0, 0), (5, .sipush 12345, 0, 0), (8, .iadd, 0, 0), (9, .istore_n 1, 0, 0), (10, .iload_n 1, 0, 0), (11, .bipush 9, 0, 0), (13, .iushr, 0, 0), (14, .bipush 7, 0, 0)], [(16, .irem, 0, 0), (17, .ireturn, 0, 0)]]
def mx_t114 : List (List (List (Nat × mx_I))) := [mx_t114_0]
def mx_t115_0 : List (List (Nat × mx_I)) := [[(0, .iload_n 2, 0, 0), (1, .iconst 1, 0, 0), (2, .if_icmp .lt 19, 21, 0), (5, .iload_n 2, 0, 0), (6, .bipush 20, 0, 0), (8, .if_icmp .gt 13, 21, 0), (11, .iload_n 3, 0, 0), (12, .ifCond .lt 9, 21, 0), (15, .iload_n 3, 0, 0)], [(16, .bipush 36, 0, 0), (18, .if_icmp .le 7, 25, 0), (21, .ldc2_w 196, 0, (-4611686018427387904)), (24, .lreturn, 0, 0), (25, .iconst 0, 0, 0), (26, .istore 5, 0, 0), (28, .iconst 0, 0, 0), (29, .istore 6, 0, 0), (31, .iload 6, 0, 0)], [(33, .iload_n 2, 0, 0), (34, .if_icmp .ge 34, 68, 0), (37, .iload 5, 0, 0), (39, .aload_n 0, 0, 0), (40, .iload_n 1, 0, 0), (41, .iload 6, 0, 0), (43, .iadd, 0, 0), (44, .invokestatic 327, 114, 3), (47, .invokevirtual 212, 96, 1)], [(50, .iload_n 3, 0, 0), (51, .if_icmp .lt 7, 58, 0), (54, .iconst 1, 0, 0), (55, .goto 4, 59, 0), (58, .iconst 0, 0, 0), (59, .iadd, 0, 0), (60, .istore 5, 0, 0), (62, .iinc 6 1, 0, 0)], [(65, .goto (-34), 31, 0), (68, .iload 5, 0, 0), (70, .iload_n 2, 0, 0), (71, .iload 4, 0, 0), (73, .invokestatic 287, 102, 3), (76, .lreturn, 0, 0)]]
def mx_t115 : List (List (List (Nat × mx_I))) := [mx_t115_0]
def mx_t116_0 : List (List (Nat × mx_I)) := [[(0, .aload_n 0, 0, 0), (1, .getfield 19, 802, 0), (4, .aload_n 0, 0, 0), (5, .getfield 10, 800, 0), (8, .invokevirtual 181, 1, 1), (11, .aload_n 0, 0, 0), (12, .iconst 1, 0, 0), (13, .putfield 22, 803, 0)], [(16, .aload_n 0, 0, 0), (17, .getfield 19, 802, 0), (20, .getfield 331, 3, 0), (23, .ireturn, 0, 0)]]
def mx_t116 : List (List (List (Nat × mx_I))) := [mx_t116_0]
def mx_t117_0 : List (List (Nat × mx_I)) := [[(0, .aload_n 0, 0, 0), (1, .getfield 22, 803, 0), (4, .ifCond .ne 6, 10, 0), (7, .bipush (-3), 0, 0), (9, .ireturn, 0, 0), (10, .aload_n 0, 0, 0), (11, .getfield 10, 800, 0), (14, .aload_n 0, 0, 0), (15, .getfield 19, 802, 0)], [(18, .invokevirtual 181, 1, 1), (21, .aload_n 0, 0, 0), (22, .getfield 10, 800, 0), (25, .getfield 331, 3, 0), (28, .ireturn, 0, 0)]]
def mx_t117 : List (List (List (Nat × mx_I))) := [mx_t117_0]
def mx_t118_0 : List (List (Nat × mx_I)) := [[(0, .iload_n 1, 0, 0), (1, .tableswitch 87 0 5 #[39, 47, 55, 63, 71, 79], 39, 0)], [], [(40, .aload_n 0, 0, 0), (41, .getfield 10, 800, 0), (44, .getfield 331, 3, 0), (47, .ireturn, 0, 0)], [(48, .aload_n 0, 0, 0), (49, .getfield 10, 800, 0), (52, .invokevirtual 168, 6, 1), (55, .ireturn, 0, 0), (56, .aload_n 0, 0, 0), (57, .getfield 10, 800, 0), (60, .getfield 102, 4, 0), (63, .ireturn, 0, 0)], [(64, .aload_n 0, 0, 0), (65, .getfield 36, 805, 0), (68, .getfield 151, 401, 0), (71, .ireturn, 0, 0), (72, .aload_n 0, 0, 0), (73, .getfield 29, 804, 0), (76, .getfield 332, 301, 0), (79, .ireturn, 0, 0)], [(80, .aload_n 0, 0, 0), (81, .getfield 10, 800, 0), (84, .getfield 161, 5, 0), (87, .ireturn, 0, 0), (88, .bipush (-2), 0, 0), (90, .ireturn, 0, 0)]]
def mx_t118 : List (List (List (Nat × mx_I))) := [mx_t118_0]
def mx_t119_0 : List (List (Nat × mx_I)) := [[(0, .aload_n 0, 0, 0), (1, .iload_n 1, 0, 0), (2, .invokevirtual 246, 125, 1), (5, .astore 4, 0, 0), (7, .aload 4, 0, 0), (9, .ifnull 13, 22, 0), (12, .iload_n 2, 0, 0), (13, .iconst (-1), 0, 0), (14, .if_icmp .lt 8, 22, 0)], [(17, .iload_n 2, 0, 0), (18, .iconst 3, 0, 0), (19, .if_icmp .lt 6, 25, 0), (22, .bipush (-2), 0, 0), (24, .ireturn, 0, 0), (25, .iload_n 2, 0, 0), (26, .iconst (-1), 0, 0), (27, .if_icmp .ne 12, 39, 0), (30, .aload 4, 0, 0)], [(32, .iconst (-1), 0, 0), (33, .iconst 0, 0, 0), (34, .invokevirtual 321, 58, 1), (37, .iconst 1, 0, 0), (38, .ireturn, 0, 0), (39, .iload_n 3, 0, 0), (40, .bipush 40, 0, 0), (42, .if_icmp .le 6, 48, 0), (45, .bipush (-2), 0, 0), (47, .ireturn, 0, 0)], [(48, .iload_n 3, 0, 0), (49, .ifCond .ge 6, 55, 0), (52, .bipush (-14), 0, 0), (54, .ireturn, 0, 0), (55, .aload 4, 0, 0), (57, .iload_n 2, 0, 0), (58, .iload_n 3, 0, 0), (59, .invokevirtual 321, 58, 1), (62, .iconst 1, 0, 0), (63, .ireturn, 0, 0)]]
def mx_t119 : List (List (List (Nat × mx_I))) := [mx_t119_0]
def mx_t120_0 : List (List (Nat × mx_I)) := [[(0, .aload_n 0, 0, 0), (1, .iload_n 1, 0, 0), (2, .invokevirtual 246, 125, 1), (5, .astore 4, 0, 0), (7, .aload 4, 0, 0), (9, .ifnonnull 6, 15, 0), (12, .bipush (-2), 0, 0), (14, .ireturn, 0, 0), (15, .aload 4, 0, 0)], [(17, .invokevirtual 250, 57, 1), (20, .ifCond .ne 6, 26, 0), (23, .bipush (-11), 0, 0), (25, .ireturn, 0, 0), (26, .iload_n 2, 0, 0), (27, .ifCond .lt 12, 39, 0), (30, .iload_n 2, 0, 0), (31, .aload 4, 0, 0)], [(33, .getfield 257, 502, 0), (36, .if_icmp .lt 6, 42, 0), (39, .bipush (-12), 0, 0), (41, .ireturn, 0, 0), (42, .aload 4, 0, 0), (44, .iload_n 2, 0, 0), (45, .iload_n 3, 0, 0), (46, .invokevirtual 324, 60, 1)], [(49, .iconst 1, 0, 0), (50, .ireturn, 0, 0)]]
def mx_t120 : List (List (List (Nat × mx_I))) := [mx_t120_0]
def mx_t121_0 : List (List (Nat × mx_I)) := [[(0, .aload_n 0, 0, 0), (1, .iload_n 1, 0, 0), (2, .invokevirtual 246, 125, 1), (5, .astore 6, 0, 0), (7, .aload_n 0, 0, 0), (8, .iload_n 3, 0, 0), (9, .invokevirtual 246, 125, 1), (12, .astore 7, 0, 0), (14, .aload 6, 0, 0)], [(16, .ifnull 8, 24, 0), (19, .aload 7, 0, 0), (21, .ifnonnull 6, 27, 0), (24, .bipush (-2), 0, 0), (26, .ireturn, 0, 0), (27, .aload 6, 0, 0), (29, .invokevirtual 250, 57, 1)], [(32, .ifCond .eq 11, 43, 0), (35, .aload 7, 0, 0), (37, .invokevirtual 250, 57, 1), (40, .ifCond .ne 6, 46, 0), (43, .bipush (-11), 0, 0), (45, .ireturn, 0, 0), (46, .aload 6, 0, 0)], [(48, .getfield 333, 501, 0), (51, .aload 7, 0, 0), (53, .getfield 333, 501, 0), (56, .if_icmp .eq 6, 62, 0), (59, .bipush (-13), 0, 0), (61, .ireturn, 0, 0), (62, .iload_n 2, 0, 0), (63, .ifCond .lt 38, 101, 0)], [(66, .iload 4, 0, 0), (68, .ifCond .lt 33, 101, 0), (71, .iload 5, 0, 0), (73, .ifCond .lt 28, 101, 0), (76, .iload 5, 0, 0), (78, .aload 6, 0, 0)], [(80, .getfield 257, 502, 0), (83, .iload_n 2, 0, 0), (84, .isub, 0, 0), (85, .if_icmp .gt 16, 101, 0), (88, .iload 5, 0, 0), (90, .aload 7, 0, 0), (92, .getfield 257, 502, 0), (95, .iload 4, 0, 0)], [(97, .isub, 0, 0), (98, .if_icmp .le 6, 104, 0), (101, .bipush (-12), 0, 0), (103, .ireturn, 0, 0), (104, .aload 6, 0, 0), (106, .getfield 336, 500, 0), (109, .iload_n 2, 0, 0), (110, .aload 7, 0, 0)], [(112, .getfield 336, 500, 0), (115, .iload 4, 0, 0), (117, .iload 5, 0, 0), (119, .invokestatic 339, 0, 23), (122, .iload 5, 0, 0), (124, .ireturn, 0, 0)]]
def mx_t121 : List (List (List (Nat × mx_I))) := [mx_t121_0]
def mx_t122_0 : List (List (Nat × mx_I)) := [[(0, .aload_n 0, 0, 0), (1, .iload_n 1, 0, 0), (2, .invokevirtual 246, 125, 1), (5, .astore 5, 0, 0), (7, .aload 5, 0, 0), (9, .ifnull 23, 32, 0), (12, .iload_n 2, 0, 0), (13, .ifCond .lt 19, 32, 0)], [(16, .iload_n 2, 0, 0), (17, .iconst 3, 0, 0), (18, .if_icmp .ge 14, 32, 0), (21, .iload 4, 0, 0), (23, .ifCond .lt 9, 32, 0), (26, .iload 4, 0, 0), (28, .iconst 4, 0, 0), (29, .if_icmp .le 6, 35, 0)], [(32, .bipush (-2), 0, 0), (34, .ireturn, 0, 0), (35, .aload 5, 0, 0), (37, .invokevirtual 250, 57, 1), (40, .ifCond .eq 15, 55, 0), (43, .aload 5, 0, 0), (45, .getfield 333, 501, 0)], [(48, .iload_n 2, 0, 0), (49, .if_icmp .eq 6, 55, 0), (52, .bipush (-13), 0, 0), (54, .ireturn, 0, 0), (55, .aload 5, 0, 0), (57, .invokevirtual 250, 57, 1), (60, .ifCond .ne 6, 66, 0), (63, .bipush (-11), 0, 0)], [(65, .ireturn, 0, 0), (66, .iconst 0, 0, 0), (67, .istore 6, 0, 0), (69, .iconst 0, 0, 0), (70, .istore 7, 0, 0), (72, .iload 7, 0, 0), (74, .iload 4, 0, 0), (76, .if_icmp .ge 83, 159, 0), (79, .iload_n 3, 0, 0)], [(80, .iconst 3, 0, 0), (81, .iload 7, 0, 0), (83, .imul, 0, 0), (84, .iadd, 0, 0), (85, .istore 8, 0, 0), (87, .iload 8, 0, 0), (89, .ifCond .lt 15, 104, 0), (92, .iload 8, 0, 0), (94, .aload 5, 0, 0)], [(96, .getfield 257, 502, 0), (99, .iconst 3, 0, 0), (100, .isub, 0, 0), (101, .if_icmp .le 6, 107, 0), (104, .bipush (-12), 0, 0), (106, .ireturn, 0, 0), (107, .aload_n 0, 0, 0), (108, .aload 5, 0, 0), (110, .iload 8, 0, 0)], [(112, .invokevirtual 260, 59, 1), (115, .aload 5, 0, 0), (117, .iload 8, 0, 0), (119, .iconst 1, 0, 0), (120, .iadd, 0, 0), (121, .invokevirtual 260, 59, 1), (124, .aload 5, 0, 0), (126, .iload 8, 0, 0)]]
def mx_t122_1 : List (List (Nat × mx_I)) := [[(128, .iconst 2, 0, 0), (129, .iadd, 0, 0), (130, .invokevirtual 260, 59, 1), (133, .invokevirtual 345, 79, 1), (136, .istore 9, 0, 0), (138, .iload 6, 0, 0), (140, .iload 9, 0, 0), (142, .ifCond .lt 7, 149, 0)], [(145, .iconst 1, 0, 0), (146, .goto 4, 150, 0), (149, .iconst 0, 0, 0), (150, .iadd, 0, 0), (151, .istore 6, 0, 0), (153, .iinc 7 1, 0, 0), (156, .goto (-84), 72, 0), (159, .iload 6, 0, 0)], [(161, .ireturn, 0, 0)]]
def mx_t122 : List (List (List (Nat × mx_I))) := [mx_t122_0, mx_t122_1]
def mx_t123_0 : List (List (Nat × mx_I)) := [[(0, .iload_n 2, 0, 0), (1, .ifCond .lt 9, 10, 0), (4, .iload_n 2, 0, 0), (5, .bipush 6, 0, 0), (7, .if_icmp .lt 6, 13, 0), (10, .bipush (-2), 0, 0), (12, .ireturn, 0, 0), (13, .aload_n 0, 0, 0), (14, .getfield 10, 800, 0)], [(17, .iload_n 1, 0, 0), (18, .invokevirtual 98, 2, 1), (21, .astore_n 3, 0, 0), (22, .aload_n 3, 0, 0), (23, .ifnonnull 6, 29, 0), (26, .bipush (-11), 0, 0), (28, .ireturn, 0, 0), (29, .aload_n 3, 0, 0), (30, .getfield 132, 200, 0)], [(33, .istore 4, 0, 0), (35, .iconst 0, 0, 0), (36, .istore 5, 0, 0), (38, .iload 5, 0, 0), (40, .bipush 6, 0, 0), (42, .if_icmp .ge 28, 70, 0), (45, .iload 4, 0, 0), (47, .iload_n 2, 0, 0)], [(48, .if_icmp .eq 22, 70, 0), (51, .iload 4, 0, 0), (53, .iconst (-1), 0, 0), (54, .if_icmp .eq 16, 70, 0), (57, .iload 4, 0, 0), (59, .invokestatic 348, 124, 3), (62, .istore 4, 0, 0)], [(64, .iinc 5 1, 0, 0), (67, .goto (-29), 38, 0), (70, .iload 4, 0, 0), (72, .iload_n 2, 0, 0), (73, .if_icmp .ne 10, 83, 0), (76, .aload_n 3, 0, 0), (77, .getfield 117, 201, 0)], [(80, .goto 5, 85, 0), (83, .bipush (-13), 0, 0), (85, .ireturn, 0, 0)]]
def mx_t123 : List (List (List (Nat × mx_I))) := [mx_t123_0]
def mx_t124_0 : List (List (Nat × mx_I)) := [[(0, .iload_n 0, 0, 0), (1, .tableswitch 41 1 5 #[35, 35, 37, 39, 35], 35, 0)], [], [(36, .iconst 0, 0, 0), (37, .ireturn, 0, 0), (38, .iconst 1, 0, 0), (39, .ireturn, 0, 0), (40, .iconst 2, 0, 0), (41, .ireturn, 0, 0), (42, .iconst (-1), 0, 0), (43, .ireturn, 0, 0)]]
def mx_t124 : List (List (List (Nat × mx_I))) := [mx_t124_0]
def mx_t125_0 : List (List (Nat × mx_I)) := [[(0, .iload_n 1, 0, 0), (1, .ifCond .lt 17, 18, 0), (4, .iload_n 1, 0, 0), (5, .iconst 4, 0, 0), (6, .if_icmp .ge 12, 18, 0), (9, .aload_n 0, 0, 0), (10, .getfield 56, 808, 0), (13, .iload_n 1, 0, 0), (14, .aaload, 0, 0), (15, .goto 4, 19, 0)], [(18, .aconst_null, 0, 0), (19, .areturn, 0, 0)]]
def mx_t125 : List (List (List (Nat × mx_I))) := [mx_t125_0]
def mx_t126_0 : List (List (Nat × mx_I)) := [[(0, .iload_n 0, 0, 0), (1, .ifCond .lt 13, 14, 0), (4, .iload_n 0, 0, 0), (5, .bipush 36, 0, 0), (7, .if_icmp .ge 7, 14, 0), (10, .iconst 1, 0, 0), (11, .goto 4, 15, 0), (14, .iconst 0, 0, 0), (15, .ireturn, 0, 0)]]
def mx_t126 : List (List (List (Nat × mx_I))) := [mx_t126_0]
def mx_t127_0 : List (List (Nat × mx_I)) := [[(0, .iload_n 0, 0, 0), (1, .bipush 6, 0, 0), (3, .irem, 0, 0), (4, .iload_n 1, 0, 0), (5, .bipush 6, 0, 0), (7, .irem, 0, 0), (8, .isub, 0, 0), (9, .invokestatic 351, 0, 22), (12, .iload_n 0, 0, 0), (13, .bipush 6, 0, 0), (15, .idiv, 0, 0)], [(16, .iload_n 1, 0, 0), (17, .bipush 6, 0, 0), (19, .idiv, 0, 0), (20, .isub, 0, 0), (21, .invokestatic 351, 0, 22), (24, .iadd, 0, 0), (25, .ireturn, 0, 0)]]
def mx_t127 : List (List (List (Nat × mx_I))) := [mx_t127_0]
def mx_t128_0 : List (List (Nat × mx_I)) := [[(0, .lconst 1, 0, 0), (1, .iload_n 0, 0, 0), (2, .lshl, 0, 0), (3, .lreturn, 0, 0)]]
def mx_t128 : List (List (List (Nat × mx_I))) := [mx_t128_0]
def mx_t129_0 : List (List (Nat × mx_I)) := [[(0, .lload_n 0, 0, 0), (1, .iload_n 2, 0, 0), (2, .invokestatic 234, 128, 3), (5, .land, 0, 0), (6, .lconst 0, 0, 0), (7, .lcmp, 0, 0), (8, .ifCond .eq 7, 15, 0), (11, .iconst 1, 0, 0), (12, .goto 4, 16, 0), (15, .iconst 0, 0, 0)], [(16, .ireturn, 0, 0)]]
def mx_t129 : List (List (List (Nat × mx_I))) := [mx_t129_0]
def mx_t130_0 : List (List (Nat × mx_I)) := [[(0, .iload_n 1, 0, 0), (1, .iload_n 0, 0, 0), (2, .iload_n 2, 0, 0), (3, .invokestatic 354, 0, 21), (6, .invokestatic 229, 0, 20), (9, .ireturn, 0, 0)]]
def mx_t130 : List (List (List (Nat × mx_I))) := [mx_t130_0]
def mx_t131_0 : List (List (Nat × mx_I)) := [[(0, .aload_n 0, 0, 0), (1, .invokespecial 1, 0, 27), (4, .aload_n 0, 0, 0), (5, .bipush 91, 0, 0), (7, .newarray .int, 0, 0), (9, .putfield 7, 900, 0), (12, .aload_n 0, 0, 0), (13, .bipush 91, 0, 0), (15, .newarray .int, 0, 0)], [(17, .putfield 13, 901, 0), (20, .aload_n 0, 0, 0), (21, .bipush 91, 0, 0), (23, .newarray .int, 0, 0), (25, .putfield 16, 902, 0), (28, .aload_n 0, 0, 0), (29, .sipush 160, 0, 0)], [(32, .newarray .int, 0, 0), (34, .putfield 19, 904, 0), (37, .aload_n 0, 0, 0), (38, .sipush 960, 0, 0), (41, .newarray .int, 0, 0), (43, .putfield 22, 910, 0), (46, .aload_n 0, 0, 0), (47, .bipush 18, 0, 0)], [(49, .newarray .int, 0, 0), (51, .putfield 25, 911, 0), (54, .aload_n 0, 0, 0), (55, .aload_n 0, 0, 0), (56, .invokevirtual 28, 146, 1), (59, .putfield 32, 912, 0), (62, .aload_n 0, 0, 0), (63, .bipush 72, 0, 0)], [(65, .newarray .char, 0, 0), (67, .dup, 0, 0), (68, .iconst 0, 0, 0), (69, .bipush 109, 0, 0), (71, .castore, 0, 0), (72, .dup, 0, 0), (73, .iconst 1, 0, 0), (74, .bipush 97, 0, 0), (76, .castore, 0, 0), (77, .dup, 0, 0), (78, .iconst 2, 0, 0), (79, .bipush 114, 0, 0)], [(81, .castore, 0, 0), (82, .dup, 0, 0), (83, .iconst 3, 0, 0), (84, .bipush 107, 0, 0), (86, .castore, 0, 0), (87, .dup, 0, 0), (88, .iconst 4, 0, 0), (89, .iconst 0, 0, 0), (90, .castore, 0, 0), (91, .dup, 0, 0), (92, .iconst 5, 0, 0), (93, .iconst 0, 0, 0), (94, .castore, 0, 0), (95, .dup, 0, 0)], [(96, .bipush 6, 0, 0), (98, .bipush 114, 0, 0), (100, .castore, 0, 0), (101, .dup, 0, 0), (102, .bipush 7, 0, 0), (104, .bipush 111, 0, 0), (106, .castore, 0, 0), (107, .dup, 0, 0), (108, .bipush 8, 0, 0), (110, .bipush 119, 0, 0)], [(112, .castore, 0, 0), (113, .dup, 0, 0), (114, .bipush 9, 0, 0), (116, .iconst 0, 0, 0), (117, .castore, 0, 0), (118, .dup, 0, 0), (119, .bipush 10, 0, 0), (121, .iconst 0, 0, 0), (122, .castore, 0, 0), (123, .dup, 0, 0), (124, .bipush 11, 0, 0), (126, .iconst 0, 0, 0), (127, .castore, 0, 0)]]
def mx_t131_1 : List (List (Nat × mx_I)) := [[(128, .dup, 0, 0), (129, .bipush 12, 0, 0), (131, .bipush 99, 0, 0), (133, .castore, 0, 0), (134, .dup, 0, 0), (135, .bipush 13, 0, 0), (137, .bipush 111, 0, 0), (139, .castore, 0, 0), (140, .dup, 0, 0), (141, .bipush 14, 0, 0), (143, .bipush 108, 0, 0)], [(145, .castore, 0, 0), (146, .dup, 0, 0), (147, .bipush 15, 0, 0), (149, .bipush 117, 0, 0), (151, .castore, 0, 0), (152, .dup, 0, 0), (153, .bipush 16, 0, 0), (155, .bipush 109, 0, 0), (157, .castore, 0, 0), (158, .dup, 0, 0), (159, .bipush 17, 0, 0)], [(161, .bipush 110, 0, 0), (163, .castore, 0, 0), (164, .dup, 0, 0), (165, .bipush 18, 0, 0), (167, .bipush 116, 0, 0), (169, .castore, 0, 0), (170, .dup, 0, 0), (171, .bipush 19, 0, 0), (173, .bipush 105, 0, 0), (175, .castore, 0, 0)], [(176, .dup, 0, 0), (177, .bipush 20, 0, 0), (179, .bipush 100, 0, 0), (181, .castore, 0, 0), (182, .dup, 0, 0), (183, .bipush 21, 0, 0), (185, .bipush 101, 0, 0), (187, .castore, 0, 0), (188, .dup, 0, 0), (189, .bipush 22, 0, 0), (191, .iconst 0, 0, 0)], [(192, .castore, 0, 0), (193, .dup, 0, 0), (194, .bipush 23, 0, 0), (196, .iconst 0, 0, 0), (197, .castore, 0, 0), (198, .dup, 0, 0), (199, .bipush 24, 0, 0), (201, .bipush 110, 0, 0), (203, .castore, 0, 0), (204, .dup, 0, 0), (205, .bipush 25, 0, 0), (207, .bipush 117, 0, 0)], [(209, .castore, 0, 0), (210, .dup, 0, 0), (211, .bipush 26, 0, 0), (213, .bipush 109, 0, 0), (215, .castore, 0, 0), (216, .dup, 0, 0), (217, .bipush 27, 0, 0), (219, .bipush 98, 0, 0), (221, .castore, 0, 0), (222, .dup, 0, 0), (223, .bipush 28, 0, 0)], [(225, .bipush 101, 0, 0), (227, .castore, 0, 0), (228, .dup, 0, 0), (229, .bipush 29, 0, 0), (231, .bipush 114, 0, 0), (233, .castore, 0, 0), (234, .dup, 0, 0), (235, .bipush 30, 0, 0), (237, .bipush 98, 0, 0), (239, .castore, 0, 0)], [(240, .dup, 0, 0), (241, .bipush 31, 0, 0), (243, .bipush 101, 0, 0), (245, .castore, 0, 0), (246, .dup, 0, 0), (247, .bipush 32, 0, 0), (249, .bipush 115, 0, 0), (251, .castore, 0, 0), (252, .dup, 0, 0), (253, .bipush 33, 0, 0), (255, .bipush 105, 0, 0)]]
def mx_t131_2 : List (List (Nat × mx_I)) := [[(257, .castore, 0, 0), (258, .dup, 0, 0), (259, .bipush 34, 0, 0), (261, .bipush 100, 0, 0), (263, .castore, 0, 0), (264, .dup, 0, 0), (265, .bipush 35, 0, 0), (267, .bipush 101, 0, 0), (269, .castore, 0, 0), (270, .dup, 0, 0), (271, .bipush 36, 0, 0)], [(273, .bipush 116, 0, 0), (275, .castore, 0, 0), (276, .dup, 0, 0), (277, .bipush 37, 0, 0), (279, .bipush 97, 0, 0), (281, .castore, 0, 0), (282, .dup, 0, 0), (283, .bipush 38, 0, 0), (285, .bipush 107, 0, 0), (287, .castore, 0, 0)], [(288, .dup, 0, 0), (289, .bipush 39, 0, 0), (291, .bipush 101, 0, 0), (293, .castore, 0, 0), (294, .dup, 0, 0), (295, .bipush 40, 0, 0), (297, .bipush 115, 0, 0), (299, .castore, 0, 0), (300, .dup, 0, 0), (301, .bipush 41, 0, 0), (303, .iconst 0, 0, 0)], [(304, .castore, 0, 0), (305, .dup, 0, 0), (306, .bipush 42, 0, 0), (308, .bipush 108, 0, 0), (310, .castore, 0, 0), (311, .dup, 0, 0), (312, .bipush 43, 0, 0), (314, .bipush 97, 0, 0), (316, .castore, 0, 0), (317, .dup, 0, 0), (318, .bipush 44, 0, 0)], [(320, .bipush 121, 0, 0), (322, .castore, 0, 0), (323, .dup, 0, 0), (324, .bipush 45, 0, 0), (326, .bipush 115, 0, 0), (328, .castore, 0, 0), (329, .dup, 0, 0), (330, .bipush 46, 0, 0), (332, .iconst 0, 0, 0), (333, .castore, 0, 0), (334, .dup, 0, 0), (335, .bipush 47, 0, 0)], [(337, .iconst 0, 0, 0), (338, .castore, 0, 0), (339, .dup, 0, 0), (340, .bipush 48, 0, 0), (342, .bipush 108, 0, 0), (344, .castore, 0, 0), (345, .dup, 0, 0), (346, .bipush 49, 0, 0), (348, .bipush 101, 0, 0), (350, .castore, 0, 0), (351, .dup, 0, 0)], [(352, .bipush 50, 0, 0), (354, .bipush 97, 0, 0), (356, .castore, 0, 0), (357, .dup, 0, 0), (358, .bipush 51, 0, 0), (360, .bipush 118, 0, 0), (362, .castore, 0, 0), (363, .dup, 0, 0), (364, .bipush 52, 0, 0), (366, .bipush 101, 0, 0)], [(368, .castore, 0, 0), (369, .dup, 0, 0), (370, .bipush 53, 0, 0), (372, .bipush 115, 0, 0), (374, .castore, 0, 0), (375, .dup, 0, 0), (376, .bipush 54, 0, 0), (378, .bipush 111, 0, 0), (380, .castore, 0, 0), (381, .dup, 0, 0), (382, .bipush 55, 0, 0)]]
def mx_t131_3 : List (List (Nat × mx_I)) := [[(384, .bipush 114, 0, 0), (386, .castore, 0, 0), (387, .dup, 0, 0), (388, .bipush 56, 0, 0), (390, .iconst 0, 0, 0), (391, .castore, 0, 0), (392, .dup, 0, 0), (393, .bipush 57, 0, 0), (395, .iconst 0, 0, 0), (396, .castore, 0, 0), (397, .dup, 0, 0), (398, .bipush 58, 0, 0)], [(400, .iconst 0, 0, 0), (401, .castore, 0, 0), (402, .dup, 0, 0), (403, .bipush 59, 0, 0), (405, .iconst 0, 0, 0), (406, .castore, 0, 0), (407, .dup, 0, 0), (408, .bipush 60, 0, 0), (410, .bipush 97, 0, 0), (412, .castore, 0, 0), (413, .dup, 0, 0), (414, .bipush 61, 0, 0)], [(416, .bipush 110, 0, 0), (418, .castore, 0, 0), (419, .dup, 0, 0), (420, .bipush 62, 0, 0), (422, .bipush 100, 0, 0), (424, .castore, 0, 0), (425, .dup, 0, 0), (426, .bipush 63, 0, 0), (428, .iconst 0, 0, 0), (429, .castore, 0, 0), (430, .dup, 0, 0), (431, .bipush 64, 0, 0)], [(433, .iconst 0, 0, 0), (434, .castore, 0, 0), (435, .dup, 0, 0), (436, .bipush 65, 0, 0), (438, .iconst 0, 0, 0), (439, .castore, 0, 0), (440, .dup, 0, 0), (441, .bipush 66, 0, 0), (443, .bipush 110, 0, 0), (445, .castore, 0, 0), (446, .dup, 0, 0), (447, .bipush 67, 0, 0)], [(449, .bipush 111, 0, 0), (451, .castore, 0, 0), (452, .dup, 0, 0), (453, .bipush 68, 0, 0), (455, .bipush 116, 0, 0), (457, .castore, 0, 0), (458, .dup, 0, 0), (459, .bipush 69, 0, 0), (461, .iconst 0, 0, 0), (462, .castore, 0, 0), (463, .dup, 0, 0)], [(464, .bipush 70, 0, 0), (466, .iconst 0, 0, 0), (467, .castore, 0, 0), (468, .dup, 0, 0), (469, .bipush 71, 0, 0), (471, .iconst 0, 0, 0), (472, .castore, 0, 0), (473, .putfield 36, 914, 0), (476, .aload_n 0, 0, 0), (477, .sipush 160, 0, 0)], [(480, .newarray .int, 0, 0), (482, .putfield 40, 915, 0), (485, .aload_n 0, 0, 0), (486, .sipush 160, 0, 0), (489, .newarray .int, 0, 0), (491, .putfield 43, 917, 0), (494, .aload_n 0, 0, 0), (495, .bipush 36, 0, 0)], [(497, .newarray .int, 0, 0), (499, .putfield 46, 921, 0), (502, .aload_n 0, 0, 0), (503, .bipush 36, 0, 0), (505, .newarray .boolean, 0, 0), (507, .putfield 49, 922, 0), (510, .aload_n 0, 0, 0), (511, .bipush 7, 0, 0)]]
def mx_t131_4 : List (List (Nat × mx_I)) := [[(513, .newarray .int, 0, 0), (515, .putfield 53, 924, 0), (518, .aload_n 0, 0, 0), (519, .bipush 28, 0, 0), (521, .newarray .int, 0, 0), (523, .putfield 56, 925, 0), (526, .aload_n 0, 0, 0), (527, .iconst 4, 0, 0)], [(528, .newarray .int, 0, 0), (530, .putfield 59, 929, 0), (533, .aload_n 0, 0, 0), (534, .iconst 4, 0, 0), (535, .newarray .int, 0, 0), (537, .putfield 62, 930, 0), (540, .aload_n 0, 0, 0), (541, .iconst 4, 0, 0), (542, .newarray .int, 0, 0)], [(544, .dup, 0, 0), (545, .iconst 0, 0, 0), (546, .iconst (-1), 0, 0), (547, .iastore, 0, 0), (548, .dup, 0, 0), (549, .iconst 1, 0, 0), (550, .iconst (-1), 0, 0), (551, .iastore, 0, 0), (552, .dup, 0, 0), (553, .iconst 2, 0, 0), (554, .iconst (-1), 0, 0), (555, .iastore, 0, 0), (556, .dup, 0, 0), (557, .iconst 3, 0, 0), (558, .iconst (-1), 0, 0), (559, .iastore, 0, 0)], [(560, .putfield 65, 931, 0), (563, .aload_n 0, 0, 0), (564, .iconst 4, 0, 0), (565, .newarray .int, 0, 0), (567, .putfield 68, 932, 0), (570, .aload_n 0, 0, 0), (571, .sipush 160, 0, 0), (574, .newarray .int, 0, 0)], [(576, .putfield 71, 933, 0), (579, .aload_n 0, 0, 0), (580, .bipush 40, 0, 0), (582, .newarray .int, 0, 0), (584, .putfield 74, 934, 0), (587, .aload_n 0, 0, 0), (588, .bipush 6, 0, 0), (590, .newarray .int, 0, 0)], [(592, .dup, 0, 0), (593, .iconst 0, 0, 0), (594, .iconst (-1), 0, 0), (595, .iastore, 0, 0), (596, .dup, 0, 0), (597, .iconst 1, 0, 0), (598, .iconst 0, 0, 0), (599, .iastore, 0, 0), (600, .dup, 0, 0), (601, .iconst 2, 0, 0), (602, .iconst 0, 0, 0), (603, .iastore, 0, 0), (604, .dup, 0, 0), (605, .iconst 3, 0, 0), (606, .iconst 1, 0, 0), (607, .iastore, 0, 0)], [(608, .dup, 0, 0), (609, .iconst 4, 0, 0), (610, .iconst 2, 0, 0), (611, .iastore, 0, 0), (612, .dup, 0, 0), (613, .iconst 5, 0, 0), (614, .iconst 0, 0, 0), (615, .iastore, 0, 0), (616, .putfield 77, 935, 0), (619, .return_, 0, 0)]]
def mx_t131 : List (List (List (Nat × mx_I))) := [mx_t131_0, mx_t131_1, mx_t131_2, mx_t131_3, mx_t131_4]
def mx_t132_0 : List (List (Nat × mx_I)) := [[(0, .iload_n 0, 0, 0), (1, .iload_n 1, 0, 0), (2, .if_icmp .lt 12, 14, 0), (5, .iload_n 0, 0, 0), (6, .iload_n 2, 0, 0), (7, .if_icmp .gt 7, 14, 0), (10, .iconst 1, 0, 0), (11, .goto 4, 15, 0), (14, .iconst 0, 0, 0), (15, .ireturn, 0, 0)]]
def mx_t132 : List (List (List (Nat × mx_I))) := [mx_t132_0]
def mx_t133_0 : List (List (Nat × mx_I)) := [[(0, .iload_n 1, 0, 0), (1, .iload_n 2, 0, 0), (2, .iload_n 0, 0, 0), (3, .invokestatic 80, 0, 21), (6, .invokestatic 86, 0, 20), (9, .ireturn, 0, 0)]]
def mx_t133 : List (List (List (Nat × mx_I))) := [mx_t133_0]
def mx_t134_0 : List (List (Nat × mx_I)) := [[(0, .iconst 0, 0, 0), (1, .istore_n 2, 0, 0), (2, .iload_n 2, 0, 0), (3, .bipush 91, 0, 0), (5, .if_icmp .ge 18, 23, 0), (8, .aload_n 1, 0, 0), (9, .iload_n 2, 0, 0), (10, .aload_n 0, 0, 0), (11, .getfield 7, 900, 0), (14, .iload_n 2, 0, 0), (15, .iaload, 0, 0)], [(16, .iastore, 0, 0), (17, .iinc 2 1, 0, 0), (20, .goto (-18), 2, 0), (23, .return_, 0, 0)]]
def mx_t134 : List (List (List (Nat × mx_I))) := [mx_t134_0]
def mx_t135_0 : List (List (Nat × mx_I)) := [[(0, .iconst 0, 0, 0), (1, .istore_n 2, 0, 0), (2, .iload_n 2, 0, 0), (3, .bipush 91, 0, 0), (5, .if_icmp .ge 18, 23, 0), (8, .aload_n 0, 0, 0), (9, .getfield 7, 900, 0), (12, .iload_n 2, 0, 0), (13, .aload_n 1, 0, 0), (14, .iload_n 2, 0, 0), (15, .iaload, 0, 0)], [(16, .iastore, 0, 0), (17, .iinc 2 1, 0, 0), (20, .goto (-18), 2, 0), (23, .return_, 0, 0)]]
def mx_t135 : List (List (List (Nat × mx_I))) := [mx_t135_0]
def mx_t136_0 : List (List (Nat × mx_I)) := [[(0, .aload_n 0, 0, 0), (1, .getfield 7, 900, 0), (4, .bipush 88, 0, 0), (6, .iaload, 0, 0), (7, .ireturn, 0, 0)]]
def mx_t136 : List (List (List (Nat × mx_I))) := [mx_t136_0]
def mx_t137_0 : List (List (Nat × mx_I)) := [[(0, .iload_n 1, 0, 0), (1, .iconst 0, 0, 0), (2, .aload_n 0, 0, 0), (3, .getfield 7, 900, 0), (6, .bipush 88, 0, 0), (8, .iaload, 0, 0), (9, .iconst 1, 0, 0), (10, .isub, 0, 0), (11, .invokestatic 89, 132, 3), (14, .ireturn, 0, 0)]]
def mx_t137 : List (List (List (Nat × mx_I))) := [mx_t137_0]
def mx_t138_0 : List (List (Nat × mx_I)) := [[(0, .iload_n 0, 0, 0), (1, .iconst 0, 0, 0), (2, .bipush 35, 0, 0), (4, .invokestatic 89, 132, 3), (7, .ireturn, 0, 0)]]
def mx_t138 : List (List (List (Nat × mx_I))) := [mx_t138_0]
def mx_t139_0 : List (List (Nat × mx_I)) := [[(0, .aload_n 0, 0, 0), (1, .getfield 7, 900, 0), (4, .iload_n 1, 0, 0), (5, .iaload, 0, 0), (6, .aload_n 0, 0, 0), (7, .getfield 7, 900, 0), (10, .bipush 36, 0, 0), (12, .iload_n 1, 0, 0), (13, .iadd, 0, 0), (14, .iaload, 0, 0), (15, .if_icmp .eq 7, 22, 0)], [(18, .iconst 1, 0, 0), (19, .goto 4, 23, 0), (22, .iconst 0, 0, 0), (23, .ireturn, 0, 0)]]
def mx_t139 : List (List (List (Nat × mx_I))) := [mx_t139_0]
def mx_t140_0 : List (List (Nat × mx_I)) := [[(0, .iload_n 0, 0, 0), (1, .bipush 6, 0, 0), (3, .idiv, 0, 0), (4, .iload_n 1, 0, 0), (5, .bipush 6, 0, 0), (7, .idiv, 0, 0), (8, .isub, 0, 0), (9, .invokestatic 93, 0, 22), (12, .iload_n 0, 0, 0), (13, .bipush 6, 0, 0), (15, .irem, 0, 0)], [(16, .iload_n 1, 0, 0), (17, .bipush 6, 0, 0), (19, .irem, 0, 0), (20, .isub, 0, 0), (21, .invokestatic 93, 0, 22), (24, .iadd, 0, 0), (25, .ireturn, 0, 0)]]
def mx_t140 : List (List (List (Nat × mx_I))) := [mx_t140_0]
def mx_t141_0 : List (List (Nat × mx_I)) := [[(0, .aload_n 0, 0, 0), (1, .getfield 7, 900, 0), (4, .bipush 72, 0, 0), (6, .iconst 4, 0, 0), (7, .iload_n 1, 0, 0), (8, .imul, 0, 0), (9, .iadd, 0, 0), (10, .iconst 2, 0, 0), (11, .iadd, 0, 0), (12, .iaload, 0, 0), (13, .ireturn, 0, 0)]]
def mx_t141 : List (List (List (Nat × mx_I))) := [mx_t141_0]
def mx_t142_0 : List (List (Nat × mx_I)) := [[(0, .iload_n 1, 0, 0), (1, .ifCond .ne 6, 7, 0), (4, .bipush 89, 0, 0), (6, .ireturn, 0, 0), (7, .iload_n 1, 0, 0), (8, .iconst 3, 0, 0), (9, .if_icmp .ge 23, 32, 0), (12, .iload_n 2, 0, 0), (13, .invokestatic 97, 138, 3)], [(16, .ifCond .eq 14, 30, 0), (19, .bipush 36, 0, 0), (21, .iload_n 1, 0, 0), (22, .iconst 1, 0, 0), (23, .isub, 0, 0), (24, .imul, 0, 0), (25, .iload_n 2, 0, 0), (26, .iadd, 0, 0), (27, .goto 4, 31, 0), (30, .iconst (-1), 0, 0), (31, .ireturn, 0, 0)], [(32, .aload_n 0, 0, 0), (33, .iload_n 2, 0, 0), (34, .invokevirtual 101, 137, 1), (37, .ifCond .eq 16, 53, 0), (40, .bipush 72, 0, 0), (42, .iconst 4, 0, 0), (43, .iload_n 2, 0, 0), (44, .imul, 0, 0), (45, .iadd, 0, 0), (46, .iload_n 1, 0, 0), (47, .iadd, 0, 0)], [(48, .iconst 2, 0, 0), (49, .isub, 0, 0), (50, .goto 4, 54, 0), (53, .iconst (-1), 0, 0), (54, .ireturn, 0, 0)]]
def mx_t142 : List (List (List (Nat × mx_I))) := [mx_t142_0]
def mx_t143_0 : List (List (Nat × mx_I)) := [[(0, .iload_n 1, 0, 0), (1, .iconst 0, 0, 0), (2, .iconst 4, 0, 0), (3, .invokestatic 89, 132, 3), (6, .ifCond .eq 43, 49, 0), (9, .iload_n 3, 0, 0), (10, .iconst 0, 0, 0), (11, .iload_n 1, 0, 0), (12, .ifCond .ne 9, 21, 0), (15, .sipush 999, 0, 0)], [(18, .goto 15, 33, 0), (21, .iload_n 1, 0, 0), (22, .iconst 4, 0, 0), (23, .if_icmp .ne 8, 31, 0), (26, .bipush 35, 0, 0), (28, .goto 5, 33, 0), (31, .bipush 9, 0, 0)], [(33, .invokestatic 89, 132, 3), (36, .ifCond .eq 13, 49, 0), (39, .aload_n 0, 0, 0), (40, .iload_n 1, 0, 0), (41, .iload_n 2, 0, 0), (42, .invokevirtual 104, 142, 1), (45, .iconst (-1), 0, 0), (46, .if_icmp .ne 6, 52, 0)], [(49, .bipush (-2), 0, 0), (51, .ireturn, 0, 0), (52, .aload_n 0, 0, 0), (53, .getfield 7, 900, 0), (56, .aload_n 0, 0, 0), (57, .iload_n 1, 0, 0), (58, .iload_n 2, 0, 0), (59, .invokevirtual 104, 142, 1), (62, .iaload, 0, 0), (63, .istore 4, 0, 0)], [(65, .aload_n 0, 0, 0), (66, .getfield 7, 900, 0), (69, .aload_n 0, 0, 0), (70, .iload_n 1, 0, 0), (71, .iload_n 2, 0, 0), (72, .invokevirtual 104, 142, 1), (75, .iload_n 3, 0, 0), (76, .iastore, 0, 0), (77, .iload 4, 0, 0), (79, .ireturn, 0, 0)]]
def mx_t143 : List (List (List (Nat × mx_I))) := [mx_t143_0]
def mx_t144_0 : List (List (Nat × mx_I)) := [[(0, .iload_n 1, 0, 0), (1, .iconst 0, 0, 0), (2, .iconst 5, 0, 0), (3, .invokestatic 89, 132, 3), (6, .ifCond .eq 20, 26, 0), (9, .iload_n 2, 0, 0), (10, .iconst 0, 0, 0), (11, .bipush 9, 0, 0), (13, .invokestatic 89, 132, 3)], [(16, .ifCond .eq 10, 26, 0), (19, .iload_n 3, 0, 0), (20, .invokestatic 97, 138, 3), (23, .ifCond .ne 6, 29, 0), (26, .bipush (-2), 0, 0), (28, .ireturn, 0, 0), (29, .aload_n 0, 0, 0), (30, .invokevirtual 107, 136, 1)], [(33, .iconst 4, 0, 0), (34, .if_icmp .ne 6, 40, 0), (37, .bipush (-4), 0, 0), (39, .ireturn, 0, 0), (40, .aload_n 0, 0, 0), (41, .invokevirtual 107, 136, 1), (44, .istore 4, 0, 0), (46, .aload_n 0, 0, 0), (47, .getfield 7, 900, 0)], [(50, .bipush 72, 0, 0), (52, .iconst 4, 0, 0), (53, .iload 4, 0, 0), (55, .imul, 0, 0), (56, .iadd, 0, 0), (57, .iload_n 1, 0, 0), (58, .iastore, 0, 0), (59, .aload_n 0, 0, 0), (60, .getfield 7, 900, 0), (63, .bipush 72, 0, 0)], [(65, .iconst 4, 0, 0), (66, .iload 4, 0, 0), (68, .imul, 0, 0), (69, .iadd, 0, 0), (70, .iconst 1, 0, 0), (71, .iadd, 0, 0), (72, .iload_n 2, 0, 0), (73, .iastore, 0, 0), (74, .aload_n 0, 0, 0), (75, .getfield 7, 900, 0), (78, .bipush 72, 0, 0)], [(80, .iconst 4, 0, 0), (81, .iload 4, 0, 0), (83, .imul, 0, 0), (84, .iadd, 0, 0), (85, .iconst 2, 0, 0), (86, .iadd, 0, 0), (87, .iload_n 3, 0, 0), (88, .iastore, 0, 0), (89, .aload_n 0, 0, 0), (90, .getfield 7, 900, 0), (93, .bipush 72, 0, 0), (95, .iconst 4, 0, 0)], [(96, .iload 4, 0, 0), (98, .imul, 0, 0), (99, .iadd, 0, 0), (100, .iconst 3, 0, 0), (101, .iadd, 0, 0), (102, .iconst 0, 0, 0), (103, .iastore, 0, 0), (104, .aload_n 0, 0, 0), (105, .getfield 7, 900, 0), (108, .bipush 88, 0, 0), (110, .dup2, 0, 0), (111, .iaload, 0, 0)], [(112, .iconst 1, 0, 0), (113, .iadd, 0, 0), (114, .iastore, 0, 0), (115, .iload 4, 0, 0), (117, .ireturn, 0, 0)]]
def mx_t144 : List (List (List (Nat × mx_I))) := [mx_t144_0]
def mx_t145_0 : List (List (Nat × mx_I)) := [[(0, .iload_n 2, 0, 0), (1, .iconst 0, 0, 0), (2, .bipush 6, 0, 0), (4, .invokestatic 89, 132, 3), (7, .ifCond .eq 13, 20, 0), (10, .aload_n 0, 0, 0), (11, .iload_n 2, 0, 0), (12, .iload_n 1, 0, 0), (13, .invokevirtual 104, 142, 1)], [(16, .iconst (-1), 0, 0), (17, .if_icmp .ne 6, 23, 0), (20, .bipush (-2), 0, 0), (22, .ireturn, 0, 0), (23, .iload_n 2, 0, 0), (24, .iconst 5, 0, 0), (25, .if_icmp .ge 17, 42, 0), (28, .aload_n 0, 0, 0), (29, .getfield 7, 900, 0)], [(32, .aload_n 0, 0, 0), (33, .iload_n 2, 0, 0), (34, .iload_n 1, 0, 0), (35, .invokevirtual 104, 142, 1), (38, .iaload, 0, 0), (39, .goto 25, 64, 0), (42, .aload_n 0, 0, 0), (43, .getfield 7, 900, 0), (46, .bipush 72, 0, 0)], [(48, .iconst 4, 0, 0), (49, .iload_n 1, 0, 0), (50, .imul, 0, 0), (51, .iadd, 0, 0), (52, .iload_n 2, 0, 0), (53, .iconst 5, 0, 0), (54, .if_icmp .ne 7, 61, 0), (57, .iconst 0, 0, 0), (58, .goto 4, 62, 0), (61, .iconst 3, 0, 0), (62, .iadd, 0, 0), (63, .iaload, 0, 0)], [(64, .ireturn, 0, 0)]]
def mx_t145 : List (List (List (Nat × mx_I))) := [mx_t145_0]
def mx_t146_0 : List (List (Nat × mx_I)) := [[(0, .aload_n 0, 0, 0), (1, .getfield 22, 910, 0), (4, .iconst 0, 0, 0), (5, .iconst 2, 0, 0), (6, .iastore, 0, 0), (7, .aload_n 0, 0, 0), (8, .getfield 22, 910, 0), (11, .iconst 1, 0, 0), (12, .bipush (-10), 0, 0), (14, .iastore, 0, 0), (15, .aload_n 0, 0, 0)], [(16, .getfield 22, 910, 0), (19, .iconst 2, 0, 0), (20, .bipush (-25), 0, 0), (22, .iastore, 0, 0), (23, .aload_n 0, 0, 0), (24, .getfield 22, 910, 0), (27, .iconst 3, 0, 0), (28, .bipush (-10), 0, 0), (30, .iastore, 0, 0), (31, .aload_n 0, 0, 0)], [(32, .getfield 22, 910, 0), (35, .iconst 4, 0, 0), (36, .iconst 0, 0, 0), (37, .iastore, 0, 0), (38, .aload_n 0, 0, 0), (39, .getfield 25, 911, 0), (42, .iconst 0, 0, 0), (43, .iconst 3, 0, 0), (44, .iastore, 0, 0), (45, .aload_n 0, 0, 0), (46, .getfield 25, 911, 0)], [(49, .iconst 1, 0, 0), (50, .iconst 4, 0, 0), (51, .iastore, 0, 0), (52, .aload_n 0, 0, 0), (53, .getfield 25, 911, 0), (56, .iconst 2, 0, 0), (57, .iconst 5, 0, 0), (58, .iastore, 0, 0), (59, .iconst 1, 0, 0), (60, .ireturn, 0, 0)]]
def mx_t146 : List (List (List (Nat × mx_I))) := [mx_t146_0]
def mx_t147_0 : List (List (Nat × mx_I)) := [[(0, .iload_n 1, 0, 0), (1, .iconst 0, 0, 0), (2, .sipush 255, 0, 0), (5, .invokestatic 89, 132, 3), (8, .ifCond .ne 6, 14, 0), (11, .bipush (-2), 0, 0), (13, .ireturn, 0, 0), (14, .aload_n 0, 0, 0), (15, .getfield 110, 905, 0)], [(18, .sipush 160, 0, 0), (21, .if_icmp .ne 6, 27, 0), (24, .bipush (-4), 0, 0), (26, .ireturn, 0, 0), (27, .aload_n 0, 0, 0), (28, .getfield 19, 904, 0), (31, .aload_n 0, 0, 0)], [(32, .getfield 110, 905, 0), (35, .iload_n 1, 0, 0), (36, .iastore, 0, 0), (37, .aload_n 0, 0, 0), (38, .dup, 0, 0), (39, .getfield 110, 905, 0), (42, .iconst 1, 0, 0), (43, .iadd, 0, 0), (44, .putfield 110, 905, 0), (47, .aload_n 0, 0, 0)], [(48, .getfield 110, 905, 0), (51, .ireturn, 0, 0)]]
def mx_t147 : List (List (List (Nat × mx_I))) := [mx_t147_0]
def mx_t148_0 : List (List (Nat × mx_I)) := [[(0, .iload_n 1, 0, 0), (1, .aload_n 0, 0, 0), (2, .getfield 110, 905, 0), (5, .if_icmp .lt 7, 12, 0), (8, .iconst 0, 0, 0), (9, .goto 44, 53, 0), (12, .aload_n 0, 0, 0), (13, .getfield 19, 904, 0)], [(16, .iload_n 1, 0, 0), (17, .iaload, 0, 0), (18, .bipush 97, 0, 0), (20, .bipush 122, 0, 0), (22, .invokestatic 89, 132, 3), (25, .ifCond .eq 7, 32, 0), (28, .iconst 1, 0, 0), (29, .goto 24, 53, 0)], [(32, .aload_n 0, 0, 0), (33, .getfield 19, 904, 0), (36, .iload_n 1, 0, 0), (37, .iaload, 0, 0), (38, .bipush 48, 0, 0), (40, .bipush 57, 0, 0), (42, .invokestatic 89, 132, 3), (45, .ifCond .eq 7, 52, 0)], [(48, .iconst 2, 0, 0), (49, .goto 4, 53, 0), (52, .iconst 3, 0, 0), (53, .ireturn, 0, 0)]]
def mx_t148 : List (List (List (Nat × mx_I))) := [mx_t148_0]
def mx_t149_0 : List (List (Nat × mx_I)) := [[(0, .aload_n 0, 0, 0), (1, .getfield 113, 906, 0), (4, .aload_n 0, 0, 0), (5, .getfield 110, 905, 0), (8, .if_icmp .ge 44, 52, 0), (11, .aload_n 0, 0, 0), (12, .getfield 19, 904, 0), (15, .aload_n 0, 0, 0)], [(16, .getfield 113, 906, 0), (19, .iaload, 0, 0), (20, .bipush 32, 0, 0), (22, .if_icmp .eq 17, 39, 0), (25, .aload_n 0, 0, 0), (26, .getfield 19, 904, 0), (29, .aload_n 0, 0, 0), (30, .getfield 113, 906, 0)], [(33, .iaload, 0, 0), (34, .bipush 10, 0, 0), (36, .if_icmp .ne 16, 52, 0), (39, .aload_n 0, 0, 0), (40, .dup, 0, 0), (41, .getfield 113, 906, 0), (44, .iconst 1, 0, 0), (45, .iadd, 0, 0), (46, .putfield 113, 906, 0)], [(49, .goto (-49), 0, 0), (52, .aload_n 0, 0, 0), (53, .aload_n 0, 0, 0), (54, .getfield 113, 906, 0), (57, .putfield 116, 907, 0), (60, .aload_n 0, 0, 0), (61, .aload_n 0, 0, 0), (62, .aload_n 0, 0, 0), (63, .getfield 113, 906, 0)], [(66, .invokevirtual 119, 148, 1), (69, .putfield 122, 908, 0), (72, .aload_n 0, 0, 0), (73, .getfield 122, 908, 0), (76, .ifCond .le 49, 125, 0), (79, .aload_n 0, 0, 0)], [(80, .dup, 0, 0), (81, .getfield 113, 906, 0), (84, .iconst 1, 0, 0), (85, .iadd, 0, 0), (86, .putfield 113, 906, 0), (89, .aload_n 0, 0, 0), (90, .getfield 122, 908, 0), (93, .iconst 3, 0, 0), (94, .if_icmp .ge 31, 125, 0)], [(97, .aload_n 0, 0, 0), (98, .aload_n 0, 0, 0), (99, .getfield 113, 906, 0), (102, .invokevirtual 119, 148, 1), (105, .aload_n 0, 0, 0), (106, .getfield 122, 908, 0), (109, .if_icmp .ne 16, 125, 0)], [(112, .aload_n 0, 0, 0), (113, .dup, 0, 0), (114, .getfield 113, 906, 0), (117, .iconst 1, 0, 0), (118, .iadd, 0, 0), (119, .putfield 113, 906, 0), (122, .goto (-33), 89, 0), (125, .return_, 0, 0)]]
def mx_t149 : List (List (List (Nat × mx_I))) := [mx_t149_0]
def mx_t150_0 : List (List (Nat × mx_I)) := [[(0, .iconst (-1), 0, 0), (1, .istore_n 1, 0, 0), (2, .iconst 0, 0, 0), (3, .istore_n 2, 0, 0), (4, .iload_n 2, 0, 0), (5, .bipush 12, 0, 0), (7, .if_icmp .ge 118, 125, 0), (10, .aload_n 0, 0, 0), (11, .getfield 122, 908, 0), (14, .iconst 1, 0, 0), (15, .if_icmp .ne 21, 36, 0)], [(18, .aload_n 0, 0, 0), (19, .getfield 113, 906, 0), (22, .aload_n 0, 0, 0), (23, .getfield 116, 907, 0), (26, .isub, 0, 0), (27, .bipush 6, 0, 0), (29, .if_icmp .gt 7, 36, 0)], [(32, .iconst 1, 0, 0), (33, .goto 4, 37, 0), (36, .iconst 0, 0, 0), (37, .istore_n 3, 0, 0), (38, .iconst 0, 0, 0), (39, .istore 4, 0, 0), (41, .iload_n 3, 0, 0), (42, .ifCond .eq 67, 109, 0), (45, .iload 4, 0, 0), (47, .bipush 6, 0, 0)], [(49, .if_icmp .ge 60, 109, 0), (52, .aload_n 0, 0, 0), (53, .getfield 36, 914, 0), (56, .bipush 6, 0, 0), (58, .iload_n 2, 0, 0), (59, .imul, 0, 0), (60, .iload 4, 0, 0), (62, .iadd, 0, 0), (63, .caload, 0, 0)], [(64, .aload_n 0, 0, 0), (65, .getfield 116, 907, 0), (68, .iload 4, 0, 0), (70, .iadd, 0, 0), (71, .aload_n 0, 0, 0), (72, .getfield 113, 906, 0), (75, .if_icmp .ge 18, 93, 0), (78, .aload_n 0, 0, 0), (79, .getfield 19, 904, 0)], [(82, .aload_n 0, 0, 0), (83, .getfield 116, 907, 0), (86, .iload 4, 0, 0), (88, .iadd, 0, 0), (89, .iaload, 0, 0), (90, .goto 4, 94, 0), (93, .iconst 0, 0, 0), (94, .if_icmp .ne 7, 101, 0)], [(97, .iconst 1, 0, 0), (98, .goto 4, 102, 0), (101, .iconst 0, 0, 0), (102, .istore_n 3, 0, 0), (103, .iinc 4 1, 0, 0), (106, .goto (-65), 41, 0), (109, .iload_n 3, 0, 0), (110, .ifCond .eq 7, 117, 0)], [(113, .iload_n 2, 0, 0), (114, .goto 4, 118, 0), (117, .iload_n 1, 0, 0), (118, .istore_n 1, 0, 0), (119, .iinc 2 1, 0, 0), (122, .goto (-118), 4, 0), (125, .iload_n 1, 0, 0), (126, .ireturn, 0, 0)]]
def mx_t150 : List (List (List (Nat × mx_I))) := [mx_t150_0]
def mx_t151_0 : List (List (Nat × mx_I)) := [[(0, .aload_n 0, 0, 0), (1, .getfield 122, 908, 0), (4, .iconst 3, 0, 0), (5, .if_icmp .ne 20, 25, 0), (8, .aload_n 0, 0, 0), (9, .getfield 19, 904, 0), (12, .aload_n 0, 0, 0), (13, .getfield 116, 907, 0)], [(16, .iaload, 0, 0), (17, .iload_n 1, 0, 0), (18, .if_icmp .ne 7, 25, 0), (21, .iconst 1, 0, 0), (22, .goto 4, 26, 0), (25, .iconst 0, 0, 0), (26, .ireturn, 0, 0)]]
def mx_t151 : List (List (List (Nat × mx_I))) := [mx_t151_0]
def mx_t152_0 : List (List (Nat × mx_I)) := [[(0, .aload_n 0, 0, 0), (1, .getfield 22, 910, 0), (4, .sipush 160, 0, 0), (7, .aload_n 0, 0, 0), (8, .getfield 32, 912, 0), (11, .imul, 0, 0), (12, .aload_n 0, 0, 0), (13, .getfield 125, 913, 0)], [(16, .iadd, 0, 0), (17, .iload_n 1, 0, 0), (18, .iastore, 0, 0), (19, .aload_n 0, 0, 0), (20, .dup, 0, 0), (21, .getfield 125, 913, 0), (24, .iconst 1, 0, 0), (25, .iadd, 0, 0), (26, .putfield 125, 913, 0), (29, .return_, 0, 0)]]
def mx_t152 : List (List (List (Nat × mx_I))) := [mx_t152_0]
def mx_t153_0 : List (List (Nat × mx_I)) := [[(0, .iload_n 0, 0, 0), (1, .ifCond .ne 7, 8, 0), (4, .iconst 0, 0, 0), (5, .goto 72, 77, 0), (8, .iload_n 0, 0, 0), (9, .bipush (-20), 0, 0), (11, .if_icmp .ne 7, 18, 0), (14, .iconst 1, 0, 0), (15, .goto 62, 77, 0)], [(18, .iload_n 0, 0, 0), (19, .bipush (-21), 0, 0), (21, .if_icmp .ne 7, 28, 0), (24, .iconst 2, 0, 0), (25, .goto 52, 77, 0), (28, .iload_n 0, 0, 0), (29, .bipush (-22), 0, 0), (31, .if_icmp .ne 7, 38, 0)], [(34, .iconst 3, 0, 0), (35, .goto 42, 77, 0), (38, .iload_n 0, 0, 0), (39, .bipush (-23), 0, 0), (41, .if_icmp .eq 9, 50, 0), (44, .iload_n 0, 0, 0), (45, .bipush (-24), 0, 0), (47, .if_icmp .ne 7, 54, 0)], [(50, .iconst 4, 0, 0), (51, .goto 26, 77, 0), (54, .iload_n 0, 0, 0), (55, .bipush (-27), 0, 0), (57, .if_icmp .ne 8, 65, 0), (60, .bipush 6, 0, 0), (62, .goto 15, 77, 0)], [(65, .iload_n 0, 0, 0), (66, .bipush (-28), 0, 0), (68, .if_icmp .ne 8, 76, 0), (71, .bipush 7, 0, 0), (73, .goto 4, 77, 0), (76, .iconst 5, 0, 0), (77, .ireturn, 0, 0)]]
def mx_t153 : List (List (List (Nat × mx_I))) := [mx_t153_0]
def mx_t154_0 : List (List (Nat × mx_I)) := [[(0, .aload_n 0, 0, 0), (1, .getfield 40, 915, 0), (4, .aload_n 0, 0, 0), (5, .getfield 128, 916, 0), (8, .iload_n 1, 0, 0), (9, .iastore, 0, 0), (10, .aload_n 0, 0, 0), (11, .dup, 0, 0), (12, .getfield 128, 916, 0), (15, .iconst 1, 0, 0)], [(16, .iadd, 0, 0), (17, .putfield 128, 916, 0), (20, .return_, 0, 0)]]
def mx_t154 : List (List (List (Nat × mx_I))) := [mx_t154_0]
def mx_t155_0 : List (List (Nat × mx_I)) := [[(0, .aload_n 0, 0, 0), (1, .getfield 128, 916, 0), (4, .ifCond .ne 7, 11, 0), (7, .iconst 0, 0, 0), (8, .goto 17, 25, 0), (11, .aload_n 0, 0, 0), (12, .getfield 40, 915, 0), (15, .aload_n 0, 0, 0)], [(16, .getfield 128, 916, 0), (19, .iconst 1, 0, 0), (20, .isub, 0, 0), (21, .iaload, 0, 0), (22, .invokestatic 131, 153, 3), (25, .ireturn, 0, 0)]]
def mx_t155 : List (List (List (Nat × mx_I))) := [mx_t155_0]
def mx_t156_0 : List (List (Nat × mx_I)) := [[(0, .aload_n 0, 0, 0), (1, .invokevirtual 134, 155, 1), (4, .ifCond .le 79, 83, 0), (7, .aload_n 0, 0, 0), (8, .invokevirtual 134, 155, 1), (11, .iload_n 1, 0, 0), (12, .if_icmp .lt 71, 83, 0), (15, .aload_n 0, 0, 0)], [(16, .dup, 0, 0), (17, .getfield 128, 916, 0), (20, .iconst 1, 0, 0), (21, .isub, 0, 0), (22, .putfield 128, 916, 0), (25, .aload_n 0, 0, 0), (26, .aload_n 0, 0, 0), (27, .getfield 40, 915, 0), (30, .aload_n 0, 0, 0), (31, .getfield 128, 916, 0)], [(34, .iaload, 0, 0), (35, .invokevirtual 137, 152, 1), (38, .aload_n 0, 0, 0), (39, .dup, 0, 0), (40, .getfield 141, 909, 0), (43, .aload_n 0, 0, 0), (44, .getfield 40, 915, 0), (47, .aload_n 0, 0, 0)], [(48, .getfield 128, 916, 0), (51, .iaload, 0, 0), (52, .bipush (-22), 0, 0), (54, .if_icmp .eq 17, 71, 0), (57, .aload_n 0, 0, 0), (58, .getfield 40, 915, 0), (61, .aload_n 0, 0, 0), (62, .getfield 128, 916, 0)], [(65, .iaload, 0, 0), (66, .bipush (-28), 0, 0), (68, .if_icmp .ne 7, 75, 0), (71, .iconst 1, 0, 0), (72, .goto 4, 76, 0), (75, .iconst 0, 0, 0), (76, .isub, 0, 0), (77, .putfield 141, 909, 0)], [(80, .goto (-80), 0, 0), (83, .return_, 0, 0)]]
def mx_t156 : List (List (List (Nat × mx_I))) := [mx_t156_0]
def mx_t157_0 : List (List (Nat × mx_I)) := [[(0, .aload_n 0, 0, 0), (1, .invokevirtual 144, 150, 1), (4, .istore_n 1, 0, 0), (5, .iload_n 1, 0, 0), (6, .bipush 9, 0, 0), (8, .if_icmp .ne 8, 16, 0), (11, .bipush (-20), 0, 0), (13, .goto 85, 98, 0)], [(16, .iload_n 1, 0, 0), (17, .bipush 10, 0, 0), (19, .if_icmp .ne 8, 27, 0), (22, .bipush (-21), 0, 0), (24, .goto 74, 98, 0), (27, .aload_n 0, 0, 0), (28, .bipush 60, 0, 0), (30, .invokevirtual 147, 151, 1)], [(33, .ifCond .eq 8, 41, 0), (36, .bipush (-23), 0, 0), (38, .goto 60, 98, 0), (41, .aload_n 0, 0, 0), (42, .bipush 61, 0, 0), (44, .invokevirtual 147, 151, 1), (47, .ifCond .eq 8, 55, 0)], [(50, .bipush (-24), 0, 0), (52, .goto 46, 98, 0), (55, .aload_n 0, 0, 0), (56, .bipush 43, 0, 0), (58, .invokevirtual 147, 151, 1), (61, .ifCond .eq 8, 69, 0)], [(64, .bipush (-25), 0, 0), (66, .goto 32, 98, 0), (69, .aload_n 0, 0, 0), (70, .bipush 45, 0, 0), (72, .invokevirtual 147, 151, 1), (75, .ifCond .eq 8, 83, 0), (78, .bipush (-26), 0, 0)], [(80, .goto 18, 98, 0), (83, .aload_n 0, 0, 0), (84, .bipush 42, 0, 0), (86, .invokevirtual 147, 151, 1), (89, .ifCond .eq 8, 97, 0), (92, .bipush (-27), 0, 0), (94, .goto 4, 98, 0)], [(97, .iconst 0, 0, 0), (98, .ireturn, 0, 0)]]
def mx_t157 : List (List (List (Nat × mx_I))) := [mx_t157_0]
def mx_t158_0 : List (List (Nat × mx_I)) := [[(0, .iconst 0, 0, 0), (1, .istore_n 1, 0, 0), (2, .aload_n 0, 0, 0), (3, .getfield 116, 907, 0), (6, .istore_n 2, 0, 0), (7, .iload_n 2, 0, 0), (8, .aload_n 0, 0, 0), (9, .getfield 113, 906, 0), (12, .if_icmp .ge 24, 36, 0), (15, .bipush 10, 0, 0)], [(17, .iload_n 1, 0, 0), (18, .imul, 0, 0), (19, .aload_n 0, 0, 0), (20, .getfield 19, 904, 0), (23, .iload_n 2, 0, 0), (24, .iaload, 0, 0), (25, .iadd, 0, 0), (26, .bipush 48, 0, 0), (28, .isub, 0, 0), (29, .istore_n 1, 0, 0), (30, .iinc 2 1, 0, 0)], [(33, .goto (-26), 7, 0), (36, .iload_n 1, 0, 0), (37, .ireturn, 0, 0)]]
def mx_t158 : List (List (List (Nat × mx_I))) := [mx_t158_0]
def mx_t159_0 : List (List (Nat × mx_I)) := [[(0, .aload_n 0, 0, 0), (1, .invokevirtual 144, 150, 1), (4, .istore_n 1, 0, 0), (5, .iload_n 1, 0, 0), (6, .iconst 0, 0, 0), (7, .iconst 5, 0, 0), (8, .invokestatic 89, 132, 3), (11, .ifCond .eq 13, 24, 0), (14, .aload_n 0, 0, 0), (15, .bipush (-10), 0, 0)], [(17, .iload_n 1, 0, 0), (18, .isub, 0, 0), (19, .invokevirtual 137, 152, 1), (22, .iconst 1, 0, 0), (23, .ireturn, 0, 0), (24, .aload_n 0, 0, 0), (25, .getfield 122, 908, 0), (28, .iconst 2, 0, 0), (29, .if_icmp .ne 26, 55, 0)], [(32, .aload_n 0, 0, 0), (33, .getfield 113, 906, 0), (36, .aload_n 0, 0, 0), (37, .getfield 116, 907, 0), (40, .isub, 0, 0), (41, .iconst 4, 0, 0), (42, .if_icmp .gt 13, 55, 0), (45, .aload_n 0, 0, 0), (46, .aload_n 0, 0, 0), (47, .invokevirtual 150, 158, 1)], [(50, .invokevirtual 137, 152, 1), (53, .iconst 1, 0, 0), (54, .ireturn, 0, 0), (55, .aload_n 0, 0, 0), (56, .bipush 40, 0, 0), (58, .invokevirtual 147, 151, 1), (61, .ifCond .eq 7, 68, 0)], [(64, .iconst 0, 0, 0), (65, .goto 38, 103, 0), (68, .aload_n 0, 0, 0), (69, .bipush 45, 0, 0), (71, .invokevirtual 147, 151, 1), (74, .ifCond .eq 8, 82, 0), (77, .bipush (-28), 0, 0), (79, .goto 24, 103, 0)], [(82, .iload_n 1, 0, 0), (83, .bipush 11, 0, 0), (85, .if_icmp .ne 16, 101, 0), (88, .aload_n 0, 0, 0), (89, .invokevirtual 134, 155, 1), (92, .iconst 3, 0, 0), (93, .if_icmp .gt 8, 101, 0)], [(96, .bipush (-22), 0, 0), (98, .goto 5, 103, 0), (101, .bipush (-25), 0, 0), (103, .istore_n 2, 0, 0), (104, .iload_n 2, 0, 0), (105, .bipush (-25), 0, 0), (107, .if_icmp .eq 11, 118, 0), (110, .aload_n 0, 0, 0), (111, .getfield 141, 909, 0)], [(114, .iconst 5, 0, 0), (115, .if_icmp .ne 5, 120, 0), (118, .iconst 0, 0, 0), (119, .ireturn, 0, 0), (120, .aload_n 0, 0, 0), (121, .dup, 0, 0), (122, .getfield 141, 909, 0), (125, .iconst 1, 0, 0), (126, .iadd, 0, 0), (127, .putfield 141, 909, 0)]]
def mx_t159_1 : List (List (Nat × mx_I)) := [[(130, .aload_n 0, 0, 0), (131, .iload_n 2, 0, 0), (132, .invokevirtual 153, 154, 1), (135, .iconst 2, 0, 0), (136, .ireturn, 0, 0)]]
def mx_t159 : List (List (List (Nat × mx_I))) := [mx_t159_0, mx_t159_1]
def mx_t160_0 : List (List (Nat × mx_I)) := [[(0, .aload_n 0, 0, 0), (1, .iconst 0, 0, 0), (2, .putfield 128, 916, 0), (5, .aload_n 0, 0, 0), (6, .invokevirtual 156, 159, 1), (9, .istore_n 1, 0, 0), (10, .iload_n 1, 0, 0), (11, .iconst 2, 0, 0), (12, .if_icmp .ne 15, 27, 0), (15, .aload_n 0, 0, 0)], [(16, .invokevirtual 159, 149, 1), (19, .aload_n 0, 0, 0), (20, .invokevirtual 156, 159, 1), (23, .istore_n 1, 0, 0), (24, .goto (-14), 10, 0), (27, .iload_n 1, 0, 0), (28, .ifCond .ne 5, 33, 0), (31, .iconst 0, 0, 0)], [(32, .ireturn, 0, 0), (33, .aload_n 0, 0, 0), (34, .bipush 7, 0, 0), (36, .invokevirtual 162, 156, 1), (39, .aload_n 0, 0, 0), (40, .invokevirtual 159, 149, 1), (43, .aload_n 0, 0, 0), (44, .bipush 41, 0, 0), (46, .invokevirtual 147, 151, 1)], [(49, .ifCond .eq 50, 99, 0), (52, .aload_n 0, 0, 0), (53, .iconst 1, 0, 0), (54, .invokevirtual 162, 156, 1), (57, .aload_n 0, 0, 0), (58, .getfield 128, 916, 0), (61, .ifCond .ne 5, 66, 0)], [(64, .iconst 0, 0, 0), (65, .ireturn, 0, 0), (66, .aload_n 0, 0, 0), (67, .dup, 0, 0), (68, .getfield 128, 916, 0), (71, .iconst 1, 0, 0), (72, .isub, 0, 0), (73, .putfield 128, 916, 0), (76, .aload_n 0, 0, 0), (77, .dup, 0, 0), (78, .getfield 141, 909, 0)], [(81, .iconst 1, 0, 0), (82, .isub, 0, 0), (83, .putfield 141, 909, 0), (86, .aload_n 0, 0, 0), (87, .bipush 7, 0, 0), (89, .invokevirtual 162, 156, 1), (92, .aload_n 0, 0, 0), (93, .invokevirtual 159, 149, 1)], [(96, .goto (-53), 43, 0), (99, .aload_n 0, 0, 0), (100, .invokevirtual 165, 157, 1), (103, .istore_n 2, 0, 0), (104, .iload_n 2, 0, 0), (105, .ifCond .ne 21, 126, 0), (108, .aload_n 0, 0, 0), (109, .iconst 1, 0, 0), (110, .invokevirtual 162, 156, 1)], [(113, .aload_n 0, 0, 0), (114, .getfield 128, 916, 0), (117, .ifCond .ne 7, 124, 0), (120, .iconst 1, 0, 0), (121, .goto 4, 125, 0), (124, .iconst 0, 0, 0), (125, .ireturn, 0, 0), (126, .aload_n 0, 0, 0), (127, .iload_n 2, 0, 0)]]
def mx_t160_1 : List (List (Nat × mx_I)) := [[(128, .invokestatic 131, 153, 3), (131, .iconst 4, 0, 0), (132, .if_icmp .ne 7, 139, 0), (135, .iconst 5, 0, 0), (136, .goto 7, 143, 0), (139, .iload_n 2, 0, 0), (140, .invokestatic 131, 153, 3), (143, .invokevirtual 162, 156, 1)], [(146, .iload_n 2, 0, 0), (147, .invokestatic 131, 153, 3), (150, .iconst 4, 0, 0), (151, .if_icmp .ne 13, 164, 0), (154, .aload_n 0, 0, 0), (155, .invokevirtual 134, 155, 1), (158, .iconst 4, 0, 0), (159, .if_icmp .ne 5, 164, 0)], [(162, .iconst 0, 0, 0), (163, .ireturn, 0, 0), (164, .aload_n 0, 0, 0), (165, .iload_n 2, 0, 0), (166, .invokevirtual 153, 154, 1), (169, .aload_n 0, 0, 0), (170, .invokevirtual 159, 149, 1), (173, .goto (-168), 5, 0)]]
def mx_t160 : List (List (List (Nat × mx_I))) := [mx_t160_0, mx_t160_1]
def mx_t161_0 : List (List (Nat × mx_I)) := [[(0, .aload_n 0, 0, 0), (1, .invokevirtual 159, 149, 1), (4, .iconst 0, 0, 0), (5, .istore_n 1, 0, 0), (6, .iload_n 1, 0, 0), (7, .iconst 3, 0, 0), (8, .if_icmp .ge 65, 73, 0), (11, .aload_n 0, 0, 0), (12, .invokevirtual 144, 150, 1), (15, .bipush 6, 0, 0)], [(17, .iload_n 1, 0, 0), (18, .iadd, 0, 0), (19, .if_icmp .eq 5, 24, 0), (22, .iconst 0, 0, 0), (23, .ireturn, 0, 0), (24, .aload_n 0, 0, 0), (25, .invokevirtual 159, 149, 1), (28, .aload_n 0, 0, 0), (29, .invokevirtual 168, 160, 1)], [(32, .ifCond .eq 12, 44, 0), (35, .aload_n 0, 0, 0), (36, .bipush 59, 0, 0), (38, .invokevirtual 147, 151, 1), (41, .ifCond .ne 5, 46, 0), (44, .iconst 0, 0, 0), (45, .ireturn, 0, 0), (46, .aload_n 0, 0, 0), (47, .getfield 25, 911, 0)], [(50, .iconst 3, 0, 0), (51, .aload_n 0, 0, 0), (52, .getfield 32, 912, 0), (55, .imul, 0, 0), (56, .iload_n 1, 0, 0), (57, .iadd, 0, 0), (58, .aload_n 0, 0, 0), (59, .getfield 125, 913, 0), (62, .iastore, 0, 0), (63, .aload_n 0, 0, 0)], [(64, .invokevirtual 159, 149, 1), (67, .iinc 1 1, 0, 0), (70, .goto (-64), 6, 0), (73, .aload_n 0, 0, 0), (74, .getfield 122, 908, 0), (77, .ifCond .ne 7, 84, 0)], [(80, .iconst 1, 0, 0), (81, .goto 4, 85, 0), (84, .iconst 0, 0, 0), (85, .ireturn, 0, 0)]]
def mx_t161 : List (List (List (Nat × mx_I))) := [mx_t161_0]
def mx_t162_0 : List (List (Nat × mx_I)) := [[(0, .aload_n 0, 0, 0), (1, .getfield 32, 912, 0), (4, .bipush 6, 0, 0), (6, .if_icmp .ne 6, 12, 0), (9, .bipush (-4), 0, 0), (11, .ireturn, 0, 0), (12, .aload_n 0, 0, 0), (13, .iconst 0, 0, 0), (14, .putfield 113, 906, 0)], [(17, .aload_n 0, 0, 0), (18, .iconst 0, 0, 0), (19, .putfield 141, 909, 0), (22, .aload_n 0, 0, 0), (23, .iconst 0, 0, 0), (24, .putfield 125, 913, 0), (27, .aload_n 0, 0, 0), (28, .invokevirtual 172, 161, 1), (31, .istore_n 1, 0, 0)], [(32, .aload_n 0, 0, 0), (33, .iconst 0, 0, 0), (34, .putfield 110, 905, 0), (37, .iload_n 1, 0, 0), (38, .ifCond .ne 11, 49, 0), (41, .bipush (-100), 0, 0), (43, .aload_n 0, 0, 0), (44, .getfield 116, 907, 0), (47, .isub, 0, 0)], [(48, .ireturn, 0, 0), (49, .aload_n 0, 0, 0), (50, .dup, 0, 0), (51, .getfield 32, 912, 0), (54, .iconst 1, 0, 0), (55, .iadd, 0, 0), (56, .putfield 32, 912, 0), (59, .aload_n 0, 0, 0), (60, .getfield 32, 912, 0), (63, .iconst 1, 0, 0)], [(64, .isub, 0, 0), (65, .ireturn, 0, 0)]]
def mx_t162 : List (List (List (Nat × mx_I))) := [mx_t162_0]
def mx_t163_0 : List (List (Nat × mx_I)) := [[(0, .iload_n 1, 0, 0), (1, .iconst 0, 0, 0), (2, .aload_n 0, 0, 0), (3, .getfield 32, 912, 0), (6, .iconst 1, 0, 0), (7, .isub, 0, 0), (8, .invokestatic 89, 132, 3), (11, .ifCond .ne 6, 17, 0), (14, .bipush (-2), 0, 0)], [(16, .ireturn, 0, 0), (17, .aload_n 0, 0, 0), (18, .getfield 7, 900, 0), (21, .bipush 90, 0, 0), (23, .iaload, 0, 0), (24, .istore_n 2, 0, 0), (25, .aload_n 0, 0, 0), (26, .getfield 7, 900, 0), (29, .bipush 90, 0, 0), (31, .iload_n 1, 0, 0)], [(32, .iastore, 0, 0), (33, .iload_n 2, 0, 0), (34, .ireturn, 0, 0)]]
def mx_t163 : List (List (List (Nat × mx_I))) := [mx_t163_0]
def mx_t164_0 : List (List (Nat × mx_I)) := [[(0, .iload_n 0, 0, 0), (1, .ifCond .eq 7, 8, 0), (4, .iconst 1, 0, 0), (5, .goto 4, 9, 0), (8, .iconst 0, 0, 0), (9, .ireturn, 0, 0)]]
def mx_t164 : List (List (List (Nat × mx_I))) := [mx_t164_0]
def mx_t165_0 : List (List (Nat × mx_I)) := [[(0, .iload_n 0, 0, 0), (1, .tableswitch 113 (-26) (-20) #[109, 105, 91, 77, 113, 60, 43], 43, 0)], [], [(44, .iload_n 1, 0, 0), (45, .ifCond .ne 7, 52, 0)], [(48, .iload_n 2, 0, 0), (49, .ifCond .eq 7, 56, 0), (52, .iconst 1, 0, 0), (53, .goto 4, 57, 0), (56, .iconst 0, 0, 0), (57, .invokestatic 175, 164, 3), (60, .ireturn, 0, 0), (61, .iload_n 1, 0, 0), (62, .ifCond .eq 11, 73, 0)], [(65, .iload_n 2, 0, 0), (66, .ifCond .eq 7, 73, 0), (69, .iconst 1, 0, 0), (70, .goto 4, 74, 0), (73, .iconst 0, 0, 0), (74, .invokestatic 175, 164, 3), (77, .ireturn, 0, 0), (78, .iload_n 1, 0, 0), (79, .iload_n 2, 0, 0)], [(80, .if_icmp .ge 7, 87, 0), (83, .iconst 1, 0, 0), (84, .goto 4, 88, 0), (87, .iconst 0, 0, 0), (88, .invokestatic 175, 164, 3), (91, .ireturn, 0, 0), (92, .iload_n 1, 0, 0), (93, .iload_n 2, 0, 0), (94, .if_icmp .ne 7, 101, 0)], [(97, .iconst 1, 0, 0), (98, .goto 4, 102, 0), (101, .iconst 0, 0, 0), (102, .invokestatic 175, 164, 3), (105, .ireturn, 0, 0), (106, .iload_n 1, 0, 0), (107, .iload_n 2, 0, 0), (108, .iadd, 0, 0), (109, .ireturn, 0, 0), (110, .iload_n 1, 0, 0), (111, .iload_n 2, 0, 0)], [(112, .isub, 0, 0), (113, .ireturn, 0, 0), (114, .iload_n 1, 0, 0), (115, .iload_n 2, 0, 0), (116, .imul, 0, 0), (117, .ireturn, 0, 0)]]
def mx_t165 : List (List (List (Nat × mx_I))) := [mx_t165_0]
def mx_t166_0 : List (List (Nat × mx_I)) := [[(0, .aload_n 0, 0, 0), (1, .getfield 179, 920, 0), (4, .istore_n 3, 0, 0), (5, .iload_n 1, 0, 0), (6, .ifCond .ne 7, 13, 0), (9, .iconst 0, 0, 0), (10, .goto 15, 25, 0), (13, .aload_n 0, 0, 0), (14, .getfield 25, 911, 0)], [(17, .iconst 3, 0, 0), (18, .iload_n 3, 0, 0), (19, .imul, 0, 0), (20, .iload_n 1, 0, 0), (21, .iadd, 0, 0), (22, .iconst 1, 0, 0), (23, .isub, 0, 0), (24, .iaload, 0, 0), (25, .istore 4, 0, 0), (27, .iconst 0, 0, 0), (28, .istore 5, 0, 0), (30, .iload 4, 0, 0)], [(32, .istore 6, 0, 0), (34, .iload 6, 0, 0), (36, .aload_n 0, 0, 0), (37, .getfield 25, 911, 0), (40, .iconst 3, 0, 0), (41, .iload_n 3, 0, 0), (42, .imul, 0, 0), (43, .iload_n 1, 0, 0), (44, .iadd, 0, 0), (45, .iaload, 0, 0), (46, .if_icmp .ge 276, 322, 0)], [(49, .aload_n 0, 0, 0), (50, .getfield 22, 910, 0), (53, .sipush 160, 0, 0), (56, .iload_n 3, 0, 0), (57, .imul, 0, 0), (58, .iload 6, 0, 0), (60, .iadd, 0, 0), (61, .iaload, 0, 0), (62, .istore 7, 0, 0)], [(64, .iload 7, 0, 0), (66, .ifCond .lt 18, 84, 0), (69, .aload_n 0, 0, 0), (70, .getfield 43, 917, 0), (73, .iload 5, 0, 0), (75, .iload 7, 0, 0), (77, .iastore, 0, 0), (78, .iinc 5 1, 0, 0)], [(81, .goto 235, 316, 0), (84, .iload 7, 0, 0), (86, .bipush (-20), 0, 0), (88, .if_icmp .le 127, 215, 0), (91, .bipush (-10), 0, 0), (93, .iload 7, 0, 0), (95, .isub, 0, 0)], [(96, .istore 8, 0, 0), (98, .iload_n 1, 0, 0), (99, .iconst 2, 0, 0), (100, .if_icmp .ne 12, 112, 0), (103, .aload_n 0, 0, 0), (104, .getfield 7, 900, 0), (107, .iload_n 2, 0, 0), (108, .iaload, 0, 0), (109, .goto 12, 121, 0)], [(112, .aload_n 0, 0, 0), (113, .getfield 7, 900, 0), (116, .bipush 36, 0, 0), (118, .iload_n 2, 0, 0), (119, .iadd, 0, 0), (120, .iaload, 0, 0), (121, .istore 9, 0, 0), (123, .aload_n 0, 0, 0), (124, .getfield 43, 917, 0), (127, .iload 5, 0, 0)]]
def mx_t166_1 : List (List (Nat × mx_I)) := [[(129, .iload 8, 0, 0), (131, .ifCond .ne 8, 139, 0), (134, .iload 9, 0, 0), (136, .goto 72, 208, 0), (139, .iload 8, 0, 0), (141, .iconst 1, 0, 0), (142, .if_icmp .ne 10, 152, 0)], [(145, .iload_n 2, 0, 0), (146, .bipush 6, 0, 0), (148, .idiv, 0, 0), (149, .goto 59, 208, 0), (152, .iload 8, 0, 0), (154, .iconst 2, 0, 0), (155, .if_icmp .ne 10, 165, 0), (158, .iload_n 2, 0, 0), (159, .bipush 6, 0, 0)], [(161, .irem, 0, 0), (162, .goto 46, 208, 0), (165, .iload 8, 0, 0), (167, .iconst 3, 0, 0), (168, .if_icmp .ne 13, 181, 0), (171, .aload_n 0, 0, 0), (172, .getfield 7, 900, 0), (175, .bipush 89, 0, 0)], [(177, .iaload, 0, 0), (178, .goto 30, 208, 0), (181, .iload 8, 0, 0), (183, .iconst 5, 0, 0), (184, .if_icmp .ne 11, 195, 0), (187, .aload_n 0, 0, 0), (188, .iload_n 2, 0, 0), (189, .invokevirtual 182, 167, 1)], [(192, .goto 16, 208, 0), (195, .iload_n 1, 0, 0), (196, .iconst 2, 0, 0), (197, .if_icmp .ne 7, 204, 0), (200, .iconst 0, 0, 0), (201, .goto 7, 208, 0), (204, .aload_n 0, 0, 0), (205, .getfield 185, 919, 0)], [(208, .iastore, 0, 0), (209, .iinc 5 1, 0, 0), (212, .goto 104, 316, 0), (215, .iload 7, 0, 0), (217, .bipush (-22), 0, 0), (219, .if_icmp .ne 35, 254, 0), (222, .aload_n 0, 0, 0), (223, .getfield 43, 917, 0)], [(226, .iload 5, 0, 0), (228, .iconst 1, 0, 0), (229, .isub, 0, 0), (230, .aload_n 0, 0, 0), (231, .getfield 43, 917, 0), (234, .iload 5, 0, 0), (236, .iconst 1, 0, 0), (237, .isub, 0, 0), (238, .iaload, 0, 0), (239, .ifCond .ne 7, 246, 0)], [(242, .iconst 1, 0, 0), (243, .goto 4, 247, 0), (246, .iconst 0, 0, 0), (247, .invokestatic 175, 164, 3), (250, .iastore, 0, 0), (251, .goto 65, 316, 0), (254, .iload 7, 0, 0)]]
def mx_t166_2 : List (List (Nat × mx_I)) := [[(256, .bipush (-28), 0, 0), (258, .if_icmp .ne 25, 283, 0), (261, .aload_n 0, 0, 0), (262, .getfield 43, 917, 0), (265, .iload 5, 0, 0), (267, .iconst 1, 0, 0), (268, .isub, 0, 0), (269, .aload_n 0, 0, 0), (270, .getfield 43, 917, 0)], [(273, .iload 5, 0, 0), (275, .iconst 1, 0, 0), (276, .isub, 0, 0), (277, .iaload, 0, 0), (278, .ineg, 0, 0), (279, .iastore, 0, 0), (280, .goto 36, 316, 0), (283, .iinc 5 (-1), 0, 0), (286, .aload_n 0, 0, 0), (287, .getfield 43, 917, 0)], [(290, .iload 5, 0, 0), (292, .iconst 1, 0, 0), (293, .isub, 0, 0), (294, .iload 7, 0, 0), (296, .aload_n 0, 0, 0), (297, .getfield 43, 917, 0), (300, .iload 5, 0, 0), (302, .iconst 1, 0, 0), (303, .isub, 0, 0)], [(304, .iaload, 0, 0), (305, .aload_n 0, 0, 0), (306, .getfield 43, 917, 0), (309, .iload 5, 0, 0), (311, .iaload, 0, 0), (312, .invokestatic 188, 165, 3), (315, .iastore, 0, 0), (316, .iinc 6 1, 0, 0), (319, .goto (-285), 34, 0)], [(322, .aload_n 0, 0, 0), (323, .getfield 43, 917, 0), (326, .iconst 0, 0, 0), (327, .iaload, 0, 0), (328, .ireturn, 0, 0)]]
def mx_t166 : List (List (List (Nat × mx_I))) := [mx_t166_0, mx_t166_1, mx_t166_2]
def mx_t167_0 : List (List (Nat × mx_I)) := [[(0, .iconst 0, 0, 0), (1, .istore_n 2, 0, 0), (2, .iconst 0, 0, 0), (3, .istore_n 3, 0, 0), (4, .iload_n 3, 0, 0), (5, .bipush 36, 0, 0), (7, .if_icmp .ge 34, 41, 0), (10, .iload_n 2, 0, 0), (11, .iload_n 1, 0, 0), (12, .iload_n 3, 0, 0), (13, .invokestatic 192, 140, 3)], [(16, .iconst 1, 0, 0), (17, .if_icmp .ne 15, 32, 0), (20, .aload_n 0, 0, 0), (21, .iload_n 3, 0, 0), (22, .invokevirtual 195, 139, 1), (25, .ifCond .eq 7, 32, 0), (28, .iconst 1, 0, 0), (29, .goto 4, 33, 0)], [(32, .iconst 0, 0, 0), (33, .iadd, 0, 0), (34, .istore_n 2, 0, 0), (35, .iinc 3 1, 0, 0), (38, .goto (-34), 4, 0), (41, .iload_n 2, 0, 0), (42, .ireturn, 0, 0)]]
def mx_t167 : List (List (List (Nat × mx_I))) := [mx_t167_0]
def mx_t168_0 : List (List (Nat × mx_I)) := [[(0, .aload_n 0, 0, 0), (1, .aload_n 0, 0, 0), (2, .getfield 7, 900, 0), (5, .bipush 72, 0, 0), (7, .iconst 4, 0, 0), (8, .iload_n 1, 0, 0), (9, .imul, 0, 0), (10, .iadd, 0, 0), (11, .iaload, 0, 0), (12, .putfield 198, 918, 0), (15, .aload_n 0, 0, 0)], [(16, .aload_n 0, 0, 0), (17, .getfield 7, 900, 0), (20, .bipush 72, 0, 0), (22, .iconst 4, 0, 0), (23, .iload_n 1, 0, 0), (24, .imul, 0, 0), (25, .iadd, 0, 0), (26, .iconst 1, 0, 0), (27, .iadd, 0, 0), (28, .iaload, 0, 0), (29, .putfield 185, 919, 0)], [(32, .aload_n 0, 0, 0), (33, .aload_n 0, 0, 0), (34, .getfield 7, 900, 0), (37, .bipush 90, 0, 0), (39, .iaload, 0, 0), (40, .putfield 179, 920, 0), (43, .return_, 0, 0)]]
def mx_t168 : List (List (List (Nat × mx_I))) := [mx_t168_0]
def mx_t169_0 : List (List (Nat × mx_I)) := [[(0, .aload_n 0, 0, 0), (1, .iconst 0, 0, 0), (2, .iload_n 1, 0, 0), (3, .invokevirtual 201, 166, 1), (6, .iconst 0, 0, 0), (7, .bipush 99, 0, 0), (9, .invokestatic 204, 133, 3), (12, .istore_n 2, 0, 0), (13, .aload_n 0, 0, 0), (14, .getfield 7, 900, 0)], [(17, .bipush 36, 0, 0), (19, .iload_n 1, 0, 0), (20, .iadd, 0, 0), (21, .iaload, 0, 0), (22, .istore_n 3, 0, 0), (23, .aload_n 0, 0, 0), (24, .getfield 198, 918, 0), (27, .tableswitch 91 1 5 #[33, 40, 47, 64, 81], 33, 0)], [], [(60, .iload_n 2, 0, 0), (61, .iconst 2, 0, 0), (62, .idiv, 0, 0), (63, .istore_n 2, 0, 0)], [(64, .goto 54, 118, 0), (67, .iconst 2, 0, 0), (68, .iload_n 2, 0, 0), (69, .imul, 0, 0), (70, .istore_n 2, 0, 0), (71, .goto 47, 118, 0), (74, .iload_n 2, 0, 0), (75, .iconst 2, 0, 0), (76, .idiv, 0, 0), (77, .iload_n 3, 0, 0), (78, .ifCond .ne 7, 85, 0)], [(81, .iconst 1, 0, 0), (82, .goto 4, 86, 0), (85, .iconst 0, 0, 0), (86, .iadd, 0, 0), (87, .istore_n 2, 0, 0), (88, .goto 30, 118, 0), (91, .iload_n 3, 0, 0), (92, .bipush 9, 0, 0), (94, .if_icmp .ne 7, 101, 0)], [(97, .iconst 1, 0, 0), (98, .goto 6, 104, 0), (101, .iconst 2, 0, 0), (102, .iload_n 2, 0, 0), (103, .imul, 0, 0), (104, .istore_n 2, 0, 0), (105, .goto 13, 118, 0), (108, .iload_n 2, 0, 0), (109, .aload_n 0, 0, 0), (110, .getfield 185, 919, 0)], [(113, .iadd, 0, 0), (114, .istore_n 2, 0, 0), (115, .goto 3, 118, 0), (118, .iload_n 2, 0, 0), (119, .iconst 1, 0, 0), (120, .bipush 99, 0, 0), (122, .invokestatic 204, 133, 3), (125, .ireturn, 0, 0)]]
def mx_t169 : List (List (List (Nat × mx_I))) := [mx_t169_0]
def mx_t170_0 : List (List (Nat × mx_I)) := [[(0, .aload_n 0, 0, 0), (1, .iconst 1, 0, 0), (2, .iload_n 1, 0, 0), (3, .invokevirtual 201, 166, 1), (6, .iconst 0, 0, 0), (7, .bipush 9, 0, 0), (9, .invokestatic 204, 133, 3), (12, .istore_n 2, 0, 0), (13, .aload_n 0, 0, 0), (14, .getfield 7, 900, 0)], [(17, .bipush 36, 0, 0), (19, .iload_n 1, 0, 0), (20, .iadd, 0, 0), (21, .iaload, 0, 0), (22, .istore_n 3, 0, 0), (23, .iload_n 1, 0, 0), (24, .iconst 2, 0, 0), (25, .irem, 0, 0), (26, .iconst 1, 0, 0), (27, .if_icmp .ne 14, 41, 0), (30, .bipush 9, 0, 0)], [(32, .iload_n 2, 0, 0), (33, .iconst 1, 0, 0), (34, .iadd, 0, 0), (35, .invokestatic 80, 0, 21), (38, .goto 4, 42, 0), (41, .iload_n 2, 0, 0), (42, .istore 4, 0, 0), (44, .aload_n 0, 0, 0), (45, .getfield 198, 918, 0)], [(48, .tableswitch 70 1 5 #[36, 39, 41, 39, 59], 36, 0)], [], [(84, .iload 4, 0, 0), (86, .ireturn, 0, 0), (87, .iload_n 3, 0, 0), (88, .ireturn, 0, 0), (89, .iload_n 1, 0, 0), (90, .bipush 6, 0, 0), (92, .idiv, 0, 0), (93, .aload_n 0, 0, 0), (94, .getfield 185, 919, 0)], [(97, .if_icmp .ne 7, 104, 0), (100, .iconst 0, 0, 0), (101, .goto 5, 106, 0), (104, .iload 4, 0, 0), (106, .ireturn, 0, 0), (107, .iload_n 2, 0, 0), (108, .iload_n 3, 0, 0), (109, .if_icmp .ne 7, 116, 0)], [(112, .iload_n 2, 0, 0), (113, .goto 4, 117, 0), (116, .iconst 0, 0, 0), (117, .ireturn, 0, 0), (118, .iload_n 2, 0, 0), (119, .ireturn, 0, 0)]]
def mx_t170 : List (List (List (Nat × mx_I))) := [mx_t170_0]
def mx_t171_0 : List (List (Nat × mx_I)) := [[(0, .aload_n 0, 0, 0), (1, .iload_n 1, 0, 0), (2, .invokevirtual 207, 168, 1), (5, .aload_n 0, 0, 0), (6, .iload_n 1, 0, 0), (7, .invokevirtual 210, 141, 1), (10, .iload_n 2, 0, 0), (11, .invokestatic 192, 140, 3), (14, .aload_n 0, 0, 0), (15, .iload_n 2, 0, 0)], [(16, .invokevirtual 212, 169, 1), (19, .iadd, 0, 0), (20, .ireturn, 0, 0)]]
def mx_t171 : List (List (List (Nat × mx_I))) := [mx_t171_0]
def mx_t172_0 : List (List (Nat × mx_I)) := [[(0, .aload_n 0, 0, 0), (1, .iload_n 1, 0, 0), (2, .invokevirtual 101, 137, 1), (5, .ifCond .eq 19, 24, 0), (8, .iload_n 2, 0, 0), (9, .invokestatic 97, 138, 3), (12, .ifCond .eq 12, 24, 0), (15, .iload_n 3, 0, 0)], [(16, .iconst 0, 0, 0), (17, .iconst 3, 0, 0), (18, .invokestatic 89, 132, 3), (21, .ifCond .ne 6, 27, 0), (24, .bipush (-2), 0, 0), (26, .ireturn, 0, 0), (27, .aload_n 0, 0, 0), (28, .iload_n 1, 0, 0), (29, .invokevirtual 207, 168, 1)], [(32, .iload_n 3, 0, 0), (33, .ifCond .ne 11, 44, 0), (36, .aload_n 0, 0, 0), (37, .iload_n 2, 0, 0), (38, .invokevirtual 212, 169, 1), (41, .goto 39, 80, 0), (44, .iload_n 3, 0, 0), (45, .iconst 1, 0, 0), (46, .if_icmp .ne 11, 57, 0)], [(49, .aload_n 0, 0, 0), (50, .iload_n 2, 0, 0), (51, .invokevirtual 215, 170, 1), (54, .goto 26, 80, 0), (57, .iload_n 3, 0, 0), (58, .iconst 2, 0, 0), (59, .if_icmp .ne 15, 74, 0), (62, .aload_n 0, 0, 0), (63, .iload_n 1, 0, 0)], [(64, .invokevirtual 210, 141, 1), (67, .iload_n 2, 0, 0), (68, .invokestatic 192, 140, 3), (71, .goto 9, 80, 0), (74, .aload_n 0, 0, 0), (75, .iload_n 1, 0, 0), (76, .iload_n 2, 0, 0), (77, .invokevirtual 218, 171, 1)], [(80, .ireturn, 0, 0)]]
def mx_t172 : List (List (List (Nat × mx_I))) := [mx_t172_0]
def mx_t173_0 : List (List (Nat × mx_I)) := [[(0, .aload_n 0, 0, 0), (1, .aload_n 0, 0, 0), (2, .getfield 7, 900, 0), (5, .bipush 90, 0, 0), (7, .iaload, 0, 0), (8, .putfield 179, 920, 0), (11, .bipush 36, 0, 0), (13, .bipush 6, 0, 0), (15, .iload_n 1, 0, 0)], [(16, .imul, 0, 0), (17, .isub, 0, 0), (18, .istore_n 2, 0, 0), (19, .iload_n 2, 0, 0), (20, .bipush 36, 0, 0), (22, .if_icmp .ge 27, 49, 0), (25, .aload_n 0, 0, 0), (26, .getfield 46, 921, 0), (29, .iload_n 2, 0, 0), (30, .aload_n 0, 0, 0), (31, .iconst 2, 0, 0)], [(32, .iload_n 2, 0, 0), (33, .invokevirtual 201, 166, 1), (36, .iconst 0, 0, 0), (37, .bipush 9, 0, 0), (39, .invokestatic 204, 133, 3), (42, .iastore, 0, 0), (43, .iinc 2 1, 0, 0), (46, .goto (-27), 19, 0)], [(49, .bipush 36, 0, 0), (51, .bipush 6, 0, 0), (53, .iload_n 1, 0, 0), (54, .imul, 0, 0), (55, .isub, 0, 0), (56, .istore_n 2, 0, 0), (57, .iload_n 2, 0, 0), (58, .bipush 36, 0, 0), (60, .if_icmp .ge 21, 81, 0), (63, .aload_n 0, 0, 0)], [(64, .getfield 7, 900, 0), (67, .iload_n 2, 0, 0), (68, .aload_n 0, 0, 0), (69, .getfield 46, 921, 0), (72, .iload_n 2, 0, 0), (73, .iaload, 0, 0), (74, .iastore, 0, 0), (75, .iinc 2 1, 0, 0), (78, .goto (-21), 57, 0)], [(81, .aload_n 0, 0, 0), (82, .getfield 7, 900, 0), (85, .bipush 89, 0, 0), (87, .dup2, 0, 0), (88, .iaload, 0, 0), (89, .iconst 1, 0, 0), (90, .iadd, 0, 0), (91, .iastore, 0, 0), (92, .return_, 0, 0)]]
def mx_t173 : List (List (List (Nat × mx_I))) := [mx_t173_0]
def mx_t174_0 : List (List (Nat × mx_I)) := [[(0, .iconst 0, 0, 0), (1, .istore_n 1, 0, 0), (2, .iconst 0, 0, 0), (3, .istore_n 2, 0, 0), (4, .iload_n 2, 0, 0), (5, .bipush 36, 0, 0), (7, .if_icmp .ge 25, 32, 0), (10, .iload_n 1, 0, 0), (11, .aload_n 0, 0, 0), (12, .iload_n 2, 0, 0), (13, .invokevirtual 195, 139, 1)], [(16, .ifCond .eq 7, 23, 0), (19, .iconst 1, 0, 0), (20, .goto 4, 24, 0), (23, .iconst 0, 0, 0), (24, .iadd, 0, 0), (25, .istore_n 1, 0, 0), (26, .iinc 2 1, 0, 0), (29, .goto (-25), 4, 0)], [(32, .iload_n 1, 0, 0), (33, .ireturn, 0, 0)]]
def mx_t174 : List (List (List (Nat × mx_I))) := [mx_t174_0]
def mx_t175_0 : List (List (Nat × mx_I)) := [[(0, .iload_n 1, 0, 0), (1, .iconst 0, 0, 0), (2, .bipush 6, 0, 0), (4, .invokestatic 89, 132, 3), (7, .ifCond .ne 6, 13, 0), (10, .bipush (-2), 0, 0), (12, .ireturn, 0, 0), (13, .aload_n 0, 0, 0), (14, .getfield 7, 900, 0)], [(17, .bipush 89, 0, 0), (19, .iaload, 0, 0), (20, .sipush 999, 0, 0), (23, .if_icmp .ne 6, 29, 0), (26, .bipush (-3), 0, 0), (28, .ireturn, 0, 0), (29, .aload_n 0, 0, 0), (30, .iload_n 1, 0, 0), (31, .invokevirtual 221, 173, 1)], [(34, .aload_n 0, 0, 0), (35, .invokevirtual 224, 174, 1), (38, .ireturn, 0, 0)]]
def mx_t175 : List (List (List (Nat × mx_I))) := [mx_t175_0]
def mx_t176_0 : List (List (Nat × mx_I)) := [[(0, .aload_n 0, 0, 0), (1, .iload_n 1, 0, 0), (2, .iload_n 2, 0, 0), (3, .invokevirtual 218, 171, 1), (6, .istore_n 3, 0, 0), (7, .aload_n 0, 0, 0), (8, .getfield 7, 900, 0), (11, .iload_n 2, 0, 0), (12, .aload_n 0, 0, 0), (13, .iload_n 2, 0, 0), (14, .invokevirtual 215, 170, 1)], [(17, .iastore, 0, 0), (18, .aload_n 0, 0, 0), (19, .getfield 7, 900, 0), (22, .bipush 72, 0, 0), (24, .iconst 4, 0, 0), (25, .iload_n 1, 0, 0), (26, .imul, 0, 0), (27, .iadd, 0, 0), (28, .iconst 2, 0, 0), (29, .iadd, 0, 0), (30, .iload_n 2, 0, 0), (31, .iastore, 0, 0)], [(32, .aload_n 0, 0, 0), (33, .getfield 7, 900, 0), (36, .bipush 72, 0, 0), (38, .iconst 4, 0, 0), (39, .iload_n 1, 0, 0), (40, .imul, 0, 0), (41, .iadd, 0, 0), (42, .iconst 3, 0, 0), (43, .iadd, 0, 0), (44, .sipush 9999, 0, 0), (47, .aload_n 0, 0, 0)], [(48, .getfield 7, 900, 0), (51, .bipush 72, 0, 0), (53, .iconst 4, 0, 0), (54, .iload_n 1, 0, 0), (55, .imul, 0, 0), (56, .iadd, 0, 0), (57, .iconst 3, 0, 0), (58, .iadd, 0, 0), (59, .iaload, 0, 0), (60, .iconst 1, 0, 0), (61, .iadd, 0, 0), (62, .invokestatic 80, 0, 21)], [(65, .iastore, 0, 0), (66, .iload_n 3, 0, 0), (67, .ireturn, 0, 0)]]
def mx_t176 : List (List (List (Nat × mx_I))) := [mx_t176_0]
def mx_t177_0 : List (List (Nat × mx_I)) := [[(0, .aload_n 0, 0, 0), (1, .iload_n 1, 0, 0), (2, .invokevirtual 101, 137, 1), (5, .ifCond .eq 19, 24, 0), (8, .iload_n 2, 0, 0), (9, .invokestatic 97, 138, 3), (12, .ifCond .eq 12, 24, 0), (15, .aload_n 0, 0, 0)], [(16, .iload_n 1, 0, 0), (17, .iload_n 2, 0, 0), (18, .invokevirtual 227, 176, 1), (21, .goto 5, 26, 0), (24, .bipush (-2), 0, 0), (26, .ireturn, 0, 0)]]
def mx_t177 : List (List (List (Nat × mx_I))) := [mx_t177_0]
def mx_t178_0 : List (List (Nat × mx_I)) := [[(0, .iconst 0, 0, 0), (1, .istore_n 1, 0, 0), (2, .iload_n 1, 0, 0), (3, .bipush 36, 0, 0), (5, .if_icmp .ge 16, 21, 0), (8, .aload_n 0, 0, 0), (9, .getfield 49, 922, 0), (12, .iload_n 1, 0, 0), (13, .iconst 0, 0, 0), (14, .bastore, 0, 0), (15, .iinc 1 1, 0, 0)], [(18, .goto (-16), 2, 0), (21, .return_, 0, 0)]]
def mx_t178 : List (List (List (Nat × mx_I))) := [mx_t178_0]
def mx_t179_0 : List (List (Nat × mx_I)) := [[(0, .aload_n 0, 0, 0), (1, .invokevirtual 230, 178, 1), (4, .aload_n 0, 0, 0), (5, .iconst 0, 0, 0), (6, .putfield 233, 923, 0), (9, .iconst 0, 0, 0), (10, .istore_n 3, 0, 0), (11, .iconst (-1), 0, 0), (12, .istore 4, 0, 0), (14, .bipush 35, 0, 0)], [(16, .istore 5, 0, 0), (18, .iload 5, 0, 0), (20, .ifCond .lt 78, 98, 0), (23, .aload_n 0, 0, 0), (24, .iload 5, 0, 0), (26, .invokevirtual 195, 139, 1), (29, .ifCond .eq 17, 46, 0)], [(32, .aload_n 0, 0, 0), (33, .getfield 49, 922, 0), (36, .iload 5, 0, 0), (38, .baload, 0, 0), (39, .ifCond .ne 7, 46, 0), (42, .iconst 1, 0, 0), (43, .goto 4, 47, 0), (46, .iconst 0, 0, 0), (47, .istore 6, 0, 0)], [(49, .iload 6, 0, 0), (51, .ifCond .eq 37, 88, 0), (54, .iload 4, 0, 0), (56, .iconst (-1), 0, 0), (57, .if_icmp .eq 26, 83, 0), (60, .aload_n 0, 0, 0), (61, .iload_n 1, 0, 0), (62, .invokevirtual 210, 141, 1)], [(65, .iload 5, 0, 0), (67, .invokestatic 192, 140, 3), (70, .aload_n 0, 0, 0), (71, .iload_n 1, 0, 0), (72, .invokevirtual 210, 141, 1), (75, .iload 4, 0, 0), (77, .invokestatic 192, 140, 3)], [(80, .if_icmp .gt 8, 88, 0), (83, .iload 5, 0, 0), (85, .goto 5, 90, 0), (88, .iload 4, 0, 0), (90, .istore 4, 0, 0), (92, .iinc 5 (-1), 0, 0), (95, .goto (-77), 18, 0)], [(98, .iload 4, 0, 0), (100, .iconst (-1), 0, 0), (101, .if_icmp .eq 19, 120, 0), (104, .aload_n 0, 0, 0), (105, .getfield 233, 923, 0), (108, .aload_n 0, 0, 0), (109, .iload_n 1, 0, 0), (110, .iload 4, 0, 0)], [(112, .invokevirtual 218, 171, 1), (115, .iadd, 0, 0), (116, .iload_n 2, 0, 0), (117, .if_icmp .le 5, 122, 0), (120, .iload_n 3, 0, 0), (121, .ireturn, 0, 0), (122, .aload_n 0, 0, 0), (123, .dup, 0, 0), (124, .getfield 233, 923, 0), (127, .aload_n 0, 0, 0)]]
def mx_t179_1 : List (List (Nat × mx_I)) := [[(128, .iload_n 1, 0, 0), (129, .iload 4, 0, 0), (131, .invokevirtual 227, 176, 1), (134, .iadd, 0, 0), (135, .putfield 233, 923, 0), (138, .aload_n 0, 0, 0), (139, .getfield 49, 922, 0), (142, .iload 4, 0, 0)], [(144, .iconst 1, 0, 0), (145, .bastore, 0, 0), (146, .iinc 3 1, 0, 0), (149, .goto (-138), 11, 0)]]
def mx_t179 : List (List (List (Nat × mx_I))) := [mx_t179_0, mx_t179_1]
def mx_t180_0 : List (List (Nat × mx_I)) := [[(0, .aload_n 0, 0, 0), (1, .iload_n 1, 0, 0), (2, .invokevirtual 101, 137, 1), (5, .ifCond .eq 23, 28, 0), (8, .iload_n 2, 0, 0), (9, .iconst 0, 0, 0), (10, .sipush 999, 0, 0), (13, .invokestatic 89, 132, 3)], [(16, .ifCond .eq 12, 28, 0), (19, .aload_n 0, 0, 0), (20, .iload_n 1, 0, 0), (21, .iload_n 2, 0, 0), (22, .invokevirtual 236, 179, 1), (25, .goto 5, 30, 0), (28, .bipush (-2), 0, 0), (30, .ireturn, 0, 0)]]
def mx_t180 : List (List (List (Nat × mx_I))) := [mx_t180_0]
def mx_t181_0 : List (List (Nat × mx_I)) := [[(0, .aload_n 0, 0, 0), (1, .iload_n 1, 0, 0), (2, .invokevirtual 101, 137, 1), (5, .ifCond .eq 23, 28, 0), (8, .iload_n 2, 0, 0), (9, .iconst 0, 0, 0), (10, .sipush 999, 0, 0), (13, .invokestatic 89, 132, 3)], [(16, .ifCond .eq 12, 28, 0), (19, .iload_n 3, 0, 0), (20, .iconst 0, 0, 0), (21, .iconst 3, 0, 0), (22, .invokestatic 89, 132, 3), (25, .ifCond .ne 6, 31, 0), (28, .bipush (-2), 0, 0), (30, .ireturn, 0, 0), (31, .aload_n 0, 0, 0)], [(32, .aload_n 0, 0, 0), (33, .getfield 16, 902, 0), (36, .invokevirtual 239, 134, 1), (39, .aload_n 0, 0, 0), (40, .iload_n 1, 0, 0), (41, .iload_n 2, 0, 0), (42, .invokevirtual 236, 179, 1), (45, .istore 4, 0, 0), (47, .iload_n 3, 0, 0)], [(48, .ifCond .ne 10, 58, 0), (51, .aload_n 0, 0, 0), (52, .getfield 233, 923, 0), (55, .goto 30, 85, 0), (58, .iload_n 3, 0, 0), (59, .iconst 1, 0, 0), (60, .if_icmp .ne 8, 68, 0), (63, .iload 4, 0, 0)], [(65, .goto 20, 85, 0), (68, .iload_n 3, 0, 0), (69, .iconst 2, 0, 0), (70, .if_icmp .ne 10, 80, 0), (73, .aload_n 0, 0, 0), (74, .invokevirtual 224, 174, 1), (77, .goto 8, 85, 0)], [(80, .aload_n 0, 0, 0), (81, .iload_n 1, 0, 0), (82, .invokevirtual 210, 141, 1), (85, .istore 5, 0, 0), (87, .aload_n 0, 0, 0), (88, .aload_n 0, 0, 0), (89, .getfield 16, 902, 0), (92, .invokevirtual 243, 135, 1), (95, .iload 5, 0, 0)], [(97, .ireturn, 0, 0)]]
def mx_t181 : List (List (List (Nat × mx_I))) := [mx_t181_0]
def mx_t182_0 : List (List (Nat × mx_I)) := [[(0, .aload_n 0, 0, 0), (1, .iload_n 1, 0, 0), (2, .invokevirtual 195, 139, 1), (5, .ifCond .eq 9, 14, 0), (8, .lconst 1, 0, 0), (9, .iload_n 1, 0, 0), (10, .lshl, 0, 0), (11, .goto 4, 15, 0), (14, .lconst 0, 0, 0), (15, .lstore_n 2, 0, 0)], [(16, .iconst 1, 0, 0), (17, .istore 4, 0, 0), (19, .iload 4, 0, 0), (21, .ifCond .eq 92, 113, 0), (24, .iconst 0, 0, 0), (25, .istore 4, 0, 0), (27, .iconst 0, 0, 0), (28, .istore 5, 0, 0), (30, .iload 5, 0, 0)], [(32, .sipush 1296, 0, 0), (35, .if_icmp .ge 75, 110, 0), (38, .iload 5, 0, 0), (40, .bipush 36, 0, 0), (42, .idiv, 0, 0), (43, .istore 6, 0, 0), (45, .iload 5, 0, 0), (47, .bipush 36, 0, 0)], [(49, .irem, 0, 0), (50, .istore 7, 0, 0), (52, .lload_n 2, 0, 0), (53, .iload 6, 0, 0), (55, .lshr, 0, 0), (56, .lconst 1, 0, 0), (57, .land, 0, 0), (58, .lconst 1, 0, 0), (59, .lcmp, 0, 0), (60, .ifCond .ne 44, 104, 0), (63, .lload_n 2, 0, 0)], [(64, .iload 7, 0, 0), (66, .lshr, 0, 0), (67, .lconst 1, 0, 0), (68, .land, 0, 0), (69, .lconst 0, 0, 0), (70, .lcmp, 0, 0), (71, .ifCond .ne 33, 104, 0), (74, .iload 6, 0, 0), (76, .iload 7, 0, 0), (78, .invokestatic 192, 140, 3)], [(81, .iconst 1, 0, 0), (82, .if_icmp .ne 22, 104, 0), (85, .aload_n 0, 0, 0), (86, .iload 7, 0, 0), (88, .invokevirtual 195, 139, 1), (91, .ifCond .eq 13, 104, 0), (94, .lload_n 2, 0, 0), (95, .lconst 1, 0, 0)], [(96, .iload 7, 0, 0), (98, .lshl, 0, 0), (99, .lor, 0, 0), (100, .lstore_n 2, 0, 0), (101, .iconst 1, 0, 0), (102, .istore 4, 0, 0), (104, .iinc 5 1, 0, 0), (107, .goto (-77), 30, 0), (110, .goto (-91), 19, 0)], [(113, .lload_n 2, 0, 0), (114, .lreturn, 0, 0)]]
def mx_t182 : List (List (List (Nat × mx_I))) := [mx_t182_0]
def mx_t183_0 : List (List (Nat × mx_I)) := [[(0, .iload_n 1, 0, 0), (1, .bipush 10, 0, 0), (3, .bipush 45, 0, 0), (5, .invokestatic 89, 132, 3), (8, .ifCond .eq 12, 20, 0), (11, .aload_n 0, 0, 0), (12, .iload_n 1, 0, 0), (13, .bipush 10, 0, 0), (15, .isub, 0, 0)], [(16, .invokevirtual 246, 182, 1), (19, .lreturn, 0, 0), (20, .iload_n 1, 0, 0), (21, .ifCond .eq 18, 39, 0), (24, .aload_n 0, 0, 0), (25, .iload_n 1, 0, 0), (26, .bipush 50, 0, 0), (28, .isub, 0, 0), (29, .invokevirtual 101, 137, 1)], [(32, .ifCond .ne 7, 39, 0), (35, .ldc2_w 250, 0, (-4611686018427387904)), (38, .lreturn, 0, 0), (39, .iload_n 1, 0, 0), (40, .ifCond .eq 11, 51, 0), (43, .aload_n 0, 0, 0), (44, .iload_n 1, 0, 0), (45, .bipush 50, 0, 0), (47, .isub, 0, 0)], [(48, .invokevirtual 207, 168, 1), (51, .lconst 0, 0, 0), (52, .lstore_n 2, 0, 0), (53, .iconst 0, 0, 0), (54, .istore 4, 0, 0), (56, .iload 4, 0, 0), (58, .bipush 36, 0, 0), (60, .if_icmp .ge 55, 115, 0), (63, .lload_n 2, 0, 0)], [(64, .iload_n 1, 0, 0), (65, .ifCond .ne 15, 80, 0), (68, .aload_n 0, 0, 0), (69, .iload 4, 0, 0), (71, .invokevirtual 195, 139, 1), (74, .ifCond .eq 32, 106, 0), (77, .goto 22, 99, 0)], [(80, .aload_n 0, 0, 0), (81, .iload 4, 0, 0), (83, .invokevirtual 215, 170, 1), (86, .aload_n 0, 0, 0), (87, .getfield 7, 900, 0), (90, .bipush 36, 0, 0), (92, .iload 4, 0, 0), (94, .iadd, 0, 0), (95, .iaload, 0, 0)], [(96, .if_icmp .ne 10, 106, 0), (99, .lconst 1, 0, 0), (100, .iload 4, 0, 0), (102, .lshl, 0, 0), (103, .goto 4, 107, 0), (106, .lconst 0, 0, 0), (107, .lor, 0, 0), (108, .lstore_n 2, 0, 0), (109, .iinc 4 1, 0, 0)], [(112, .goto (-56), 56, 0), (115, .lload_n 2, 0, 0), (116, .lreturn, 0, 0)]]
def mx_t183 : List (List (List (Nat × mx_I))) := [mx_t183_0]
def mx_t184_0 : List (List (Nat × mx_I)) := [[(0, .iconst (-1), 0, 0), (1, .istore_n 2, 0, 0), (2, .iconst (-1), 0, 0), (3, .istore_n 3, 0, 0), (4, .iconst 0, 0, 0), (5, .istore 4, 0, 0), (7, .iload 4, 0, 0), (9, .bipush 7, 0, 0), (11, .if_icmp .ge 37, 48, 0), (14, .aload_n 0, 0, 0), (15, .iload 4, 0, 0)], [(17, .invokevirtual 252, 185, 1), (20, .istore 5, 0, 0), (22, .iload 5, 0, 0), (24, .iload_n 3, 0, 0), (25, .if_icmp .le 8, 33, 0), (28, .iload 4, 0, 0), (30, .goto 4, 34, 0)], [(33, .iload_n 2, 0, 0), (34, .istore_n 2, 0, 0), (35, .iload 5, 0, 0), (37, .iload_n 3, 0, 0), (38, .invokestatic 86, 0, 20), (41, .istore_n 3, 0, 0), (42, .iinc 4 1, 0, 0), (45, .goto (-38), 7, 0)], [(48, .iload_n 1, 0, 0), (49, .iconst 3, 0, 0), (50, .if_icmp .ne 7, 57, 0), (53, .iload_n 2, 0, 0), (54, .goto 4, 58, 0), (57, .iload_n 3, 0, 0), (58, .ireturn, 0, 0)]]
def mx_t184 : List (List (List (Nat × mx_I))) := [mx_t184_0]
def mx_t185_0 : List (List (Nat × mx_I)) := [[(0, .aload_n 0, 0, 0), (1, .aload_n 0, 0, 0), (2, .getfield 16, 902, 0), (5, .invokevirtual 239, 134, 1), (8, .aload_n 0, 0, 0), (9, .iload_n 1, 0, 0), (10, .invokevirtual 221, 173, 1), (13, .aload_n 0, 0, 0), (14, .invokevirtual 224, 174, 1)], [(17, .istore_n 2, 0, 0), (18, .aload_n 0, 0, 0), (19, .aload_n 0, 0, 0), (20, .getfield 16, 902, 0), (23, .invokevirtual 243, 135, 1), (26, .iload_n 2, 0, 0), (27, .ireturn, 0, 0)]]
def mx_t185 : List (List (List (Nat × mx_I))) := [mx_t185_0]
def mx_t186_0 : List (List (Nat × mx_I)) := [[(0, .iload_n 1, 0, 0), (1, .iconst 0, 0, 0), (2, .iconst 5, 0, 0), (3, .invokestatic 89, 132, 3), (6, .ifCond .ne 6, 12, 0), (9, .bipush (-2), 0, 0), (11, .ireturn, 0, 0), (12, .iload_n 1, 0, 0), (13, .ifCond .eq 13, 26, 0)], [(16, .iload_n 1, 0, 0), (17, .iconst 3, 0, 0), (18, .if_icmp .eq 8, 26, 0), (21, .iload_n 1, 0, 0), (22, .iconst 4, 0, 0), (23, .if_icmp .ne 20, 43, 0), (26, .iload_n 1, 0, 0), (27, .ifCond .ne 10, 37, 0), (30, .aload_n 0, 0, 0), (31, .invokevirtual 224, 174, 1)], [(34, .goto 8, 42, 0), (37, .aload_n 0, 0, 0), (38, .iload_n 1, 0, 0), (39, .invokevirtual 255, 184, 1), (42, .ireturn, 0, 0), (43, .lconst 0, 0, 0), (44, .lstore_n 2, 0, 0), (45, .iconst 0, 0, 0), (46, .istore 4, 0, 0)], [(48, .iconst 0, 0, 0), (49, .istore 5, 0, 0), (51, .iconst (-1), 0, 0), (52, .istore 6, 0, 0), (54, .iconst 0, 0, 0), (55, .istore 7, 0, 0), (57, .iload 7, 0, 0), (59, .bipush 36, 0, 0), (61, .if_icmp .ge 72, 133, 0)], [(64, .aload_n 0, 0, 0), (65, .iload 7, 0, 0), (67, .invokevirtual 195, 139, 1), (70, .ifCond .eq 57, 127, 0), (73, .lload_n 2, 0, 0), (74, .iload 7, 0, 0), (76, .lshr, 0, 0), (77, .lconst 1, 0, 0), (78, .land, 0, 0), (79, .lconst 0, 0, 0)], [(80, .lcmp, 0, 0), (81, .ifCond .ne 46, 127, 0), (84, .aload_n 0, 0, 0), (85, .iload 7, 0, 0), (87, .invokevirtual 246, 182, 1), (90, .lstore 8, 0, 0), (92, .iload 6, 0, 0), (94, .iconst (-1), 0, 0), (95, .if_icmp .ne 8, 103, 0)], [(98, .iload 7, 0, 0), (100, .goto 5, 105, 0), (103, .iload 6, 0, 0), (105, .istore 6, 0, 0), (107, .lload_n 2, 0, 0), (108, .lload 8, 0, 0), (110, .lor, 0, 0), (111, .lstore_n 2, 0, 0)], [(112, .iinc 4 1, 0, 0), (115, .lload 8, 0, 0), (117, .invokestatic 258, 213, 3), (120, .iload 5, 0, 0), (122, .invokestatic 86, 0, 20), (125, .istore 5, 0, 0), (127, .iinc 7 1, 0, 0)]]
def mx_t186_1 : List (List (Nat × mx_I)) := [[(130, .goto (-73), 57, 0), (133, .iload_n 1, 0, 0), (134, .iconst 1, 0, 0), (135, .if_icmp .ne 8, 143, 0), (138, .iload 4, 0, 0), (140, .goto 15, 155, 0), (143, .iload_n 1, 0, 0)], [(144, .iconst 2, 0, 0), (145, .if_icmp .ne 8, 153, 0), (148, .iload 5, 0, 0), (150, .goto 5, 155, 0), (153, .iload 6, 0, 0), (155, .ireturn, 0, 0)]]
def mx_t186 : List (List (List (Nat × mx_I))) := [mx_t186_0, mx_t186_1]
def mx_t187_0 : List (List (Nat × mx_I)) := [[(0, .iload_n 1, 0, 0), (1, .invokestatic 264, 196, 3), (4, .ifCond .eq 11, 15, 0), (7, .aload_n 0, 0, 0), (8, .iload_n 2, 0, 0), (9, .invokevirtual 101, 137, 1), (12, .ifCond .ne 6, 18, 0), (15, .bipush (-2), 0, 0)], [(17, .ireturn, 0, 0), (18, .aload_n 0, 0, 0), (19, .getfield 65, 931, 0), (22, .iload_n 1, 0, 0), (23, .iaload, 0, 0), (24, .iconst (-1), 0, 0), (25, .if_icmp .ne 6, 31, 0), (28, .bipush (-11), 0, 0), (30, .ireturn, 0, 0), (31, .aload_n 0, 0, 0)], [(32, .invokevirtual 230, 178, 1), (35, .iconst 0, 0, 0), (36, .istore_n 3, 0, 0), (37, .iload_n 3, 0, 0), (38, .aload_n 0, 0, 0), (39, .getfield 68, 932, 0), (42, .iload_n 1, 0, 0), (43, .iaload, 0, 0), (44, .if_icmp .ge 51, 95, 0), (47, .aload_n 0, 0, 0)], [(48, .getfield 71, 933, 0), (51, .bipush 40, 0, 0), (53, .iload_n 1, 0, 0), (54, .imul, 0, 0), (55, .iload_n 3, 0, 0), (56, .iadd, 0, 0), (57, .iaload, 0, 0), (58, .istore 4, 0, 0), (60, .iload 4, 0, 0), (62, .invokestatic 97, 138, 3)], [(65, .ifCond .eq 13, 78, 0), (68, .aload_n 0, 0, 0), (69, .getfield 49, 922, 0), (72, .iload 4, 0, 0), (74, .baload, 0, 0), (75, .ifCond .eq 6, 81, 0), (78, .bipush (-2), 0, 0)], [(80, .ireturn, 0, 0), (81, .aload_n 0, 0, 0), (82, .getfield 49, 922, 0), (85, .iload 4, 0, 0), (87, .iconst 1, 0, 0), (88, .bastore, 0, 0), (89, .iinc 3 1, 0, 0), (92, .goto (-55), 37, 0), (95, .aload_n 0, 0, 0)], [(96, .aload_n 0, 0, 0), (97, .getfield 16, 902, 0), (100, .invokevirtual 239, 134, 1), (103, .iconst 0, 0, 0), (104, .istore_n 3, 0, 0), (105, .iconst 0, 0, 0), (106, .istore 4, 0, 0), (108, .iload 4, 0, 0), (110, .aload_n 0, 0, 0), (111, .getfield 68, 932, 0)], [(114, .iload_n 1, 0, 0), (115, .iaload, 0, 0), (116, .if_icmp .ge 29, 145, 0), (119, .iload_n 3, 0, 0), (120, .aload_n 0, 0, 0), (121, .iload_n 2, 0, 0), (122, .aload_n 0, 0, 0), (123, .getfield 71, 933, 0), (126, .bipush 40, 0, 0)]]
def mx_t187_1 : List (List (Nat × mx_I)) := [[(128, .iload_n 1, 0, 0), (129, .imul, 0, 0), (130, .iload 4, 0, 0), (132, .iadd, 0, 0), (133, .iaload, 0, 0), (134, .invokevirtual 227, 176, 1), (137, .iadd, 0, 0), (138, .istore_n 3, 0, 0), (139, .iinc 4 1, 0, 0), (142, .goto (-34), 108, 0)], [(145, .aload_n 0, 0, 0), (146, .aload_n 0, 0, 0), (147, .getfield 16, 902, 0), (150, .invokevirtual 243, 135, 1), (153, .iload_n 3, 0, 0), (154, .ireturn, 0, 0)]]
def mx_t187 : List (List (List (Nat × mx_I))) := [mx_t187_0, mx_t187_1]
def mx_t188_0 : List (List (Nat × mx_I)) := [[(0, .aload_n 0, 0, 0), (1, .iconst 0, 0, 0), (2, .putfield 267, 926, 0), (5, .iconst 0, 0, 0), (6, .istore_n 1, 0, 0), (7, .iload_n 1, 0, 0), (8, .bipush 36, 0, 0), (10, .if_icmp .ge 48, 58, 0), (13, .aload_n 0, 0, 0), (14, .iload_n 1, 0, 0), (15, .invokevirtual 195, 139, 1)], [(18, .ifCond .eq 34, 52, 0), (21, .aload_n 0, 0, 0), (22, .getfield 267, 926, 0), (25, .bipush 7, 0, 0), (27, .if_icmp .ne 5, 32, 0), (30, .iconst 1, 0, 0), (31, .ireturn, 0, 0)], [(32, .aload_n 0, 0, 0), (33, .getfield 53, 924, 0), (36, .aload_n 0, 0, 0), (37, .getfield 267, 926, 0), (40, .iload_n 1, 0, 0), (41, .iastore, 0, 0), (42, .aload_n 0, 0, 0), (43, .dup, 0, 0), (44, .getfield 267, 926, 0), (47, .iconst 1, 0, 0)], [(48, .iadd, 0, 0), (49, .putfield 267, 926, 0), (52, .iinc 1 1, 0, 0), (55, .goto (-48), 7, 0), (58, .iconst 0, 0, 0), (59, .ireturn, 0, 0)]]
def mx_t188 : List (List (List (Nat × mx_I))) := [mx_t188_0]
def mx_t189_0 : List (List (Nat × mx_I)) := [[(0, .iload_n 1, 0, 0), (1, .ifCond .ne 23, 24, 0), (4, .iload_n 3, 0, 0), (5, .aload_n 0, 0, 0), (6, .getfield 270, 927, 0), (9, .if_icmp .ge 14, 23, 0), (12, .aload_n 0, 0, 0), (13, .iload_n 3, 0, 0), (14, .putfield 270, 927, 0)], [(17, .aload_n 0, 0, 0), (18, .iload 4, 0, 0), (20, .putfield 273, 928, 0), (23, .return_, 0, 0), (24, .iconst 0, 0, 0), (25, .istore 5, 0, 0), (27, .iload 5, 0, 0), (29, .aload_n 0, 0, 0), (30, .getfield 267, 926, 0)], [(33, .if_icmp .ge 75, 108, 0), (36, .iload_n 1, 0, 0), (37, .iload 5, 0, 0), (39, .ishr, 0, 0), (40, .iconst 1, 0, 0), (41, .iand, 0, 0), (42, .iconst 1, 0, 0), (43, .if_icmp .ne 59, 102, 0), (46, .aload_n 0, 0, 0), (47, .iload_n 1, 0, 0)], [(48, .iconst 1, 0, 0), (49, .iload 5, 0, 0), (51, .ishl, 0, 0), (52, .isub, 0, 0), (53, .aload_n 0, 0, 0), (54, .getfield 53, 924, 0), (57, .iload 5, 0, 0), (59, .iaload, 0, 0), (60, .iload_n 3, 0, 0), (61, .iload_n 2, 0, 0), (62, .aload_n 0, 0, 0), (63, .getfield 53, 924, 0)], [(66, .iload 5, 0, 0), (68, .iaload, 0, 0), (69, .invokestatic 192, 140, 3), (72, .iadd, 0, 0), (73, .aload_n 0, 0, 0), (74, .getfield 56, 925, 0), (77, .iload 5, 0, 0), (79, .iaload, 0, 0)], [(80, .iadd, 0, 0), (81, .iload 4, 0, 0), (83, .iconst (-1), 0, 0), (84, .if_icmp .ne 13, 97, 0), (87, .aload_n 0, 0, 0), (88, .getfield 53, 924, 0), (91, .iload 5, 0, 0), (93, .iaload, 0, 0), (94, .goto 5, 99, 0)], [(97, .iload 4, 0, 0), (99, .invokevirtual 276, 189, 1), (102, .iinc 5 1, 0, 0), (105, .goto (-78), 27, 0), (108, .return_, 0, 0)]]
def mx_t189 : List (List (List (Nat × mx_I))) := [mx_t189_0]
def mx_t190_0 : List (List (Nat × mx_I)) := [[(0, .aload_n 0, 0, 0), (1, .iload_n 1, 0, 0), (2, .invokevirtual 101, 137, 1), (5, .ifCond .eq 12, 17, 0), (8, .iload_n 2, 0, 0), (9, .iconst 0, 0, 0), (10, .iconst 1, 0, 0), (11, .invokestatic 89, 132, 3), (14, .ifCond .ne 6, 20, 0)], [(17, .bipush (-2), 0, 0), (19, .ireturn, 0, 0), (20, .aload_n 0, 0, 0), (21, .invokevirtual 280, 188, 1), (24, .ifCond .eq 6, 30, 0), (27, .bipush (-3), 0, 0), (29, .ireturn, 0, 0), (30, .aload_n 0, 0, 0), (31, .iload_n 1, 0, 0)], [(32, .invokevirtual 207, 168, 1), (35, .iconst 0, 0, 0), (36, .istore_n 3, 0, 0), (37, .iload_n 3, 0, 0), (38, .aload_n 0, 0, 0), (39, .getfield 267, 926, 0), (42, .if_icmp .ge 25, 67, 0), (45, .aload_n 0, 0, 0), (46, .getfield 56, 925, 0)], [(49, .iload_n 3, 0, 0), (50, .aload_n 0, 0, 0), (51, .aload_n 0, 0, 0), (52, .getfield 53, 924, 0), (55, .iload_n 3, 0, 0), (56, .iaload, 0, 0), (57, .invokevirtual 212, 169, 1), (60, .iastore, 0, 0), (61, .iinc 3 1, 0, 0)], [(64, .goto (-27), 37, 0), (67, .aload_n 0, 0, 0), (68, .ldc_w 285, 0, 2147483647), (71, .putfield 270, 927, 0), (74, .aload_n 0, 0, 0), (75, .iconst (-1), 0, 0), (76, .putfield 273, 928, 0), (79, .aload_n 0, 0, 0)], [(80, .iconst 1, 0, 0), (81, .aload_n 0, 0, 0), (82, .getfield 267, 926, 0), (85, .ishl, 0, 0), (86, .iconst 1, 0, 0), (87, .isub, 0, 0), (88, .aload_n 0, 0, 0), (89, .iload_n 1, 0, 0), (90, .invokevirtual 210, 141, 1), (93, .iconst 0, 0, 0), (94, .iconst (-1), 0, 0), (95, .invokevirtual 276, 189, 1)], [(98, .iload_n 2, 0, 0), (99, .ifCond .ne 10, 109, 0), (102, .aload_n 0, 0, 0), (103, .getfield 270, 927, 0), (106, .goto 7, 113, 0), (109, .aload_n 0, 0, 0), (110, .getfield 273, 928, 0)], [(113, .ireturn, 0, 0)]]
def mx_t190 : List (List (List (Nat × mx_I))) := [mx_t190_0]
def mx_t191_0 : List (List (Nat × mx_I)) := [[(0, .iload_n 1, 0, 0), (1, .aload_n 0, 0, 0), (2, .invokevirtual 107, 136, 1), (5, .if_icmp .ne 52, 57, 0), (8, .iload_n 3, 0, 0), (9, .ifCond .ne 47, 56, 0), (12, .iload 4, 0, 0), (14, .aload_n 0, 0, 0), (15, .getfield 270, 927, 0)], [(18, .if_icmp .ge 38, 56, 0), (21, .aload_n 0, 0, 0), (22, .iload 4, 0, 0), (24, .putfield 270, 927, 0), (27, .iconst 0, 0, 0), (28, .istore 5, 0, 0), (30, .iload 5, 0, 0)], [(32, .iload_n 1, 0, 0), (33, .if_icmp .ge 23, 56, 0), (36, .aload_n 0, 0, 0), (37, .getfield 62, 930, 0), (40, .iload 5, 0, 0), (42, .aload_n 0, 0, 0), (43, .getfield 59, 929, 0), (46, .iload 5, 0, 0)], [(48, .iaload, 0, 0), (49, .iastore, 0, 0), (50, .iinc 5 1, 0, 0), (53, .goto (-23), 30, 0), (56, .return_, 0, 0), (57, .iconst 0, 0, 0), (58, .istore 5, 0, 0), (60, .iload 5, 0, 0), (62, .aload_n 0, 0, 0), (63, .getfield 267, 926, 0)], [(66, .if_icmp .ge 67, 133, 0), (69, .iload_n 3, 0, 0), (70, .ifCond .le 63, 133, 0), (73, .iload_n 2, 0, 0), (74, .iload 5, 0, 0), (76, .ishr, 0, 0), (77, .iconst 1, 0, 0), (78, .iand, 0, 0), (79, .iconst 1, 0, 0)], [(80, .if_icmp .ne 47, 127, 0), (83, .aload_n 0, 0, 0), (84, .getfield 59, 929, 0), (87, .iload_n 1, 0, 0), (88, .aload_n 0, 0, 0), (89, .getfield 53, 924, 0), (92, .iload 5, 0, 0), (94, .iaload, 0, 0), (95, .iastore, 0, 0)], [(96, .aload_n 0, 0, 0), (97, .iload_n 1, 0, 0), (98, .iconst 1, 0, 0), (99, .iadd, 0, 0), (100, .iload_n 2, 0, 0), (101, .iconst 1, 0, 0), (102, .iload 5, 0, 0), (104, .ishl, 0, 0), (105, .isub, 0, 0), (106, .iload_n 3, 0, 0), (107, .iconst 1, 0, 0), (108, .isub, 0, 0), (109, .iload 4, 0, 0), (111, .aload_n 0, 0, 0)], [(112, .getfield 56, 925, 0), (115, .bipush 7, 0, 0), (117, .iload_n 1, 0, 0), (118, .imul, 0, 0), (119, .iload 5, 0, 0), (121, .iadd, 0, 0), (122, .iaload, 0, 0), (123, .iadd, 0, 0), (124, .invokevirtual 286, 191, 1), (127, .iinc 5 1, 0, 0)]]
def mx_t191_1 : List (List (Nat × mx_I)) := [[(130, .goto (-70), 60, 0), (133, .aload_n 0, 0, 0), (134, .getfield 59, 929, 0), (137, .iload_n 1, 0, 0), (138, .iconst (-1), 0, 0), (139, .iastore, 0, 0), (140, .aload_n 0, 0, 0), (141, .iload_n 1, 0, 0), (142, .iconst 1, 0, 0), (143, .iadd, 0, 0)], [(144, .iload_n 2, 0, 0), (145, .iload_n 3, 0, 0), (146, .iload 4, 0, 0), (148, .invokevirtual 286, 191, 1), (151, .return_, 0, 0)]]
def mx_t191 : List (List (List (Nat × mx_I))) := [mx_t191_0, mx_t191_1]
def mx_t192_0 : List (List (Nat × mx_I)) := [[(0, .iload_n 1, 0, 0), (1, .ifCond .eq 17, 18, 0), (4, .aload_n 0, 0, 0), (5, .iload_n 1, 0, 0), (6, .bipush 10, 0, 0), (8, .isub, 0, 0), (9, .invokevirtual 101, 137, 1), (12, .ifCond .ne 6, 18, 0), (15, .bipush (-2), 0, 0)], [(17, .ireturn, 0, 0), (18, .aload_n 0, 0, 0), (19, .invokevirtual 280, 188, 1), (22, .ifCond .eq 6, 28, 0), (25, .bipush (-3), 0, 0), (27, .ireturn, 0, 0), (28, .iconst 0, 0, 0), (29, .istore_n 2, 0, 0), (30, .iload_n 2, 0, 0), (31, .aload_n 0, 0, 0)], [(32, .invokevirtual 107, 136, 1), (35, .if_icmp .ge 47, 82, 0), (38, .iconst 0, 0, 0), (39, .istore_n 3, 0, 0), (40, .iload_n 3, 0, 0), (41, .aload_n 0, 0, 0), (42, .getfield 267, 926, 0), (45, .if_icmp .ge 31, 76, 0)], [(48, .aload_n 0, 0, 0), (49, .getfield 56, 925, 0), (52, .bipush 7, 0, 0), (54, .iload_n 2, 0, 0), (55, .imul, 0, 0), (56, .iload_n 3, 0, 0), (57, .iadd, 0, 0), (58, .aload_n 0, 0, 0), (59, .iload_n 2, 0, 0), (60, .aload_n 0, 0, 0), (61, .getfield 53, 924, 0)], [(64, .iload_n 3, 0, 0), (65, .iaload, 0, 0), (66, .invokevirtual 218, 171, 1), (69, .iastore, 0, 0), (70, .iinc 3 1, 0, 0), (73, .goto (-33), 40, 0), (76, .iinc 2 1, 0, 0), (79, .goto (-49), 30, 0)], [(82, .aload_n 0, 0, 0), (83, .ldc_w 285, 0, 2147483647), (86, .putfield 270, 927, 0), (89, .aload_n 0, 0, 0), (90, .iconst 0, 0, 0), (91, .iconst 1, 0, 0), (92, .aload_n 0, 0, 0), (93, .getfield 267, 926, 0)], [(96, .ishl, 0, 0), (97, .iconst 1, 0, 0), (98, .isub, 0, 0), (99, .aload_n 0, 0, 0), (100, .invokevirtual 107, 136, 1), (103, .aload_n 0, 0, 0), (104, .getfield 267, 926, 0), (107, .invokestatic 80, 0, 21), (110, .iconst 0, 0, 0), (111, .invokevirtual 286, 191, 1)], [(114, .iload_n 1, 0, 0), (115, .ifCond .ne 10, 125, 0), (118, .aload_n 0, 0, 0), (119, .getfield 270, 927, 0), (122, .goto 12, 134, 0), (125, .aload_n 0, 0, 0), (126, .getfield 62, 930, 0)]]
def mx_t192_1 : List (List (Nat × mx_I)) := [[(129, .iload_n 1, 0, 0), (130, .bipush 10, 0, 0), (132, .isub, 0, 0), (133, .iaload, 0, 0), (134, .ireturn, 0, 0)]]
def mx_t192 : List (List (List (Nat × mx_I))) := [mx_t192_0, mx_t192_1]
def mx_t193_0 : List (List (Nat × mx_I)) := [[(0, .iload_n 1, 0, 0), (1, .invokestatic 97, 138, 3), (4, .ifCond .eq 12, 16, 0), (7, .iload_n 2, 0, 0), (8, .iconst 0, 0, 0), (9, .iconst 1, 0, 0), (10, .invokestatic 89, 132, 3), (13, .ifCond .ne 6, 19, 0)], [(16, .bipush (-2), 0, 0), (18, .ireturn, 0, 0), (19, .iconst (-1), 0, 0), (20, .istore_n 3, 0, 0), (21, .iconst (-1), 0, 0), (22, .istore 4, 0, 0), (24, .iconst 0, 0, 0), (25, .istore 5, 0, 0), (27, .iload 5, 0, 0), (29, .aload_n 0, 0, 0), (30, .invokevirtual 107, 136, 1)], [(33, .if_icmp .ge 37, 70, 0), (36, .aload_n 0, 0, 0), (37, .iload 5, 0, 0), (39, .iload_n 1, 0, 0), (40, .invokevirtual 218, 171, 1), (43, .istore 6, 0, 0), (45, .iload_n 3, 0, 0), (46, .iconst (-1), 0, 0), (47, .if_icmp .eq 10, 57, 0)], [(50, .iload 6, 0, 0), (52, .iload 4, 0, 0), (54, .if_icmp .ge 10, 64, 0), (57, .iload 5, 0, 0), (59, .istore_n 3, 0, 0), (60, .iload 6, 0, 0), (62, .istore 4, 0, 0)], [(64, .iinc 5 1, 0, 0), (67, .goto (-40), 27, 0), (70, .iload_n 2, 0, 0), (71, .ifCond .ne 7, 78, 0), (74, .iload_n 3, 0, 0), (75, .goto 5, 80, 0), (78, .iload 4, 0, 0)], [(80, .ireturn, 0, 0)]]
def mx_t193 : List (List (List (Nat × mx_I))) := [mx_t193_0]
def mx_t194_0 : List (List (Nat × mx_I)) := [[(0, .lload_n 2, 0, 0), (1, .lconst 0, 0, 0), (2, .lcmp, 0, 0), (3, .ifCond .ne 7, 10, 0), (6, .lload_n 0, 0, 0), (7, .goto 10, 17, 0), (10, .lload_n 2, 0, 0), (11, .lload_n 0, 0, 0), (12, .lload_n 2, 0, 0), (13, .lrem, 0, 0), (14, .invokestatic 289, 194, 3)], [(17, .lreturn, 0, 0)]]
def mx_t194 : List (List (List (Nat × mx_I))) := [mx_t194_0]
def mx_t195_0 : List (List (Nat × mx_I)) := [[(0, .aload_n 0, 0, 0), (1, .invokevirtual 224, 174, 1), (4, .istore_n 3, 0, 0), (5, .iload_n 1, 0, 0), (6, .iconst 0, 0, 0), (7, .iconst 5, 0, 0), (8, .invokestatic 89, 132, 3), (11, .ifCond .eq 16, 27, 0), (14, .iload_n 2, 0, 0), (15, .iconst 0, 0, 0)], [(16, .iconst 1, 0, 0), (17, .invokestatic 89, 132, 3), (20, .ifCond .eq 7, 27, 0), (23, .iload_n 3, 0, 0), (24, .ifCond .ne 7, 31, 0), (27, .ldc2_w 250, 0, (-4611686018427387904)), (30, .lreturn, 0, 0), (31, .iconst 0, 0, 0)], [(32, .istore 4, 0, 0), (34, .iconst 0, 0, 0), (35, .istore 5, 0, 0), (37, .iload 5, 0, 0), (39, .bipush 6, 0, 0), (41, .if_icmp .ge 33, 74, 0), (44, .iload 4, 0, 0), (46, .aload_n 0, 0, 0), (47, .bipush 6, 0, 0)], [(49, .iload_n 1, 0, 0), (50, .imul, 0, 0), (51, .iload 5, 0, 0), (53, .iadd, 0, 0), (54, .invokevirtual 195, 139, 1), (57, .ifCond .eq 7, 64, 0), (60, .iconst 1, 0, 0), (61, .goto 4, 65, 0)], [(64, .iconst 0, 0, 0), (65, .iadd, 0, 0), (66, .istore 4, 0, 0), (68, .iinc 5 1, 0, 0), (71, .goto (-34), 37, 0), (74, .iload_n 3, 0, 0), (75, .i2l, 0, 0), (76, .iload 4, 0, 0), (78, .i2l, 0, 0), (79, .invokestatic 289, 194, 3)], [(82, .lstore 5, 0, 0), (84, .iload_n 2, 0, 0), (85, .ifCond .ne 12, 97, 0), (88, .iload 4, 0, 0), (90, .i2l, 0, 0), (91, .lload 5, 0, 0), (93, .ldiv, 0, 0), (94, .goto 8, 102, 0)], [(97, .iload_n 3, 0, 0), (98, .i2l, 0, 0), (99, .lload 5, 0, 0), (101, .ldiv, 0, 0), (102, .lreturn, 0, 0)]]
def mx_t195 : List (List (List (Nat × mx_I))) := [mx_t195_0]
def mx_t196_0 : List (List (Nat × mx_I)) := [[(0, .iload_n 0, 0, 0), (1, .iconst 0, 0, 0), (2, .iconst 3, 0, 0), (3, .invokestatic 89, 132, 3), (6, .ireturn, 0, 0)]]
def mx_t196 : List (List (List (Nat × mx_I))) := [mx_t196_0]
def mx_t197_0 : List (List (Nat × mx_I)) := [[(0, .iload_n 1, 0, 0), (1, .invokestatic 264, 196, 3), (4, .ifCond .eq 23, 27, 0), (7, .iload_n 2, 0, 0), (8, .iconst (-1), 0, 0), (9, .iconst 2, 0, 0), (10, .invokestatic 89, 132, 3), (13, .ifCond .eq 14, 27, 0)], [(16, .iload_n 2, 0, 0), (17, .iconst (-1), 0, 0), (18, .if_icmp .eq 12, 30, 0), (21, .iload_n 3, 0, 0), (22, .bipush 40, 0, 0), (24, .if_icmp .le 6, 30, 0), (27, .bipush (-2), 0, 0), (29, .ireturn, 0, 0), (30, .iload_n 2, 0, 0), (31, .iconst (-1), 0, 0)], [(32, .if_icmp .eq 10, 42, 0), (35, .iload_n 3, 0, 0), (36, .ifCond .ge 6, 42, 0), (39, .bipush (-14), 0, 0), (41, .ireturn, 0, 0), (42, .aload_n 0, 0, 0), (43, .getfield 65, 931, 0), (46, .iload_n 1, 0, 0), (47, .iload_n 2, 0, 0)], [(48, .iastore, 0, 0), (49, .aload_n 0, 0, 0), (50, .getfield 68, 932, 0), (53, .iload_n 1, 0, 0), (54, .iload_n 2, 0, 0), (55, .iconst (-1), 0, 0), (56, .if_icmp .ne 7, 63, 0), (59, .iconst 0, 0, 0), (60, .goto 4, 64, 0), (63, .iload_n 3, 0, 0)], [(64, .iastore, 0, 0), (65, .iconst 0, 0, 0), (66, .istore 4, 0, 0), (68, .iload 4, 0, 0), (70, .bipush 40, 0, 0), (72, .if_icmp .ge 22, 94, 0), (75, .aload_n 0, 0, 0), (76, .getfield 71, 933, 0), (79, .bipush 40, 0, 0)], [(81, .iload_n 1, 0, 0), (82, .imul, 0, 0), (83, .iload 4, 0, 0), (85, .iadd, 0, 0), (86, .iconst 0, 0, 0), (87, .iastore, 0, 0), (88, .iinc 4 1, 0, 0), (91, .goto (-23), 68, 0), (94, .iconst 1, 0, 0), (95, .ireturn, 0, 0)]]
def mx_t197 : List (List (List (Nat × mx_I))) := [mx_t197_0]
def mx_t198_0 : List (List (Nat × mx_I)) := [[(0, .iload_n 1, 0, 0), (1, .invokestatic 264, 196, 3), (4, .ifCond .ne 6, 10, 0), (7, .bipush (-2), 0, 0), (9, .ireturn, 0, 0), (10, .aload_n 0, 0, 0), (11, .getfield 65, 931, 0), (14, .iload_n 1, 0, 0), (15, .iaload, 0, 0)], [(16, .iconst (-1), 0, 0), (17, .if_icmp .ne 6, 23, 0), (20, .bipush (-11), 0, 0), (22, .ireturn, 0, 0), (23, .iload_n 2, 0, 0), (24, .iconst 0, 0, 0), (25, .aload_n 0, 0, 0), (26, .getfield 68, 932, 0), (29, .iload_n 1, 0, 0), (30, .iaload, 0, 0), (31, .iconst 1, 0, 0)], [(32, .isub, 0, 0), (33, .invokestatic 89, 132, 3), (36, .ifCond .ne 6, 42, 0), (39, .bipush (-12), 0, 0), (41, .ireturn, 0, 0), (42, .aload_n 0, 0, 0), (43, .getfield 71, 933, 0), (46, .bipush 40, 0, 0)], [(48, .iload_n 1, 0, 0), (49, .imul, 0, 0), (50, .iload_n 2, 0, 0), (51, .iadd, 0, 0), (52, .aload_n 0, 0, 0), (53, .getfield 65, 931, 0), (56, .iload_n 1, 0, 0), (57, .iaload, 0, 0), (58, .ifCond .ne 8, 66, 0), (61, .iload_n 3, 0, 0), (62, .i2b, 0, 0), (63, .goto 19, 82, 0)], [(66, .aload_n 0, 0, 0), (67, .getfield 65, 931, 0), (70, .iload_n 1, 0, 0), (71, .iaload, 0, 0), (72, .iconst 1, 0, 0), (73, .if_icmp .ne 8, 81, 0), (76, .iload_n 3, 0, 0), (77, .i2s, 0, 0), (78, .goto 4, 82, 0)], [(81, .iload_n 3, 0, 0), (82, .iastore, 0, 0), (83, .iconst 1, 0, 0), (84, .ireturn, 0, 0)]]
def mx_t198 : List (List (List (Nat × mx_I))) := [mx_t198_0]
def mx_t199_0 : List (List (Nat × mx_I)) := [[(0, .iload_n 1, 0, 0), (1, .invokestatic 264, 196, 3), (4, .ifCond .eq 10, 14, 0), (7, .iload_n 3, 0, 0), (8, .invokestatic 264, 196, 3), (11, .ifCond .ne 6, 17, 0), (14, .bipush (-2), 0, 0)], [(16, .ireturn, 0, 0), (17, .aload_n 0, 0, 0), (18, .getfield 65, 931, 0), (21, .iload_n 1, 0, 0), (22, .iaload, 0, 0), (23, .iconst (-1), 0, 0), (24, .if_icmp .eq 13, 37, 0), (27, .aload_n 0, 0, 0), (28, .getfield 65, 931, 0), (31, .iload_n 3, 0, 0)], [(32, .iaload, 0, 0), (33, .iconst (-1), 0, 0), (34, .if_icmp .ne 6, 40, 0), (37, .bipush (-11), 0, 0), (39, .ireturn, 0, 0), (40, .aload_n 0, 0, 0), (41, .getfield 65, 931, 0), (44, .iload_n 1, 0, 0), (45, .iaload, 0, 0), (46, .aload_n 0, 0, 0), (47, .getfield 65, 931, 0)], [(50, .iload_n 3, 0, 0), (51, .iaload, 0, 0), (52, .if_icmp .eq 6, 58, 0), (55, .bipush (-13), 0, 0), (57, .ireturn, 0, 0), (58, .iload 5, 0, 0), (60, .ifCond .lt 39, 99, 0), (63, .iload_n 2, 0, 0)], [(64, .ifCond .lt 35, 99, 0), (67, .iload 4, 0, 0), (69, .ifCond .lt 30, 99, 0), (72, .iload 5, 0, 0), (74, .aload_n 0, 0, 0), (75, .getfield 68, 932, 0), (78, .iload_n 1, 0, 0), (79, .iaload, 0, 0)], [(80, .iload_n 2, 0, 0), (81, .isub, 0, 0), (82, .if_icmp .gt 17, 99, 0), (85, .iload 5, 0, 0), (87, .aload_n 0, 0, 0), (88, .getfield 68, 932, 0), (91, .iload_n 3, 0, 0), (92, .iaload, 0, 0), (93, .iload 4, 0, 0), (95, .isub, 0, 0)], [(96, .if_icmp .le 6, 102, 0), (99, .bipush (-12), 0, 0), (101, .ireturn, 0, 0), (102, .iconst 0, 0, 0), (103, .istore 6, 0, 0), (105, .iload 6, 0, 0), (107, .iload 5, 0, 0), (109, .if_icmp .ge 30, 139, 0)], [(112, .aload_n 0, 0, 0), (113, .getfield 74, 934, 0), (116, .iload 6, 0, 0), (118, .aload_n 0, 0, 0), (119, .getfield 71, 933, 0), (122, .bipush 40, 0, 0), (124, .iload_n 1, 0, 0), (125, .imul, 0, 0), (126, .iload_n 2, 0, 0), (127, .iadd, 0, 0)]]
def mx_t199_1 : List (List (Nat × mx_I)) := [[(128, .iload 6, 0, 0), (130, .iadd, 0, 0), (131, .iaload, 0, 0), (132, .iastore, 0, 0), (133, .iinc 6 1, 0, 0), (136, .goto (-31), 105, 0), (139, .iconst 0, 0, 0), (140, .istore 6, 0, 0), (142, .iload 6, 0, 0)], [(144, .iload 5, 0, 0), (146, .if_icmp .ge 31, 177, 0), (149, .aload_n 0, 0, 0), (150, .getfield 71, 933, 0), (153, .bipush 40, 0, 0), (155, .iload_n 3, 0, 0), (156, .imul, 0, 0), (157, .iload 4, 0, 0), (159, .iadd, 0, 0)], [(160, .iload 6, 0, 0), (162, .iadd, 0, 0), (163, .aload_n 0, 0, 0), (164, .getfield 74, 934, 0), (167, .iload 6, 0, 0), (169, .iaload, 0, 0), (170, .iastore, 0, 0), (171, .iinc 6 1, 0, 0), (174, .goto (-32), 142, 0)], [(177, .iload 5, 0, 0), (179, .ireturn, 0, 0)]]
def mx_t199 : List (List (List (Nat × mx_I))) := [mx_t199_0, mx_t199_1]
def mx_t200_0 : List (List (Nat × mx_I)) := [[(0, .iload_n 1, 0, 0), (1, .invokestatic 264, 196, 3), (4, .ifCond .eq 22, 26, 0), (7, .iload_n 2, 0, 0), (8, .iconst 0, 0, 0), (9, .iconst 2, 0, 0), (10, .invokestatic 89, 132, 3), (13, .ifCond .eq 13, 26, 0)], [(16, .iload 4, 0, 0), (18, .iconst 0, 0, 0), (19, .iconst 4, 0, 0), (20, .invokestatic 89, 132, 3), (23, .ifCond .ne 6, 29, 0), (26, .bipush (-2), 0, 0), (28, .ireturn, 0, 0), (29, .aload_n 0, 0, 0), (30, .getfield 65, 931, 0)], [(33, .iload_n 1, 0, 0), (34, .iaload, 0, 0), (35, .iconst (-1), 0, 0), (36, .if_icmp .ne 6, 42, 0), (39, .bipush (-11), 0, 0), (41, .ireturn, 0, 0), (42, .aload_n 0, 0, 0), (43, .getfield 65, 931, 0), (46, .iload_n 1, 0, 0), (47, .iaload, 0, 0)], [(48, .iload_n 2, 0, 0), (49, .if_icmp .eq 6, 55, 0), (52, .bipush (-13), 0, 0), (54, .ireturn, 0, 0), (55, .iconst 0, 0, 0), (56, .istore 5, 0, 0), (58, .iconst 0, 0, 0), (59, .istore 6, 0, 0), (61, .iload 6, 0, 0), (63, .iload 4, 0, 0)], [(65, .if_icmp .ge 88, 153, 0), (68, .iload_n 3, 0, 0), (69, .iconst 3, 0, 0), (70, .iload 6, 0, 0), (72, .imul, 0, 0), (73, .iadd, 0, 0), (74, .istore 7, 0, 0), (76, .iload_n 3, 0, 0), (77, .ifCond .lt 16, 93, 0)], [(80, .iload 7, 0, 0), (82, .aload_n 0, 0, 0), (83, .getfield 68, 932, 0), (86, .iload_n 1, 0, 0), (87, .iaload, 0, 0), (88, .iconst 3, 0, 0), (89, .isub, 0, 0), (90, .if_icmp .le 6, 96, 0), (93, .bipush (-12), 0, 0), (95, .ireturn, 0, 0)], [(96, .bipush 40, 0, 0), (98, .iload_n 1, 0, 0), (99, .imul, 0, 0), (100, .iload 7, 0, 0), (102, .iadd, 0, 0), (103, .istore 8, 0, 0), (105, .iload 5, 0, 0), (107, .aload_n 0, 0, 0), (108, .aload_n 0, 0, 0), (109, .getfield 71, 933, 0)], [(112, .iload 8, 0, 0), (114, .iaload, 0, 0), (115, .aload_n 0, 0, 0), (116, .getfield 71, 933, 0), (119, .iload 8, 0, 0), (121, .iconst 1, 0, 0), (122, .iadd, 0, 0), (123, .iaload, 0, 0), (124, .aload_n 0, 0, 0), (125, .getfield 71, 933, 0)]]
def mx_t200_1 : List (List (Nat × mx_I)) := [[(128, .iload 8, 0, 0), (130, .iconst 2, 0, 0), (131, .iadd, 0, 0), (132, .iaload, 0, 0), (133, .invokevirtual 293, 144, 1), (136, .ifCond .lt 7, 143, 0), (139, .iconst 1, 0, 0), (140, .goto 4, 144, 0), (143, .iconst 0, 0, 0)], [(144, .iadd, 0, 0), (145, .istore 5, 0, 0), (147, .iinc 6 1, 0, 0), (150, .goto (-89), 61, 0), (153, .iload 5, 0, 0), (155, .ireturn, 0, 0)]]
def mx_t200 : List (List (List (Nat × mx_I))) := [mx_t200_0, mx_t200_1]
def mx_t201_0 : List (List (Nat × mx_I)) := [[(0, .iload_n 2, 0, 0), (1, .iconst 0, 0, 0), (2, .iconst 5, 0, 0), (3, .invokestatic 89, 132, 3), (6, .ifCond .ne 6, 12, 0), (9, .bipush (-2), 0, 0), (11, .ireturn, 0, 0), (12, .aload_n 0, 0, 0), (13, .iload_n 1, 0, 0), (14, .invokevirtual 101, 137, 1)], [(17, .ifCond .ne 6, 23, 0), (20, .bipush (-11), 0, 0), (22, .ireturn, 0, 0), (23, .aload_n 0, 0, 0), (24, .getfield 7, 900, 0), (27, .bipush 72, 0, 0), (29, .iconst 4, 0, 0), (30, .iload_n 1, 0, 0), (31, .imul, 0, 0)], [(32, .iadd, 0, 0), (33, .iaload, 0, 0), (34, .istore_n 3, 0, 0), (35, .iload_n 3, 0, 0), (36, .iconst (-1), 0, 0), (37, .if_icmp .eq 18, 55, 0), (40, .iload_n 3, 0, 0), (41, .iload_n 2, 0, 0), (42, .if_icmp .eq 13, 55, 0), (45, .aload_n 0, 0, 0), (46, .getfield 77, 935, 0)], [(49, .iload_n 3, 0, 0), (50, .iaload, 0, 0), (51, .istore_n 3, 0, 0), (52, .goto (-17), 35, 0), (55, .iload_n 3, 0, 0), (56, .iconst (-1), 0, 0), (57, .if_icmp .ne 8, 65, 0), (60, .bipush (-13), 0, 0), (62, .goto 16, 78, 0)], [(65, .aload_n 0, 0, 0), (66, .getfield 7, 900, 0), (69, .bipush 72, 0, 0), (71, .iconst 4, 0, 0), (72, .iload_n 1, 0, 0), (73, .imul, 0, 0), (74, .iadd, 0, 0), (75, .iconst 1, 0, 0), (76, .iadd, 0, 0), (77, .iaload, 0, 0), (78, .ireturn, 0, 0)]]
def mx_t201 : List (List (List (Nat × mx_I))) := [mx_t201_0]
def mx_t202_0 : List (List (Nat × mx_I)) := [[(0, .iconst 0, 0, 0), (1, .istore_n 2, 0, 0), (2, .iload_n 2, 0, 0), (3, .aload_n 0, 0, 0), (4, .getfield 68, 932, 0), (7, .iload_n 1, 0, 0), (8, .iaload, 0, 0), (9, .if_icmp .ge 30, 39, 0), (12, .aload_n 0, 0, 0), (13, .iload_n 2, 0, 0), (14, .invokevirtual 215, 170, 1)], [(17, .aload_n 0, 0, 0), (18, .getfield 71, 933, 0), (21, .bipush 40, 0, 0), (23, .iload_n 1, 0, 0), (24, .imul, 0, 0), (25, .iload_n 2, 0, 0), (26, .iadd, 0, 0), (27, .iaload, 0, 0), (28, .if_icmp .eq 5, 33, 0), (31, .iload_n 2, 0, 0)], [(32, .ireturn, 0, 0), (33, .iinc 2 1, 0, 0), (36, .goto (-34), 2, 0), (39, .iconst (-1), 0, 0), (40, .ireturn, 0, 0)]]
def mx_t202 : List (List (List (Nat × mx_I))) := [mx_t202_0]
def mx_t203_0 : List (List (Nat × mx_I)) := [[(0, .aload_n 0, 0, 0), (1, .getfield 7, 900, 0), (4, .bipush 89, 0, 0), (6, .iaload, 0, 0), (7, .istore_n 3, 0, 0), (8, .iconst 0, 0, 0), (9, .istore 4, 0, 0), (11, .iconst (-1), 0, 0), (12, .istore 5, 0, 0), (14, .bipush 99, 0, 0)], [(16, .istore 6, 0, 0), (18, .iload 6, 0, 0), (20, .ifCond .lt 63, 83, 0), (23, .aload_n 0, 0, 0), (24, .getfield 7, 900, 0), (27, .bipush 89, 0, 0), (29, .iload 6, 0, 0), (31, .iastore, 0, 0)], [(32, .aload_n 0, 0, 0), (33, .iload_n 1, 0, 0), (34, .invokevirtual 296, 202, 1), (37, .iconst (-1), 0, 0), (38, .if_icmp .ne 7, 45, 0), (41, .iconst 1, 0, 0), (42, .goto 4, 46, 0), (45, .iconst 0, 0, 0), (46, .istore 7, 0, 0)], [(48, .iload 4, 0, 0), (50, .iload 7, 0, 0), (52, .ifCond .eq 7, 59, 0), (55, .iconst 1, 0, 0), (56, .goto 4, 60, 0), (59, .iconst 0, 0, 0), (60, .iadd, 0, 0), (61, .istore 4, 0, 0), (63, .iload 7, 0, 0)], [(65, .ifCond .eq 8, 73, 0), (68, .iload 6, 0, 0), (70, .goto 5, 75, 0), (73, .iload 5, 0, 0), (75, .istore 5, 0, 0), (77, .iinc 6 (-1), 0, 0)], [(80, .goto (-62), 18, 0), (83, .aload_n 0, 0, 0), (84, .getfield 7, 900, 0), (87, .bipush 89, 0, 0), (89, .iload_n 3, 0, 0), (90, .iastore, 0, 0), (91, .iload_n 2, 0, 0), (92, .ifCond .eq 8, 100, 0), (95, .iload 4, 0, 0)], [(97, .goto 5, 102, 0), (100, .iload 5, 0, 0), (102, .ireturn, 0, 0)]]
def mx_t203 : List (List (List (Nat × mx_I))) := [mx_t203_0]
def mx_t204_0 : List (List (Nat × mx_I)) := [[(0, .aload_n 0, 0, 0), (1, .aload_n 0, 0, 0), (2, .getfield 16, 902, 0), (5, .invokevirtual 239, 134, 1), (8, .aload_n 0, 0, 0), (9, .iload_n 2, 0, 0), (10, .invokevirtual 221, 173, 1), (13, .iconst 1, 0, 0), (14, .istore_n 3, 0, 0), (15, .iconst 0, 0, 0)], [(16, .istore 4, 0, 0), (18, .iload 4, 0, 0), (20, .aload_n 0, 0, 0), (21, .getfield 68, 932, 0), (24, .iload_n 1, 0, 0), (25, .iaload, 0, 0), (26, .if_icmp .ge 41, 67, 0), (29, .iload_n 3, 0, 0), (30, .ifCond .eq 29, 59, 0)], [(33, .aload_n 0, 0, 0), (34, .getfield 7, 900, 0), (37, .iload 4, 0, 0), (39, .iaload, 0, 0), (40, .aload_n 0, 0, 0), (41, .getfield 71, 933, 0), (44, .bipush 40, 0, 0), (46, .iload_n 1, 0, 0), (47, .imul, 0, 0)], [(48, .iload 4, 0, 0), (50, .iadd, 0, 0), (51, .iaload, 0, 0), (52, .if_icmp .ne 7, 59, 0), (55, .iconst 1, 0, 0), (56, .goto 4, 60, 0), (59, .iconst 0, 0, 0), (60, .istore_n 3, 0, 0), (61, .iinc 4 1, 0, 0)], [(64, .goto (-46), 18, 0), (67, .aload_n 0, 0, 0), (68, .aload_n 0, 0, 0), (69, .getfield 16, 902, 0), (72, .invokevirtual 243, 135, 1), (75, .iload_n 3, 0, 0), (76, .ireturn, 0, 0)]]
def mx_t204 : List (List (List (Nat × mx_I))) := [mx_t204_0]
def mx_t205_0 : List (List (Nat × mx_I)) := [[(0, .iload_n 1, 0, 0), (1, .invokestatic 264, 196, 3), (4, .ifCond .eq 21, 25, 0), (7, .aload_n 0, 0, 0), (8, .iload_n 2, 0, 0), (9, .invokevirtual 101, 137, 1), (12, .ifCond .eq 13, 25, 0), (15, .iload_n 3, 0, 0)], [(16, .iconst 0, 0, 0), (17, .bipush 6, 0, 0), (19, .invokestatic 89, 132, 3), (22, .ifCond .ne 6, 28, 0), (25, .bipush (-2), 0, 0), (27, .ireturn, 0, 0), (28, .aload_n 0, 0, 0), (29, .getfield 65, 931, 0)], [(32, .iload_n 1, 0, 0), (33, .iaload, 0, 0), (34, .iconst (-1), 0, 0), (35, .if_icmp .ne 6, 41, 0), (38, .bipush (-11), 0, 0), (40, .ireturn, 0, 0), (41, .aload_n 0, 0, 0), (42, .getfield 68, 932, 0), (45, .iload_n 1, 0, 0), (46, .iaload, 0, 0), (47, .bipush 36, 0, 0)], [(49, .if_icmp .le 6, 55, 0), (52, .bipush (-2), 0, 0), (54, .ireturn, 0, 0), (55, .aload_n 0, 0, 0), (56, .iload_n 2, 0, 0), (57, .invokevirtual 207, 168, 1), (60, .iload_n 3, 0, 0), (61, .ifCond .ne 9, 70, 0)], [(64, .aload_n 0, 0, 0), (65, .iload_n 1, 0, 0), (66, .invokevirtual 296, 202, 1), (69, .ireturn, 0, 0), (70, .iload_n 3, 0, 0), (71, .iconst 3, 0, 0), (72, .if_icmp .eq 8, 80, 0), (75, .iload_n 3, 0, 0), (76, .iconst 4, 0, 0), (77, .if_icmp .ne 19, 96, 0)], [(80, .aload_n 0, 0, 0), (81, .iload_n 1, 0, 0), (82, .iload_n 3, 0, 0), (83, .iconst 3, 0, 0), (84, .if_icmp .ne 7, 91, 0), (87, .iconst 1, 0, 0), (88, .goto 4, 92, 0), (91, .iconst 0, 0, 0), (92, .invokevirtual 299, 203, 1), (95, .ireturn, 0, 0)], [(96, .iload_n 3, 0, 0), (97, .iconst 1, 0, 0), (98, .if_icmp .ne 8, 106, 0), (101, .bipush 6, 0, 0), (103, .goto 27, 130, 0), (106, .iload_n 3, 0, 0), (107, .iconst 2, 0, 0), (108, .if_icmp .ne 8, 116, 0), (111, .bipush 10, 0, 0)], [(113, .goto 17, 130, 0), (116, .iload_n 3, 0, 0), (117, .iconst 5, 0, 0), (118, .if_icmp .ne 10, 128, 0), (121, .aload_n 0, 0, 0), (122, .getfield 32, 912, 0), (125, .goto 5, 130, 0)]]
def mx_t205_1 : List (List (Nat × mx_I)) := [[(128, .bipush 7, 0, 0), (130, .istore 4, 0, 0), (132, .iconst 0, 0, 0), (133, .istore 5, 0, 0), (135, .iconst 0, 0, 0), (136, .istore 6, 0, 0), (138, .iload 6, 0, 0), (140, .iload 4, 0, 0), (142, .if_icmp .ge 118, 260, 0)], [(145, .aload_n 0, 0, 0), (146, .iload_n 2, 0, 0), (147, .invokevirtual 207, 168, 1), (150, .aload_n 0, 0, 0), (151, .iload_n 3, 0, 0), (152, .iconst 1, 0, 0), (153, .if_icmp .ne 8, 161, 0), (156, .iload 6, 0, 0), (158, .goto 7, 165, 0)], [(161, .aload_n 0, 0, 0), (162, .getfield 198, 918, 0), (165, .putfield 198, 918, 0), (168, .aload_n 0, 0, 0), (169, .iload_n 3, 0, 0), (170, .iconst 2, 0, 0), (171, .if_icmp .ne 8, 179, 0), (174, .iload 6, 0, 0)], [(176, .goto 7, 183, 0), (179, .aload_n 0, 0, 0), (180, .getfield 185, 919, 0), (183, .putfield 185, 919, 0), (186, .aload_n 0, 0, 0), (187, .iload_n 3, 0, 0), (188, .iconst 5, 0, 0), (189, .if_icmp .ne 8, 197, 0)], [(192, .iload 6, 0, 0), (194, .goto 7, 201, 0), (197, .aload_n 0, 0, 0), (198, .getfield 179, 920, 0), (201, .putfield 179, 920, 0), (204, .iload_n 3, 0, 0), (205, .bipush 6, 0, 0), (207, .if_icmp .ne 13, 220, 0)], [(210, .aload_n 0, 0, 0), (211, .iload_n 1, 0, 0), (212, .iload 6, 0, 0), (214, .invokevirtual 303, 204, 1), (217, .goto 17, 234, 0), (220, .aload_n 0, 0, 0), (221, .iload_n 1, 0, 0), (222, .invokevirtual 296, 202, 1)], [(225, .iconst (-1), 0, 0), (226, .if_icmp .ne 7, 233, 0), (229, .iconst 1, 0, 0), (230, .goto 4, 234, 0), (233, .iconst 0, 0, 0), (234, .istore 7, 0, 0), (236, .iload 5, 0, 0), (238, .iload 7, 0, 0)], [(240, .ifCond .eq 10, 250, 0), (243, .iconst 1, 0, 0), (244, .iload 6, 0, 0), (246, .ishl, 0, 0), (247, .goto 4, 251, 0), (250, .iconst 0, 0, 0), (251, .ior, 0, 0), (252, .istore 5, 0, 0), (254, .iinc 6 1, 0, 0)]]
def mx_t205_2 : List (List (Nat × mx_I)) := [[(257, .goto (-119), 138, 0), (260, .iload 5, 0, 0), (262, .ireturn, 0, 0)]]
def mx_t205 : List (List (List (Nat × mx_I))) := [mx_t205_0, mx_t205_1, mx_t205_2]
def mx_t206_0 : List (List (Nat × mx_I)) := [[(0, .iload_n 1, 0, 0), (1, .invokestatic 264, 196, 3), (4, .ifCond .eq 21, 25, 0), (7, .aload_n 0, 0, 0), (8, .iload_n 2, 0, 0), (9, .invokevirtual 101, 137, 1), (12, .ifCond .eq 13, 25, 0), (15, .iload_n 3, 0, 0)], [(16, .iconst 0, 0, 0), (17, .bipush 36, 0, 0), (19, .invokestatic 89, 132, 3), (22, .ifCond .ne 6, 28, 0), (25, .bipush (-2), 0, 0), (27, .ireturn, 0, 0), (28, .aload_n 0, 0, 0), (29, .iload_n 1, 0, 0), (30, .iconst 0, 0, 0), (31, .iload_n 3, 0, 0)], [(32, .invokevirtual 307, 197, 1), (35, .pop, 0, 0), (36, .aload_n 0, 0, 0), (37, .iload_n 2, 0, 0), (38, .invokevirtual 207, 168, 1), (41, .iconst 0, 0, 0), (42, .istore 4, 0, 0), (44, .iload 4, 0, 0), (46, .iload_n 3, 0, 0), (47, .if_icmp .ge 27, 74, 0)], [(50, .aload_n 0, 0, 0), (51, .getfield 71, 933, 0), (54, .bipush 40, 0, 0), (56, .iload_n 1, 0, 0), (57, .imul, 0, 0), (58, .iload 4, 0, 0), (60, .iadd, 0, 0), (61, .aload_n 0, 0, 0), (62, .iload 4, 0, 0)], [(64, .invokevirtual 215, 170, 1), (67, .iastore, 0, 0), (68, .iinc 4 1, 0, 0), (71, .goto (-27), 44, 0), (74, .iload_n 3, 0, 0), (75, .ireturn, 0, 0)]]
def mx_t206 : List (List (List (Nat × mx_I))) := [mx_t206_0]
def mx_t207_0 : List (List (Nat × mx_I)) := [[(0, .iload_n 1, 0, 0), (1, .ldc_w 310, 0, 1103515245), (4, .imul, 0, 0), (5, .sipush 12345, 0, 0), (8, .iadd, 0, 0), (9, .istore_n 2, 0, 0), (10, .aload_n 0, 0, 0), (11, .iload_n 2, 0, 0), (12, .bipush 9, 0, 0), (14, .iushr, 0, 0), (15, .bipush 7, 0, 0)], [(17, .irem, 0, 0), (18, .invokevirtual 252, 185, 1), (21, .ireturn, 0, 0)]]
def mx_t207 : List (List (List (Nat × mx_I))) := [mx_t207_0]
def mx_t208_0 : List (List (Nat × mx_I)) := [[(0, .iload_n 2, 0, 0), (1, .iconst 1, 0, 0), (2, .bipush 20, 0, 0), (4, .invokestatic 89, 132, 3), (7, .ifCond .eq 23, 30, 0), (10, .iload_n 3, 0, 0), (11, .iconst 0, 0, 0), (12, .bipush 36, 0, 0), (14, .invokestatic 89, 132, 3)], [(17, .ifCond .eq 13, 30, 0), (20, .iload 4, 0, 0), (22, .iconst 0, 0, 0), (23, .iconst 1, 0, 0), (24, .invokestatic 89, 132, 3), (27, .ifCond .ne 7, 34, 0), (30, .ldc2_w 250, 0, (-4611686018427387904))], [(33, .lreturn, 0, 0), (34, .lconst 0, 0, 0), (35, .lstore 5, 0, 0), (37, .iconst 0, 0, 0), (38, .istore 7, 0, 0), (40, .iload 7, 0, 0), (42, .iload_n 2, 0, 0), (43, .if_icmp .ge 31, 74, 0), (46, .lload 5, 0, 0)], [(48, .aload_n 0, 0, 0), (49, .iload_n 1, 0, 0), (50, .iload 7, 0, 0), (52, .iadd, 0, 0), (53, .invokevirtual 311, 207, 1), (56, .iload_n 3, 0, 0), (57, .if_icmp .lt 7, 64, 0), (60, .lconst 1, 0, 0), (61, .goto 4, 65, 0)], [(64, .lconst 0, 0, 0), (65, .ladd, 0, 0), (66, .lstore 5, 0, 0), (68, .iinc 7 1, 0, 0), (71, .goto (-31), 40, 0), (74, .iload_n 2, 0, 0), (75, .i2l, 0, 0), (76, .lload 5, 0, 0), (78, .invokestatic 289, 194, 3)], [(81, .lstore 7, 0, 0), (83, .iload 4, 0, 0), (85, .ifCond .ne 11, 96, 0), (88, .lload 5, 0, 0), (90, .lload 7, 0, 0), (92, .ldiv, 0, 0), (93, .goto 8, 101, 0)], [(96, .iload_n 2, 0, 0), (97, .i2l, 0, 0), (98, .lload 7, 0, 0), (100, .ldiv, 0, 0), (101, .lreturn, 0, 0)]]
def mx_t208 : List (List (List (Nat × mx_I))) := [mx_t208_0]
def mx_t209_0 : List (List (Nat × mx_I)) := [[(0, .aload_n 0, 0, 0), (1, .aload_n 0, 0, 0), (2, .getfield 13, 901, 0), (5, .invokevirtual 239, 134, 1), (8, .aload_n 0, 0, 0), (9, .iconst 1, 0, 0), (10, .putfield 314, 903, 0), (13, .aload_n 0, 0, 0), (14, .invokevirtual 107, 136, 1)], [(17, .ireturn, 0, 0)]]
def mx_t209 : List (List (List (Nat × mx_I))) := [mx_t209_0]
def mx_t210_0 : List (List (Nat × mx_I)) := [[(0, .aload_n 0, 0, 0), (1, .getfield 314, 903, 0), (4, .ifCond .ne 6, 10, 0), (7, .bipush (-3), 0, 0), (9, .ireturn, 0, 0), (10, .aload_n 0, 0, 0), (11, .aload_n 0, 0, 0), (12, .getfield 13, 901, 0), (15, .invokevirtual 243, 135, 1)], [(18, .aload_n 0, 0, 0), (19, .invokevirtual 107, 136, 1), (22, .ireturn, 0, 0)]]
def mx_t210 : List (List (List (Nat × mx_I))) := [mx_t210_0]
def mx_t211_0 : List (List (Nat × mx_I)) := [[(0, .iload_n 1, 0, 0), (1, .tableswitch 75 0 5 #[39, 44, 49, 57, 62, 67], 39, 0)], [], [(40, .aload_n 0, 0, 0), (41, .invokevirtual 107, 136, 1), (44, .ireturn, 0, 0), (45, .aload_n 0, 0, 0), (46, .invokevirtual 224, 174, 1)], [(49, .ireturn, 0, 0), (50, .aload_n 0, 0, 0), (51, .getfield 7, 900, 0), (54, .bipush 89, 0, 0), (56, .iaload, 0, 0), (57, .ireturn, 0, 0), (58, .aload_n 0, 0, 0), (59, .getfield 32, 912, 0), (62, .ireturn, 0, 0), (63, .aload_n 0, 0, 0)], [(64, .getfield 110, 905, 0), (67, .ireturn, 0, 0), (68, .aload_n 0, 0, 0), (69, .getfield 7, 900, 0), (72, .bipush 90, 0, 0), (74, .iaload, 0, 0), (75, .ireturn, 0, 0), (76, .bipush (-2), 0, 0), (78, .ireturn, 0, 0)]]
def mx_t211 : List (List (List (Nat × mx_I))) := [mx_t211_0]
def mx_t212_0 : List (List (Nat × mx_I)) := [[(0, .iload_n 0, 0, 0), (1, .iload_n 0, 0, 0), (2, .iconst 1, 0, 0), (3, .iushr, 0, 0), (4, .ldc_w 265, 0, 1431655765), (7, .iand, 0, 0), (8, .isub, 0, 0), (9, .istore_n 0, 0, 0), (10, .iload_n 0, 0, 0), (11, .ldc_w 266, 0, 858993459), (14, .iand, 0, 0), (15, .iload_n 0, 0, 0)], [(16, .iconst 2, 0, 0), (17, .iushr, 0, 0), (18, .ldc_w 266, 0, 858993459), (21, .iand, 0, 0), (22, .iadd, 0, 0), (23, .istore_n 0, 0, 0), (24, .iload_n 0, 0, 0), (25, .iload_n 0, 0, 0), (26, .iconst 4, 0, 0), (27, .iushr, 0, 0), (28, .iadd, 0, 0), (29, .ldc_w 267, 0, 252645135)], [(32, .iand, 0, 0), (33, .istore_n 0, 0, 0), (34, .iload_n 0, 0, 0), (35, .iload_n 0, 0, 0), (36, .bipush 8, 0, 0), (38, .iushr, 0, 0), (39, .iadd, 0, 0), (40, .istore_n 0, 0, 0), (41, .iload_n 0, 0, 0), (42, .iload_n 0, 0, 0), (43, .bipush 16, 0, 0), (45, .iushr, 0, 0), (46, .iadd, 0, 0), (47, .istore_n 0, 0, 0)], [(48, .iload_n 0, 0, 0), (49, .bipush 63, 0, 0), (51, .iand, 0, 0), (52, .ireturn, 0, 0)]]
def mx_t212 : List (List (List (Nat × mx_I))) := [mx_t212_0]
def mx_t213_0 : List (List (Nat × mx_I)) := [[(0, .lload_n 0, 0, 0), (1, .lload_n 0, 0, 0), (2, .iconst 1, 0, 0), (3, .lushr, 0, 0), (4, .ldc2_w 314, 0, 6148914691236517205), (7, .land, 0, 0), (8, .lsub, 0, 0), (9, .lstore_n 0, 0, 0), (10, .lload_n 0, 0, 0), (11, .ldc2_w 316, 0, 3689348814741910323), (14, .land, 0, 0), (15, .lload_n 0, 0, 0)], [(16, .iconst 2, 0, 0), (17, .lushr, 0, 0), (18, .ldc2_w 316, 0, 3689348814741910323), (21, .land, 0, 0), (22, .ladd, 0, 0), (23, .lstore_n 0, 0, 0), (24, .lload_n 0, 0, 0), (25, .lload_n 0, 0, 0), (26, .iconst 4, 0, 0), (27, .lushr, 0, 0), (28, .ladd, 0, 0), (29, .ldc2_w 318, 0, 1085102592571150095)], [(32, .land, 0, 0), (33, .lstore_n 0, 0, 0), (34, .lload_n 0, 0, 0), (35, .lload_n 0, 0, 0), (36, .bipush 8, 0, 0), (38, .lushr, 0, 0), (39, .ladd, 0, 0), (40, .lstore_n 0, 0, 0), (41, .lload_n 0, 0, 0), (42, .lload_n 0, 0, 0), (43, .bipush 16, 0, 0), (45, .lushr, 0, 0), (46, .ladd, 0, 0), (47, .lstore_n 0, 0, 0)], [(48, .lload_n 0, 0, 0), (49, .lload_n 0, 0, 0), (50, .bipush 32, 0, 0), (52, .lushr, 0, 0), (53, .ladd, 0, 0), (54, .lstore_n 0, 0, 0), (55, .lload_n 0, 0, 0), (56, .l2i, 0, 0), (57, .bipush 127, 0, 0), (59, .iand, 0, 0), (60, .ireturn, 0, 0)]]
def mx_t213 : List (List (List (Nat × mx_I))) := [mx_t213_0]
def mx_t214_0 : List (List (Nat × mx_I)) := [[(0, .new 7, 8, 0), (3, .dup, 0, 0), (4, .invokespecial 9, 76, 5), (7, .astore_n 1, 0, 0), (8, .new 10, 9, 0), (11, .dup, 0, 0), (12, .invokespecial 12, 131, 5), (15, .astore_n 2, 0, 0)], [(16, .iconst 0, 0, 0), (17, .istore_n 3, 0, 0), (18, .iload_n 3, 0, 0), (19, .aload_n 0, 0, 0), (20, .arraylength, 0, 0), (21, .bipush 6, 0, 0), (23, .isub, 0, 0), (24, .if_icmp .gt 1153, 1177, 0), (27, .aload_n 0, 0, 0), (28, .iload_n 3, 0, 0), (29, .iaload, 0, 0), (30, .bipush 31, 0, 0)], [(32, .iand, 0, 0), (33, .tableswitch 1138 0 29 #[135, 178, 221, 254, 297, 320, 333, 356, 379, 412, 445, 488, 512, 535, 568, 601, 624, 657, 691, 734, 777, 800, 854, 867, 880, 903, 946, 989, 1052, 1105], 135, 0)], [], [], [], [], []]
def mx_t214_1 : List (List (Nat × mx_I)) := [[], [], [(168, .aload_n 1, 0, 0), (169, .aload_n 0, 0, 0), (170, .iload_n 3, 0, 0), (171, .iconst 1, 0, 0), (172, .iadd, 0, 0), (173, .iaload, 0, 0), (174, .aload_n 0, 0, 0), (175, .iload_n 3, 0, 0)], [(176, .iconst 2, 0, 0), (177, .iadd, 0, 0), (178, .iaload, 0, 0), (179, .aload_n 0, 0, 0), (180, .iload_n 3, 0, 0), (181, .iconst 3, 0, 0), (182, .iadd, 0, 0), (183, .iaload, 0, 0), (184, .invokevirtual 13, 77, 1), (187, .aload_n 2, 0, 0), (188, .aload_n 0, 0, 0), (189, .iload_n 3, 0, 0), (190, .iconst 1, 0, 0), (191, .iadd, 0, 0)], [(192, .iaload, 0, 0), (193, .aload_n 0, 0, 0), (194, .iload_n 3, 0, 0), (195, .iconst 2, 0, 0), (196, .iadd, 0, 0), (197, .iaload, 0, 0), (198, .aload_n 0, 0, 0), (199, .iload_n 3, 0, 0), (200, .iconst 3, 0, 0), (201, .iadd, 0, 0), (202, .iaload, 0, 0), (203, .invokevirtual 17, 143, 1), (206, .if_icmp .eq 965, 1171, 0)], [(209, .iconst 0, 0, 0), (210, .ireturn, 0, 0), (211, .aload_n 1, 0, 0), (212, .aload_n 0, 0, 0), (213, .iload_n 3, 0, 0), (214, .iconst 1, 0, 0), (215, .iadd, 0, 0), (216, .iaload, 0, 0), (217, .aload_n 0, 0, 0), (218, .iload_n 3, 0, 0), (219, .iconst 2, 0, 0), (220, .iadd, 0, 0), (221, .iaload, 0, 0), (222, .aload_n 0, 0, 0), (223, .iload_n 3, 0, 0)], [(224, .iconst 3, 0, 0), (225, .iadd, 0, 0), (226, .iaload, 0, 0), (227, .invokevirtual 18, 79, 1), (230, .aload_n 2, 0, 0), (231, .aload_n 0, 0, 0), (232, .iload_n 3, 0, 0), (233, .iconst 1, 0, 0), (234, .iadd, 0, 0), (235, .iaload, 0, 0), (236, .aload_n 0, 0, 0), (237, .iload_n 3, 0, 0), (238, .iconst 2, 0, 0), (239, .iadd, 0, 0)], [(240, .iaload, 0, 0), (241, .aload_n 0, 0, 0), (242, .iload_n 3, 0, 0), (243, .iconst 3, 0, 0), (244, .iadd, 0, 0), (245, .iaload, 0, 0), (246, .invokevirtual 21, 144, 1), (249, .if_icmp .eq 922, 1171, 0), (252, .iconst 0, 0, 0), (253, .ireturn, 0, 0), (254, .aload_n 1, 0, 0), (255, .aload_n 0, 0, 0)]]
def mx_t214_2 : List (List (Nat × mx_I)) := [[(256, .iload_n 3, 0, 0), (257, .iconst 1, 0, 0), (258, .iadd, 0, 0), (259, .iaload, 0, 0), (260, .aload_n 0, 0, 0), (261, .iload_n 3, 0, 0), (262, .iconst 2, 0, 0), (263, .iadd, 0, 0), (264, .iaload, 0, 0), (265, .invokevirtual 22, 80, 1), (268, .aload_n 2, 0, 0), (269, .aload_n 0, 0, 0), (270, .iload_n 3, 0, 0), (271, .iconst 1, 0, 0)], [(272, .iadd, 0, 0), (273, .iaload, 0, 0), (274, .aload_n 0, 0, 0), (275, .iload_n 3, 0, 0), (276, .iconst 2, 0, 0), (277, .iadd, 0, 0), (278, .iaload, 0, 0), (279, .invokevirtual 26, 145, 1), (282, .if_icmp .eq 889, 1171, 0), (285, .iconst 0, 0, 0), (286, .ireturn, 0, 0), (287, .aload_n 1, 0, 0)], [(288, .aload_n 0, 0, 0), (289, .iload_n 3, 0, 0), (290, .iconst 1, 0, 0), (291, .iadd, 0, 0), (292, .iaload, 0, 0), (293, .aload_n 0, 0, 0), (294, .iload_n 3, 0, 0), (295, .iconst 2, 0, 0), (296, .iadd, 0, 0), (297, .iaload, 0, 0), (298, .aload_n 0, 0, 0), (299, .iload_n 3, 0, 0), (300, .iconst 3, 0, 0), (301, .iadd, 0, 0), (302, .iaload, 0, 0), (303, .invokevirtual 27, 81, 1)], [(306, .aload_n 2, 0, 0), (307, .aload_n 0, 0, 0), (308, .iload_n 3, 0, 0), (309, .iconst 1, 0, 0), (310, .iadd, 0, 0), (311, .iaload, 0, 0), (312, .aload_n 0, 0, 0), (313, .iload_n 3, 0, 0), (314, .iconst 2, 0, 0), (315, .iadd, 0, 0), (316, .iaload, 0, 0), (317, .aload_n 0, 0, 0), (318, .iload_n 3, 0, 0), (319, .iconst 3, 0, 0)], [(320, .iadd, 0, 0), (321, .iaload, 0, 0), (322, .invokevirtual 30, 172, 1), (325, .if_icmp .eq 846, 1171, 0), (328, .iconst 0, 0, 0), (329, .ireturn, 0, 0), (330, .aload_n 1, 0, 0), (331, .aload_n 0, 0, 0), (332, .iload_n 3, 0, 0), (333, .iconst 1, 0, 0), (334, .iadd, 0, 0), (335, .iaload, 0, 0)], [(336, .invokevirtual 31, 82, 1), (339, .aload_n 2, 0, 0), (340, .aload_n 0, 0, 0), (341, .iload_n 3, 0, 0), (342, .iconst 1, 0, 0), (343, .iadd, 0, 0), (344, .iaload, 0, 0), (345, .invokevirtual 35, 147, 1), (348, .if_icmp .eq 823, 1171, 0), (351, .iconst 0, 0, 0)], [(352, .ireturn, 0, 0), (353, .aload_n 1, 0, 0), (354, .invokevirtual 36, 83, 1), (357, .aload_n 2, 0, 0), (358, .invokevirtual 40, 162, 1), (361, .if_icmp .eq 810, 1171, 0), (364, .iconst 0, 0, 0), (365, .ireturn, 0, 0), (366, .aload_n 1, 0, 0), (367, .aload_n 0, 0, 0)], [(368, .iload_n 3, 0, 0), (369, .iconst 1, 0, 0), (370, .iadd, 0, 0), (371, .iaload, 0, 0), (372, .invokevirtual 41, 84, 1), (375, .aload_n 2, 0, 0), (376, .aload_n 0, 0, 0), (377, .iload_n 3, 0, 0), (378, .iconst 1, 0, 0), (379, .iadd, 0, 0), (380, .iaload, 0, 0), (381, .invokevirtual 44, 163, 1)]]
def mx_t214_3 : List (List (Nat × mx_I)) := [[(384, .if_icmp .eq 787, 1171, 0), (387, .iconst 0, 0, 0), (388, .ireturn, 0, 0), (389, .aload_n 1, 0, 0), (390, .aload_n 0, 0, 0), (391, .iload_n 3, 0, 0), (392, .iconst 1, 0, 0), (393, .iadd, 0, 0), (394, .iaload, 0, 0), (395, .invokevirtual 45, 85, 1), (398, .aload_n 2, 0, 0), (399, .aload_n 0, 0, 0)], [(400, .iload_n 3, 0, 0), (401, .iconst 1, 0, 0), (402, .iadd, 0, 0), (403, .iaload, 0, 0), (404, .invokevirtual 48, 175, 1), (407, .if_icmp .eq 764, 1171, 0), (410, .iconst 0, 0, 0), (411, .ireturn, 0, 0), (412, .aload_n 1, 0, 0), (413, .aload_n 0, 0, 0), (414, .iload_n 3, 0, 0), (415, .iconst 1, 0, 0)], [(416, .iadd, 0, 0), (417, .iaload, 0, 0), (418, .aload_n 0, 0, 0), (419, .iload_n 3, 0, 0), (420, .iconst 2, 0, 0), (421, .iadd, 0, 0), (422, .iaload, 0, 0), (423, .invokevirtual 49, 86, 1), (426, .aload_n 2, 0, 0), (427, .aload_n 0, 0, 0), (428, .iload_n 3, 0, 0), (429, .iconst 1, 0, 0), (430, .iadd, 0, 0), (431, .iaload, 0, 0)], [(432, .aload_n 0, 0, 0), (433, .iload_n 3, 0, 0), (434, .iconst 2, 0, 0), (435, .iadd, 0, 0), (436, .iaload, 0, 0), (437, .invokevirtual 52, 177, 1), (440, .if_icmp .eq 731, 1171, 0), (443, .iconst 0, 0, 0), (444, .ireturn, 0, 0), (445, .aload_n 1, 0, 0), (446, .aload_n 0, 0, 0), (447, .iload_n 3, 0, 0)], [(448, .iconst 1, 0, 0), (449, .iadd, 0, 0), (450, .iaload, 0, 0), (451, .aload_n 0, 0, 0), (452, .iload_n 3, 0, 0), (453, .iconst 2, 0, 0), (454, .iadd, 0, 0), (455, .iaload, 0, 0), (456, .invokevirtual 53, 87, 1), (459, .aload_n 2, 0, 0), (460, .aload_n 0, 0, 0), (461, .iload_n 3, 0, 0), (462, .iconst 1, 0, 0), (463, .iadd, 0, 0)], [(464, .iaload, 0, 0), (465, .aload_n 0, 0, 0), (466, .iload_n 3, 0, 0), (467, .iconst 2, 0, 0), (468, .iadd, 0, 0), (469, .iaload, 0, 0), (470, .invokevirtual 56, 180, 1), (473, .if_icmp .eq 698, 1171, 0), (476, .iconst 0, 0, 0), (477, .ireturn, 0, 0), (478, .aload_n 1, 0, 0), (479, .aload_n 0, 0, 0)], [(480, .iload_n 3, 0, 0), (481, .iconst 1, 0, 0), (482, .iadd, 0, 0), (483, .iaload, 0, 0), (484, .aload_n 0, 0, 0), (485, .iload_n 3, 0, 0), (486, .iconst 2, 0, 0), (487, .iadd, 0, 0), (488, .iaload, 0, 0), (489, .aload_n 0, 0, 0), (490, .iload_n 3, 0, 0), (491, .iconst 3, 0, 0), (492, .iadd, 0, 0), (493, .iaload, 0, 0), (494, .invokevirtual 57, 88, 1)], [(497, .aload_n 2, 0, 0), (498, .aload_n 0, 0, 0), (499, .iload_n 3, 0, 0), (500, .iconst 1, 0, 0), (501, .iadd, 0, 0), (502, .iaload, 0, 0), (503, .aload_n 0, 0, 0), (504, .iload_n 3, 0, 0), (505, .iconst 2, 0, 0), (506, .iadd, 0, 0), (507, .iaload, 0, 0), (508, .aload_n 0, 0, 0), (509, .iload_n 3, 0, 0), (510, .iconst 3, 0, 0), (511, .iadd, 0, 0)]]
def mx_t214_4 : List (List (Nat × mx_I)) := [[(512, .iaload, 0, 0), (513, .invokevirtual 60, 181, 1), (516, .if_icmp .eq 655, 1171, 0), (519, .iconst 0, 0, 0), (520, .ireturn, 0, 0), (521, .aload_n 1, 0, 0), (522, .aload_n 0, 0, 0), (523, .iload_n 3, 0, 0), (524, .iconst 1, 0, 0), (525, .iadd, 0, 0), (526, .iaload, 0, 0), (527, .invokevirtual 61, 89, 1)], [(530, .aload_n 2, 0, 0), (531, .aload_n 0, 0, 0), (532, .iload_n 3, 0, 0), (533, .iconst 1, 0, 0), (534, .iadd, 0, 0), (535, .iaload, 0, 0), (536, .invokevirtual 65, 183, 1), (539, .lcmp, 0, 0), (540, .ifCond .eq 631, 1171, 0), (543, .iconst 0, 0, 0)], [(544, .ireturn, 0, 0), (545, .aload_n 1, 0, 0), (546, .aload_n 0, 0, 0), (547, .iload_n 3, 0, 0), (548, .iconst 1, 0, 0), (549, .iadd, 0, 0), (550, .iaload, 0, 0), (551, .invokevirtual 66, 90, 1), (554, .aload_n 2, 0, 0), (555, .aload_n 0, 0, 0), (556, .iload_n 3, 0, 0), (557, .iconst 1, 0, 0), (558, .iadd, 0, 0), (559, .iaload, 0, 0)], [(560, .invokevirtual 69, 186, 1), (563, .if_icmp .eq 608, 1171, 0), (566, .iconst 0, 0, 0), (567, .ireturn, 0, 0), (568, .aload_n 1, 0, 0), (569, .aload_n 0, 0, 0), (570, .iload_n 3, 0, 0), (571, .iconst 1, 0, 0), (572, .iadd, 0, 0), (573, .iaload, 0, 0), (574, .aload_n 0, 0, 0), (575, .iload_n 3, 0, 0)], [(576, .iconst 2, 0, 0), (577, .iadd, 0, 0), (578, .iaload, 0, 0), (579, .invokevirtual 70, 97, 1), (582, .aload_n 2, 0, 0), (583, .aload_n 0, 0, 0), (584, .iload_n 3, 0, 0), (585, .iconst 1, 0, 0), (586, .iadd, 0, 0), (587, .iaload, 0, 0), (588, .aload_n 0, 0, 0), (589, .iload_n 3, 0, 0), (590, .iconst 2, 0, 0), (591, .iadd, 0, 0)], [(592, .iaload, 0, 0), (593, .invokevirtual 73, 187, 1), (596, .if_icmp .eq 575, 1171, 0), (599, .iconst 0, 0, 0), (600, .ireturn, 0, 0), (601, .aload_n 1, 0, 0), (602, .aload_n 0, 0, 0), (603, .iload_n 3, 0, 0), (604, .iconst 1, 0, 0), (605, .iadd, 0, 0), (606, .iaload, 0, 0), (607, .aload_n 0, 0, 0)], [(608, .iload_n 3, 0, 0), (609, .iconst 2, 0, 0), (610, .iadd, 0, 0), (611, .iaload, 0, 0), (612, .invokevirtual 74, 98, 1), (615, .aload_n 2, 0, 0), (616, .aload_n 0, 0, 0), (617, .iload_n 3, 0, 0), (618, .iconst 1, 0, 0), (619, .iadd, 0, 0), (620, .iaload, 0, 0), (621, .aload_n 0, 0, 0), (622, .iload_n 3, 0, 0), (623, .iconst 2, 0, 0)], [(624, .iadd, 0, 0), (625, .iaload, 0, 0), (626, .invokevirtual 77, 190, 1), (629, .if_icmp .eq 542, 1171, 0), (632, .iconst 0, 0, 0), (633, .ireturn, 0, 0), (634, .aload_n 1, 0, 0), (635, .aload_n 0, 0, 0), (636, .iload_n 3, 0, 0), (637, .iconst 1, 0, 0), (638, .iadd, 0, 0), (639, .iaload, 0, 0)]]
def mx_t214_5 : List (List (Nat × mx_I)) := [[(640, .invokevirtual 78, 99, 1), (643, .aload_n 2, 0, 0), (644, .aload_n 0, 0, 0), (645, .iload_n 3, 0, 0), (646, .iconst 1, 0, 0), (647, .iadd, 0, 0), (648, .iaload, 0, 0), (649, .invokevirtual 81, 192, 1), (652, .if_icmp .eq 519, 1171, 0), (655, .iconst 0, 0, 0)], [(656, .ireturn, 0, 0), (657, .aload_n 1, 0, 0), (658, .aload_n 0, 0, 0), (659, .iload_n 3, 0, 0), (660, .iconst 1, 0, 0), (661, .iadd, 0, 0), (662, .iaload, 0, 0), (663, .aload_n 0, 0, 0), (664, .iload_n 3, 0, 0), (665, .iconst 2, 0, 0), (666, .iadd, 0, 0), (667, .iaload, 0, 0), (668, .invokevirtual 82, 100, 1), (671, .aload_n 2, 0, 0)], [(672, .aload_n 0, 0, 0), (673, .iload_n 3, 0, 0), (674, .iconst 1, 0, 0), (675, .iadd, 0, 0), (676, .iaload, 0, 0), (677, .aload_n 0, 0, 0), (678, .iload_n 3, 0, 0), (679, .iconst 2, 0, 0), (680, .iadd, 0, 0), (681, .iaload, 0, 0), (682, .invokevirtual 85, 193, 1), (685, .if_icmp .eq 486, 1171, 0)], [(688, .iconst 0, 0, 0), (689, .ireturn, 0, 0), (690, .aload_n 1, 0, 0), (691, .aload_n 0, 0, 0), (692, .iload_n 3, 0, 0), (693, .iconst 1, 0, 0), (694, .iadd, 0, 0), (695, .iaload, 0, 0), (696, .aload_n 0, 0, 0), (697, .iload_n 3, 0, 0), (698, .iconst 2, 0, 0), (699, .iadd, 0, 0), (700, .iaload, 0, 0), (701, .invokevirtual 86, 101, 1)], [(704, .aload_n 2, 0, 0), (705, .aload_n 0, 0, 0), (706, .iload_n 3, 0, 0), (707, .iconst 1, 0, 0), (708, .iadd, 0, 0), (709, .iaload, 0, 0), (710, .aload_n 0, 0, 0), (711, .iload_n 3, 0, 0), (712, .iconst 2, 0, 0), (713, .iadd, 0, 0), (714, .iaload, 0, 0), (715, .invokevirtual 90, 195, 1), (718, .lcmp, 0, 0), (719, .ifCond .eq 452, 1171, 0)], [(722, .iconst 0, 0, 0), (723, .ireturn, 0, 0), (724, .aload_n 1, 0, 0), (725, .aload_n 0, 0, 0), (726, .iload_n 3, 0, 0), (727, .iconst 1, 0, 0), (728, .iadd, 0, 0), (729, .iaload, 0, 0), (730, .aload_n 0, 0, 0), (731, .iload_n 3, 0, 0), (732, .iconst 2, 0, 0), (733, .iadd, 0, 0), (734, .iaload, 0, 0), (735, .aload_n 0, 0, 0)], [(736, .iload_n 3, 0, 0), (737, .iconst 3, 0, 0), (738, .iadd, 0, 0), (739, .iaload, 0, 0), (740, .invokevirtual 91, 104, 1), (743, .aload_n 2, 0, 0), (744, .aload_n 0, 0, 0), (745, .iload_n 3, 0, 0), (746, .iconst 1, 0, 0), (747, .iadd, 0, 0), (748, .iaload, 0, 0), (749, .aload_n 0, 0, 0), (750, .iload_n 3, 0, 0), (751, .iconst 2, 0, 0)], [(752, .iadd, 0, 0), (753, .iaload, 0, 0), (754, .aload_n 0, 0, 0), (755, .iload_n 3, 0, 0), (756, .iconst 3, 0, 0), (757, .iadd, 0, 0), (758, .iaload, 0, 0), (759, .invokevirtual 94, 205, 1), (762, .if_icmp .eq 409, 1171, 0), (765, .iconst 0, 0, 0), (766, .ireturn, 0, 0), (767, .aload_n 1, 0, 0)]]
def mx_t214_6 : List (List (Nat × mx_I)) := [[(768, .aload_n 0, 0, 0), (769, .iload_n 3, 0, 0), (770, .iconst 1, 0, 0), (771, .iadd, 0, 0), (772, .iaload, 0, 0), (773, .aload_n 0, 0, 0), (774, .iload_n 3, 0, 0), (775, .iconst 2, 0, 0), (776, .iadd, 0, 0), (777, .iaload, 0, 0), (778, .aload_n 0, 0, 0), (779, .iload_n 3, 0, 0), (780, .iconst 3, 0, 0), (781, .iadd, 0, 0), (782, .iaload, 0, 0), (783, .invokevirtual 95, 112, 1)], [(786, .aload_n 2, 0, 0), (787, .aload_n 0, 0, 0), (788, .iload_n 3, 0, 0), (789, .iconst 1, 0, 0), (790, .iadd, 0, 0), (791, .iaload, 0, 0), (792, .aload_n 0, 0, 0), (793, .iload_n 3, 0, 0), (794, .iconst 2, 0, 0), (795, .iadd, 0, 0), (796, .iaload, 0, 0), (797, .aload_n 0, 0, 0), (798, .iload_n 3, 0, 0), (799, .iconst 3, 0, 0)], [(800, .iadd, 0, 0), (801, .iaload, 0, 0), (802, .invokevirtual 98, 206, 1), (805, .if_icmp .eq 366, 1171, 0), (808, .iconst 0, 0, 0), (809, .ireturn, 0, 0), (810, .aload_n 1, 0, 0), (811, .aload_n 0, 0, 0), (812, .iload_n 3, 0, 0), (813, .iconst 1, 0, 0), (814, .iadd, 0, 0), (815, .iaload, 0, 0)], [(816, .invokevirtual 99, 113, 1), (819, .aload_n 2, 0, 0), (820, .aload_n 0, 0, 0), (821, .iload_n 3, 0, 0), (822, .iconst 1, 0, 0), (823, .iadd, 0, 0), (824, .iaload, 0, 0), (825, .invokevirtual 102, 207, 1), (828, .if_icmp .eq 343, 1171, 0), (831, .iconst 0, 0, 0)], [(832, .ireturn, 0, 0), (833, .aload_n 1, 0, 0), (834, .aload_n 0, 0, 0), (835, .iload_n 3, 0, 0), (836, .iconst 1, 0, 0), (837, .iadd, 0, 0), (838, .iaload, 0, 0), (839, .aload_n 0, 0, 0), (840, .iload_n 3, 0, 0), (841, .iconst 2, 0, 0), (842, .iadd, 0, 0), (843, .iaload, 0, 0), (844, .aload_n 0, 0, 0), (845, .iload_n 3, 0, 0), (846, .iconst 3, 0, 0), (847, .iadd, 0, 0)], [(848, .iaload, 0, 0), (849, .aload_n 0, 0, 0), (850, .iload_n 3, 0, 0), (851, .iconst 4, 0, 0), (852, .iadd, 0, 0), (853, .iaload, 0, 0), (854, .invokevirtual 103, 115, 1), (857, .aload_n 2, 0, 0), (858, .aload_n 0, 0, 0), (859, .iload_n 3, 0, 0), (860, .iconst 1, 0, 0), (861, .iadd, 0, 0), (862, .iaload, 0, 0), (863, .aload_n 0, 0, 0)], [(864, .iload_n 3, 0, 0), (865, .iconst 2, 0, 0), (866, .iadd, 0, 0), (867, .iaload, 0, 0), (868, .aload_n 0, 0, 0), (869, .iload_n 3, 0, 0), (870, .iconst 3, 0, 0), (871, .iadd, 0, 0), (872, .iaload, 0, 0), (873, .aload_n 0, 0, 0), (874, .iload_n 3, 0, 0), (875, .iconst 4, 0, 0), (876, .iadd, 0, 0), (877, .iaload, 0, 0), (878, .invokevirtual 107, 208, 1)], [(881, .lcmp, 0, 0), (882, .ifCond .eq 289, 1171, 0), (885, .iconst 0, 0, 0), (886, .ireturn, 0, 0), (887, .aload_n 1, 0, 0), (888, .invokevirtual 108, 116, 1), (891, .aload_n 2, 0, 0), (892, .invokevirtual 111, 209, 1), (895, .if_icmp .eq 276, 1171, 0)]]
def mx_t214_7 : List (List (Nat × mx_I)) := [[(898, .iconst 0, 0, 0), (899, .ireturn, 0, 0), (900, .aload_n 1, 0, 0), (901, .invokevirtual 112, 117, 1), (904, .aload_n 2, 0, 0), (905, .invokevirtual 115, 210, 1), (908, .if_icmp .eq 263, 1171, 0), (911, .iconst 0, 0, 0)], [(912, .ireturn, 0, 0), (913, .aload_n 1, 0, 0), (914, .aload_n 0, 0, 0), (915, .iload_n 3, 0, 0), (916, .iconst 1, 0, 0), (917, .iadd, 0, 0), (918, .iaload, 0, 0), (919, .invokevirtual 116, 118, 1), (922, .aload_n 2, 0, 0), (923, .aload_n 0, 0, 0), (924, .iload_n 3, 0, 0), (925, .iconst 1, 0, 0), (926, .iadd, 0, 0), (927, .iaload, 0, 0)], [(928, .invokevirtual 119, 211, 1), (931, .if_icmp .eq 240, 1171, 0), (934, .iconst 0, 0, 0), (935, .ireturn, 0, 0), (936, .aload_n 1, 0, 0), (937, .aload_n 0, 0, 0), (938, .iload_n 3, 0, 0), (939, .iconst 1, 0, 0), (940, .iadd, 0, 0), (941, .iaload, 0, 0), (942, .aload_n 0, 0, 0), (943, .iload_n 3, 0, 0)], [(944, .iconst 2, 0, 0), (945, .iadd, 0, 0), (946, .iaload, 0, 0), (947, .aload_n 0, 0, 0), (948, .iload_n 3, 0, 0), (949, .iconst 3, 0, 0), (950, .iadd, 0, 0), (951, .iaload, 0, 0), (952, .invokevirtual 120, 119, 1), (955, .aload_n 2, 0, 0), (956, .aload_n 0, 0, 0), (957, .iload_n 3, 0, 0), (958, .iconst 1, 0, 0), (959, .iadd, 0, 0)], [(960, .iaload, 0, 0), (961, .aload_n 0, 0, 0), (962, .iload_n 3, 0, 0), (963, .iconst 2, 0, 0), (964, .iadd, 0, 0), (965, .iaload, 0, 0), (966, .aload_n 0, 0, 0), (967, .iload_n 3, 0, 0), (968, .iconst 3, 0, 0), (969, .iadd, 0, 0), (970, .iaload, 0, 0), (971, .invokevirtual 123, 197, 1), (974, .if_icmp .eq 197, 1171, 0)], [(977, .iconst 0, 0, 0), (978, .ireturn, 0, 0), (979, .aload_n 1, 0, 0), (980, .aload_n 0, 0, 0), (981, .iload_n 3, 0, 0), (982, .iconst 1, 0, 0), (983, .iadd, 0, 0), (984, .iaload, 0, 0), (985, .aload_n 0, 0, 0), (986, .iload_n 3, 0, 0), (987, .iconst 2, 0, 0), (988, .iadd, 0, 0), (989, .iaload, 0, 0), (990, .aload_n 0, 0, 0), (991, .iload_n 3, 0, 0)], [(992, .iconst 3, 0, 0), (993, .iadd, 0, 0), (994, .iaload, 0, 0), (995, .invokevirtual 124, 120, 1), (998, .aload_n 2, 0, 0), (999, .aload_n 0, 0, 0), (1000, .iload_n 3, 0, 0), (1001, .iconst 1, 0, 0), (1002, .iadd, 0, 0), (1003, .iaload, 0, 0), (1004, .aload_n 0, 0, 0), (1005, .iload_n 3, 0, 0), (1006, .iconst 2, 0, 0), (1007, .iadd, 0, 0)], [(1008, .iaload, 0, 0), (1009, .aload_n 0, 0, 0), (1010, .iload_n 3, 0, 0), (1011, .iconst 3, 0, 0), (1012, .iadd, 0, 0), (1013, .iaload, 0, 0), (1014, .invokevirtual 127, 198, 1), (1017, .if_icmp .eq 154, 1171, 0), (1020, .iconst 0, 0, 0), (1021, .ireturn, 0, 0), (1022, .aload_n 1, 0, 0), (1023, .aload_n 0, 0, 0)]]
def mx_t214_8 : List (List (Nat × mx_I)) := [[(1024, .iload_n 3, 0, 0), (1025, .iconst 1, 0, 0), (1026, .iadd, 0, 0), (1027, .iaload, 0, 0), (1028, .aload_n 0, 0, 0), (1029, .iload_n 3, 0, 0), (1030, .iconst 2, 0, 0), (1031, .iadd, 0, 0), (1032, .iaload, 0, 0), (1033, .aload_n 0, 0, 0), (1034, .iload_n 3, 0, 0), (1035, .iconst 3, 0, 0), (1036, .iadd, 0, 0), (1037, .iaload, 0, 0), (1038, .aload_n 0, 0, 0), (1039, .iload_n 3, 0, 0)], [(1040, .iconst 4, 0, 0), (1041, .iadd, 0, 0), (1042, .iaload, 0, 0), (1043, .aload_n 0, 0, 0), (1044, .iload_n 3, 0, 0), (1045, .iconst 5, 0, 0), (1046, .iadd, 0, 0), (1047, .iaload, 0, 0), (1048, .invokevirtual 128, 121, 1), (1051, .aload_n 2, 0, 0), (1052, .aload_n 0, 0, 0), (1053, .iload_n 3, 0, 0), (1054, .iconst 1, 0, 0), (1055, .iadd, 0, 0)], [(1056, .iaload, 0, 0), (1057, .aload_n 0, 0, 0), (1058, .iload_n 3, 0, 0), (1059, .iconst 2, 0, 0), (1060, .iadd, 0, 0), (1061, .iaload, 0, 0), (1062, .aload_n 0, 0, 0), (1063, .iload_n 3, 0, 0), (1064, .iconst 3, 0, 0), (1065, .iadd, 0, 0), (1066, .iaload, 0, 0), (1067, .aload_n 0, 0, 0), (1068, .iload_n 3, 0, 0), (1069, .iconst 4, 0, 0), (1070, .iadd, 0, 0), (1071, .iaload, 0, 0)], [(1072, .aload_n 0, 0, 0), (1073, .iload_n 3, 0, 0), (1074, .iconst 5, 0, 0), (1075, .iadd, 0, 0), (1076, .iaload, 0, 0), (1077, .invokevirtual 132, 199, 1), (1080, .if_icmp .eq 91, 1171, 0), (1083, .iconst 0, 0, 0), (1084, .ireturn, 0, 0), (1085, .aload_n 1, 0, 0), (1086, .aload_n 0, 0, 0), (1087, .iload_n 3, 0, 0)], [(1088, .iconst 1, 0, 0), (1089, .iadd, 0, 0), (1090, .iaload, 0, 0), (1091, .aload_n 0, 0, 0), (1092, .iload_n 3, 0, 0), (1093, .iconst 2, 0, 0), (1094, .iadd, 0, 0), (1095, .iaload, 0, 0), (1096, .aload_n 0, 0, 0), (1097, .iload_n 3, 0, 0), (1098, .iconst 3, 0, 0), (1099, .iadd, 0, 0), (1100, .iaload, 0, 0), (1101, .aload_n 0, 0, 0), (1102, .iload_n 3, 0, 0), (1103, .iconst 4, 0, 0)], [(1104, .iadd, 0, 0), (1105, .iaload, 0, 0), (1106, .invokevirtual 133, 122, 1), (1109, .aload_n 2, 0, 0), (1110, .aload_n 0, 0, 0), (1111, .iload_n 3, 0, 0), (1112, .iconst 1, 0, 0), (1113, .iadd, 0, 0), (1114, .iaload, 0, 0), (1115, .aload_n 0, 0, 0), (1116, .iload_n 3, 0, 0), (1117, .iconst 2, 0, 0), (1118, .iadd, 0, 0), (1119, .iaload, 0, 0)], [(1120, .aload_n 0, 0, 0), (1121, .iload_n 3, 0, 0), (1122, .iconst 3, 0, 0), (1123, .iadd, 0, 0), (1124, .iaload, 0, 0), (1125, .aload_n 0, 0, 0), (1126, .iload_n 3, 0, 0), (1127, .iconst 4, 0, 0), (1128, .iadd, 0, 0), (1129, .iaload, 0, 0), (1130, .invokevirtual 137, 200, 1), (1133, .if_icmp .eq 38, 1171, 0)], [(1136, .iconst 0, 0, 0), (1137, .ireturn, 0, 0), (1138, .aload_n 1, 0, 0), (1139, .aload_n 0, 0, 0), (1140, .iload_n 3, 0, 0), (1141, .iconst 1, 0, 0), (1142, .iadd, 0, 0), (1143, .iaload, 0, 0), (1144, .aload_n 0, 0, 0), (1145, .iload_n 3, 0, 0), (1146, .iconst 2, 0, 0), (1147, .iadd, 0, 0), (1148, .iaload, 0, 0), (1149, .invokevirtual 138, 123, 1)]]
def mx_t214_9 : List (List (Nat × mx_I)) := [[(1152, .aload_n 2, 0, 0), (1153, .aload_n 0, 0, 0), (1154, .iload_n 3, 0, 0), (1155, .iconst 1, 0, 0), (1156, .iadd, 0, 0), (1157, .iaload, 0, 0), (1158, .aload_n 0, 0, 0), (1159, .iload_n 3, 0, 0), (1160, .iconst 2, 0, 0), (1161, .iadd, 0, 0), (1162, .iaload, 0, 0), (1163, .invokevirtual 141, 201, 1), (1166, .if_icmp .eq 5, 1171, 0)], [(1169, .iconst 0, 0, 0), (1170, .ireturn, 0, 0), (1171, .iinc 3 6, 0, 0), (1174, .goto (-1156), 18, 0), (1177, .iconst 1, 0, 0), (1178, .ireturn, 0, 0)]]
def mx_t214 : List (List (List (Nat × mx_I))) := [mx_t214_0, mx_t214_1, mx_t214_2, mx_t214_3, mx_t214_4, mx_t214_5, mx_t214_6, mx_t214_7, mx_t214_8, mx_t214_9]
def mx_T_0 : List (List (List (List (Nat × mx_I)))) := [mx_t0, mx_t1, mx_t2, mx_t3, mx_t4, mx_t5, mx_t6, mx_t7, mx_t8, mx_t9, mx_t10, mx_t11, mx_t12, mx_t13, mx_t14, mx_t15, mx_t16, mx_t17, mx_t18, mx_t19, mx_t20, mx_t21, mx_t22, mx_t23, mx_t24, mx_t25, mx_t26, mx_t27, mx_t28, mx_t29, mx_t30, mx_t31]
def mx_T_1 : List (List (List (List (Nat × mx_I)))) := [mx_t32, mx_t33, mx_t34, mx_t35, mx_t36, mx_t37, mx_t38, mx_t39, mx_t40, mx_t41, mx_t42, mx_t43, mx_t44, mx_t45, mx_t46, mx_t47, mx_t48, mx_t49, mx_t50, mx_t51, mx_t52, mx_t53, mx_t54, mx_t55, mx_t56, mx_t57, mx_t58, mx_t59, mx_t60, mx_t61, mx_t62, mx_t63]
def mx_T_2 : List (List (List (List (Nat × mx_I)))) := [mx_t64, mx_t65, mx_t66, mx_t67, mx_t68, mx_t69, mx_t70, mx_t71, mx_t72, mx_t73, mx_t74, mx_t75, mx_t76, mx_t77, mx_t78, mx_t79, mx_t80, mx_t81, mx_t82, mx_t83, mx_t84, mx_t85, mx_t86, mx_t87, mx_t88, mx_t89, mx_t90, mx_t91, mx_t92, mx_t93, mx_t94, mx_t95]
def mx_T_3 : List (List (List (List (Nat × mx_I)))) := [mx_t96, mx_t97, mx_t98, mx_t99, mx_t100, mx_t101, mx_t102, mx_t103, mx_t104, mx_t105, mx_t106, mx_t107, mx_t108, mx_t109, mx_t110, mx_t111, mx_t112, mx_t113, mx_t114, mx_t115, mx_t116, mx_t117, mx_t118, mx_t119, mx_t120, mx_t121, mx_t122, mx_t123, mx_t124, mx_t125, mx_t126, mx_t127]
def mx_T_4 : List (List (List (List (Nat × mx_I)))) := [mx_t128, mx_t129, mx_t130, mx_t131, mx_t132, mx_t133, mx_t134, mx_t135, mx_t136, mx_t137, mx_t138, mx_t139, mx_t140, mx_t141, mx_t142, mx_t143, mx_t144, mx_t145, mx_t146, mx_t147, mx_t148, mx_t149, mx_t150, mx_t151, mx_t152, mx_t153, mx_t154, mx_t155, mx_t156, mx_t157, mx_t158, mx_t159]
def mx_T_5 : List (List (List (List (Nat × mx_I)))) := [mx_t160, mx_t161, mx_t162, mx_t163, mx_t164, mx_t165, mx_t166, mx_t167, mx_t168, mx_t169, mx_t170, mx_t171, mx_t172, mx_t173, mx_t174, mx_t175, mx_t176, mx_t177, mx_t178, mx_t179, mx_t180, mx_t181, mx_t182, mx_t183, mx_t184, mx_t185, mx_t186, mx_t187, mx_t188, mx_t189, mx_t190, mx_t191]
def mx_T_6 : List (List (List (List (Nat × mx_I)))) := [mx_t192, mx_t193, mx_t194, mx_t195, mx_t196, mx_t197, mx_t198, mx_t199, mx_t200, mx_t201, mx_t202, mx_t203, mx_t204, mx_t205, mx_t206, mx_t207, mx_t208, mx_t209, mx_t210, mx_t211, mx_t212, mx_t213, mx_t214]
def mx_T : List (List (List (List (List (Nat × mx_I))))) := [mx_T_0, mx_T_1, mx_T_2, mx_T_3, mx_T_4, mx_T_5, mx_T_6]
def mx_tt (k : Nat) : List (List (List (Nat × mx_I))) := (mx_T.getD (k / 32) []).getD (k % 32) []
def mx_tb (k pc : Nat) : Option mx_I := (((mx_tt k).getD (pc / 128) []).getD (pc % 128 / 16) []).lookup pc
def mx_lk0 : List (Nat × Nat × Nat × Int) := [(3, 27, 0, 0), (9, 0, 0, 0), (15, 0, 1, 0), (18, 7, 2, 0), (18, 8, 3, 0), (20, 0, 2, 0), (24, 6, 14, 0), (25, 23, 0, 0), (31, 1, 15, 0), (35, 0, 3, 0), (39, 0, 4, 0), (42, 0, 5, 0), (45, 0, 200, 0), (48, 0, 201, 0), (51, 0, 202, 0), (54, 0, 203, 0), (57, 4, 126, 0), (61, 1, 7, 0), (65, 3, 213, 0), (71, 4, 128, 0), (75, 4, 129, 0), (79, 4, 127, 0), (83, 0, 502, 0), (86, 1, 59, 0)]
def mx_lk1 : List (Nat × Nat × Nat × Int) := [(3, 27, 0, 0), (9, 0, 100, 0), (15, 0, 101, 0), (18, 0, 202, 0), (23, 1, 10, 0), (29, 1, 49, 0), (35, 1, 50, 0), (38, 4, 128, 0)]
def mx_lk2 : List (Nat × Nat × Nat × Int) := [(3, 27, 0, 0), (9, 0, 200, 0), (15, 0, 201, 0), (18, 0, 202, 0), (21, 0, 203, 0), (24, 21, 0, 0)]
def mx_lk3 : List (Nat × Nat × Nat × Int) := [(3, 27, 0, 0), (9, 0, 300, 0), (15, 0, 302, 0), (18, 0, 303, 0), (21, 0, 306, 0), (24, 0, 308, 0), (27, 0, 309, 0), (31, 0, 301, 0), (34, 0, 307, 0), (37, 4, 130, 0), (41, 23, 0, 0), (47, 7, 6, 0), (49, 24, 0, 0), (50, 12, 0, 0), (54, 5, 62, 0), (57, 1, 23, 0), (60, 0, 304, 0), (63, 0, 305, 0), (66, 1, 35, 0), (70, 1, 39, 0), (73, 1, 25, 0), (77, 1, 26, 0), (80, 1, 29, 0), (84, 1, 24, 0), (87, 3, 27, 0), (91, 3, 28, 0), (94, 1, 31, 0), (97, 1, 30, 0), (100, 11, 2, 0), (102, 1, 32, 0), (106, 11, 3, 0), (108, 11, 4, 0), (110, 11, 5, 0), (112, 11, 6, 0), (114, 11, 7, 0), (116, 11, 8, 0), (118, 11, 9, 0), (120, 11, 10, 0), (122, 11, 11, 0), (124, 11, 12, 0), (126, 11, 13, 0), (128, 25, 0, 0), (133, 26, 0, 0), (137, 1, 33, 0), (140, 1, 34, 0), (143, 1, 40, 0), (146, 3, 38, 0), (149, 1, 36, 0), (152, 1, 41, 0), (155, 1, 42, 0), (158, 1, 37, 0)]
def mx_lk4 : List (Nat × Nat × Nat × Int) := [(3, 27, 0, 0), (9, 8, 4, 0), (11, 0, 400, 0), (17, 0, 402, 0), (21, 0, 403, 0), (24, 0, 404, 0), (27, 0, 401, 0), (31, 1, 4, 0), (37, 0, 201, 0), (42, 1, 53, 0), (46, 0, 5, 0), (49, 1, 54, 0), (53, 4, 130, 0), (57, 1, 16, 0), (60, 1, 17, 0), (63, 4, 126, 0), (67, 0, 0, 0), (70, 0, 202, 0), (73, 4, 127, 0), (76, 1, 46, 0), (80, 1, 47, 0), (83, 0, 203, 0), (86, 21, 0, 0), (91, 1, 48, 0), (95, 0, 4, 0), (98, 0, 1, 0), (101, 4, 128, 0), (105, 1, 9, 0), (108, 1, 45, 0), (112, 0, 601, 0), (115, 20, 0, 0), (118, 0, 600, 0), (121, 3, 55, 0)]
def mx_lk5 : List (Nat × Nat × Nat × Int) := [(3, 27, 0, 0), (9, 0, 500, 0), (15, 0, 501, 0), (19, 4, 130, 0), (23, 0, 502, 0), (26, 1, 59, 0), (30, 4, 126, 0), (34, 4, 129, 0), (38, 4, 128, 0)]
def mx_lk6 : List (Nat × Nat × Nat × Int) := [(1, 27, 0, 0), (7, 0, 600, 0), (13, 0, 601, 0)]
def mx_lk7 : List (Nat × Nat × Nat × Int) := [(3, 27, 0, 0), (9, 0, 700, 0), (15, 0, 702, 0), (18, 0, 703, 0), (21, 0, 704, 0), (24, 0, 701, 0), (28, 1, 5, 0), (34, 1, 66, 0), (38, 1, 75, 0), (42, 0, 705, 0), (45, 0, 706, 0), (48, 0, 202, 0), (53, 1, 73, 0), (57, 4, 127, 0), (60, 1, 74, 0), (63, 1, 46, 0), (69, 9, 0, 1000000), (70, 21, 0, 0), (75, 0, 3, 0), (78, 1, 68, 0), (82, 3, 212, 0), (87, 1, 69, 0), (90, 1, 71, 0), (94, 1, 2, 0), (98, 1, 49, 0), (101, 1, 70, 0)]
def mx_lk8 : List (Nat × Nat × Nat × Int) := [(1, 27, 0, 0), (7, 7, 0, 0), (9, 5, 0, 0), (10, 0, 800, 0), (16, 0, 801, 0), (19, 0, 802, 0), (22, 0, 803, 0), (26, 7, 3, 0), (28, 6, 18, 0), (29, 0, 804, 0), (33, 7, 4, 0), (35, 6, 43, 0), (36, 0, 805, 0), (40, 7, 1, 0), (42, 6, 12, 0), (43, 0, 806, 0), (47, 7, 7, 0), (49, 6, 63, 0), (50, 0, 807, 0), (54, 7, 5, 0), (54, 8, 5, 0), (56, 0, 808, 0), (60, 6, 56, 0), (61, 11, 1, 0), (63, 25, 0, 0), (69, 26, 0, 0), (73, 1, 19, 0), (77, 1, 22, 0), (80, 1, 21, 0), (84, 1, 44, 0), (88, 1, 20, 0), (91, 1, 80, 0), (95, 3, 78, 0), (98, 1, 2, 0), (102, 0, 4, 0), (106, 3, 126, 0), (110, 0, 0, 0), (114, 0, 1, 0), (117, 0, 201, 0), (122, 0, 202, 0), (125, 1, 3, 0), (129, 1, 4, 0), (132, 0, 200, 0), (135, 0, 203, 0), (138, 1, 46, 0), (142, 1, 47, 0), (145, 3, 127, 0), (148, 1, 49, 0), (151, 0, 401, 0), (154, 0, 309, 0), (157, 1, 45, 0), (161, 0, 5, 0), (164, 1, 51, 0), (168, 1, 6, 0), (171, 1, 50, 0), (174, 1, 13, 0), (178, 0, 101, 0), (181, 1, 1, 0), (185, 0, 100, 0), (188, 1, 7, 0), (192, 3, 93, 0), (196, 10, 0, (-4611686018427387904)), (198, 1, 52, 0), (202, 3, 91, 0), (206, 3, 92, 0), (209, 1, 95, 0), (212, 1, 96, 0), (215, 1, 8, 0), (218, 3, 129, 0), (222, 10, 0, (-1)), (224, 3, 213, 0), (229, 20, 0, 0), (234, 3, 128, 0), (238, 3, 94, 0), (242, 10, 0, (-34905131041)), (244, 10, 0, (-1090785346)), (246, 1, 125, 0), (250, 1, 57, 0), (254, 1, 61, 0), (257, 0, 502, 0), (260, 1, 59, 0), (263, 1, 64, 0), (267, 1, 65, 0), (271, 0, 705, 0), (274, 0, 706, 0), (277, 1, 67, 0), (281, 1, 72, 0), (284, 1, 5, 0), (287, 3, 102, 0), (291, 3, 103, 0), (294, 1, 105, 0), (298, 1, 106, 0), (301, 1, 107, 0), (304, 1, 108, 0), (307, 1, 109, 0), (310, 1, 110, 0), (313, 1, 111, 0), (317, 1, 11, 0), (321, 1, 58, 0), (324, 1, 60, 0), (327, 3, 114, 0), (330, 9, 0, 1103515245), (331, 0, 3, 0), (332, 0, 301, 0), (333, 0, 501, 0), (336, 0, 500, 0), (339, 23, 0, 0), (345, 1, 79, 0), (348, 3, 124, 0), (351, 22, 0, 0), (354, 21, 0, 0)]
def mx_lk9 : List (Nat × Nat × Nat × Int) := [(1, 27, 0, 0), (7, 0, 900, 0), (13, 0, 901, 0), (16, 0, 902, 0), (19, 0, 904, 0), (22, 0, 910, 0), (25, 0, 911, 0), (28, 1, 146, 0), (32, 0, 912, 0), (36, 0, 914, 0), (40, 0, 915, 0), (43, 0, 917, 0), (46, 0, 921, 0), (49, 0, 922, 0), (53, 0, 924, 0), (56, 0, 925, 0), (59, 0, 929, 0), (62, 0, 930, 0), (65, 0, 931, 0), (68, 0, 932, 0), (71, 0, 933, 0), (74, 0, 934, 0), (77, 0, 935, 0), (80, 21, 0, 0), (86, 20, 0, 0), (89, 3, 132, 0), (93, 22, 0, 0), (97, 3, 138, 0), (101, 1, 137, 0), (104, 1, 142, 0), (107, 1, 136, 0), (110, 0, 905, 0), (113, 0, 906, 0), (116, 0, 907, 0), (119, 1, 148, 0), (122, 0, 908, 0), (125, 0, 913, 0), (128, 0, 916, 0), (131, 3, 153, 0), (134, 1, 155, 0), (137, 1, 152, 0), (141, 0, 909, 0), (144, 1, 150, 0), (147, 1, 151, 0), (150, 1, 158, 0), (153, 1, 154, 0), (156, 1, 159, 0), (159, 1, 149, 0), (162, 1, 156, 0), (165, 1, 157, 0), (168, 1, 160, 0), (172, 1, 161, 0), (175, 3, 164, 0), (179, 0, 920, 0), (182, 1, 167, 0), (185, 0, 919, 0), (188, 3, 165, 0), (192, 3, 140, 0), (195, 1, 139, 0), (198, 0, 918, 0), (201, 1, 166, 0), (204, 3, 133, 0), (207, 1, 168, 0), (210, 1, 141, 0), (212, 1, 169, 0), (215, 1, 170, 0), (218, 1, 171, 0), (221, 1, 173, 0), (224, 1, 174, 0), (227, 1, 176, 0), (230, 1, 178, 0), (233, 0, 923, 0), (236, 1, 179, 0), (239, 1, 134, 0), (243, 1, 135, 0), (246, 1, 182, 0), (250, 10, 0, (-4611686018427387904)), (252, 1, 185, 0), (255, 1, 184, 0), (258, 3, 213, 0), (264, 3, 196, 0), (267, 0, 926, 0), (270, 0, 927, 0), (273, 0, 928, 0), (276, 1, 189, 0), (280, 1, 188, 0), (285, 9, 0, 2147483647), (286, 1, 191, 0), (289, 3, 194, 0), (293, 1, 144, 0), (296, 1, 202, 0), (299, 1, 203, 0), (303, 1, 204, 0), (307, 1, 197, 0), (310, 9, 0, 1103515245), (311, 1, 207, 0), (314, 0, 903, 0)]
def mx_lk10 : List (Nat × Nat × Nat × Int) := [(7, 7, 8, 0), (9, 5, 76, 0), (10, 7, 9, 0), (12, 5, 131, 0), (13, 1, 77, 0), (17, 1, 143, 0), (18, 1, 79, 0), (21, 1, 144, 0), (22, 1, 80, 0), (26, 1, 145, 0), (27, 1, 81, 0), (30, 1, 172, 0), (31, 1, 82, 0), (35, 1, 147, 0), (36, 1, 83, 0), (40, 1, 162, 0), (41, 1, 84, 0), (44, 1, 163, 0), (45, 1, 85, 0), (48, 1, 175, 0), (49, 1, 86, 0), (52, 1, 177, 0), (53, 1, 87, 0), (56, 1, 180, 0), (57, 1, 88, 0), (60, 1, 181, 0), (61, 1, 89, 0), (65, 1, 183, 0), (66, 1, 90, 0), (69, 1, 186, 0), (70, 1, 97, 0), (73, 1, 187, 0), (74, 1, 98, 0), (77, 1, 190, 0), (78, 1, 99, 0), (81, 1, 192, 0), (82, 1, 100, 0), (85, 1, 193, 0), (86, 1, 101, 0), (90, 1, 195, 0), (91, 1, 104, 0), (94, 1, 205, 0), (95, 1, 112, 0), (98, 1, 206, 0), (99, 1, 113, 0), (102, 1, 207, 0), (103, 1, 115, 0), (107, 1, 208, 0), (108, 1, 116, 0), (111, 1, 209, 0), (112, 1, 117, 0), (115, 1, 210, 0), (116, 1, 118, 0), (119, 1, 211, 0), (120, 1, 119, 0), (123, 1, 197, 0), (124, 1, 120, 0), (127, 1, 198, 0), (128, 1, 121, 0), (132, 1, 199, 0), (133, 1, 122, 0), (137, 1, 200, 0), (138, 1, 123, 0), (141, 1, 201, 0)]
def mx_lk11 : List (Nat × Nat × Nat × Int) := [(265, 9, 0, 1431655765), (266, 9, 0, 858993459), (267, 9, 0, 252645135)]
def mx_lk12 : List (Nat × Nat × Nat × Int) := [(314, 10, 0, 6148914691236517205), (316, 10, 0, 3689348814741910323), (318, 10, 0, 1085102592571150095)]
def mx_lkl : List (List (Nat × Nat × Nat × Int)) := [mx_lk0, mx_lk1, mx_lk2, mx_lk3, mx_lk4, mx_lk5, mx_lk6, mx_lk7, mx_lk8, mx_lk9, mx_lk10, mx_lk11, mx_lk12]
def mx_lk (c : Nat) : List (Nat × Nat × Nat × Int) := mx_lkl.getD c []
end
section
/-! ===== what the tables say of the links and of the methods ===== -/
def mx_ts : List Cond := lw_tbl.filter goodWord
theorem mx_in {w : Cond} (i : Nat) (h : lw_tbl[i]? = some w) (g : goodWord w = true) : w ∈ mx_ts := List.mem_filter.mpr ⟨List.mem_of_getElem? h, g⟩
def mx_okM (k : Nat) : Prop := (mx_my k).cls = mx_cn (mx_mc k) ∧ plainName (mx_my k).cls = true ∧ ((mx_my k).cls ≠ "java/lang/invoke/MethodHandle" ∧ (mx_my k).cls ≠ "java/lang/invoke/VarHandle") ∧ (parseMethodDescriptor (mx_my k).desc).map (fun d => d.parameters.length) = some (mx_np k) ∧ Cond.code (mx_my k) (mx_mb k) (mx_ml k) (mx_mr k) ∈ mx_ts ∧ Cond.initialized (mx_my k).cls ∈ mx_ts ∧ mx_ml k ≤ 20
def mx_okL (c : Nat) (q : Nat × Nat × Nat × Int) : Prop := match q with
  | (idx, 0, a, _) => ∃ r : vw_C, mx_cl[a / 100]? = some r ∧ a % 100 < r.2.2 ∧ r.1 = (r.2.1 (a % 100)).1 ∧ Cond.fieldLink (mx_cn c) idx (r.2.1 (a % 100)).1 (r.2.1 (a % 100)).2.1 (r.2.1 (a % 100)).2.2.1 ∈ mx_ts
  | (idx, 1, a, _) => a < 214 ∧ Cond.methodLink (mx_cn c) idx (mx_my a) ∈ mx_ts ∧ Cond.instanceMethod (mx_my a) ∈ mx_ts ∧ Cond.selects (mx_my a).cls (mx_my a) (mx_my a) ∈ mx_ts
  | (idx, 3, a, _) => a < 214 ∧ Cond.methodLink (mx_cn c) idx (mx_my a) ∈ mx_ts ∧ Cond.static (mx_my a) ∈ mx_ts
  | (idx, 4, a, _) => a < 214 ∧ (mx_cn c, idx, mx_my a) ∈ mx_nst ∧ Cond.static (mx_my a) ∈ mx_ts
  | (idx, 5, a, _) => a < 214 ∧ Cond.methodLink (mx_cn c) idx (mx_my a) ∈ mx_ts ∧ Cond.instanceMethod (mx_my a) ∈ mx_ts ∧ (mx_my a).name = "<init>"
  | (idx, 6, a, _) => a < 214 ∧ (mx_cn c, idx, mx_my a) ∈ mx_nst ∧ Cond.instanceMethod (mx_my a) ∈ mx_ts ∧ (mx_my a).name = "<init>"
  | (idx, 7, a, _) => ∃ r : vw_C, mx_cl[a]? = some r ∧ Cond.classLink (mx_cn c) idx r.1 ∈ mx_ts ∧ Cond.instantiable r.1 r.2.2 ∈ mx_ts ∧ Cond.initialized r.1 ∈ mx_ts
  | (idx, 8, a, _) => ∃ r : vw_C, mx_cl[mx_el a]? = some r ∧ 3 ≤ a ∧ a ≤ 5 ∧ Cond.classLink (mx_cn c) idx r.1 ∈ mx_ts
  | (idx, 9, _, v) => Cond.constant (mx_cn c) idx (Int32.ofInt v) ∈ mx_ts
  | (idx, 10, _, v) => Cond.constantLong (mx_cn c) idx (Int64.ofInt v) ∈ mx_ts
  | (idx, 11, a, _) => ∃ q : String × Nat × String, mx_strs[a - 1]? = some q ∧ 0 < a ∧ q.1 = mx_cn c ∧ q.2.1 = idx
  | (idx, 12, _, _) => Cond.classLink (mx_cn c) idx "[I" ∈ mx_ts
  | (idx, 20, _, _) => Cond.methodLink (mx_cn c) idx Lib.Math.max.name ∈ mx_ts
  | (idx, 21, _, _) => Cond.methodLink (mx_cn c) idx Lib.Math.min.name ∈ mx_ts
  | (idx, 22, _, _) => Cond.methodLink (mx_cn c) idx Lib.Math.abs.name ∈ mx_ts
  | (idx, 23, _, _) => Cond.methodLink (mx_cn c) idx arraycopyName ∈ mx_ts
  | (idx, 24, _, _) => Cond.methodLink (mx_cn c) idx ⟨"[I", "clone", "()Ljava/lang/Object;"⟩ ∈ mx_ts
  | (idx, 25, _, _) => Cond.methodLink (mx_cn c) idx ⟨"java/lang/String", "length", "()I"⟩ ∈ mx_ts
  | (idx, 26, _, _) => Cond.methodLink (mx_cn c) idx ⟨"java/lang/String", "charAt", "(I)C"⟩ ∈ mx_ts
  | (idx, 27, _, _) => Cond.methodLink (mx_cn c) idx objectInit ∈ mx_ts
  | _ => False
def mx_dl (ins : Jvm.ClassFile.Instr) (a : Nat) : Nat := match ins with
  | .tableswitch _ _ _ _ => a
  | .lookupswitch _ _ => a
  | i => mx_len i
def mx_has (k : Nat) (q : Nat × Nat × Nat × Int) : Bool := (mx_lk (mx_mc k)).contains q
def mx_lkd (k pc : Nat) (ins : Jvm.ClassFile.Instr) (a : Nat) (v : Int) : Bool := match ins with
  | .getfield i => mx_has k (i, 0, a, 0)
  | .putfield i => mx_has k (i, 0, a, 0) && (!(mx_fin a) || (decide ((mx_my k).name = "<init>") && decide (a / 100 = mx_mc k)))
  | .invokevirtual i => mx_has k (i, v.toNat, a, 0) && [1, 24, 25, 26].contains v.toNat
  | .invokestatic i => mx_has k (i, v.toNat, a, 0) && [3, 4, 20, 21, 22, 23].contains v.toNat
  | .invokespecial i => mx_has k (i, v.toNat, a, 0) && [5, 6, 27].contains v.toNat
  | .new i => mx_has k (i, 7, a, 0)
  | .anewarray i => mx_has k (i, 8, a, 0)
  | .checkcast i => mx_has k (i, 12, 0, 0)
  | .ldc i => if a = 0 then mx_has k (i, 9, 0, v) else mx_has k (i, 11, a, 0)
  | .ldc_w i => decide (a = 0) && mx_has k (i, 9, 0, v)
  | .ldc2_w i => mx_has k (i, 10, 0, v)
  | .goto o => decide ((pc : Int) + o = (a : Int))
  | .ifCond _ o => decide ((pc : Int) + o = (a : Int))
  | .if_icmp _ o => decide ((pc : Int) + o = (a : Int))
  | .ifnull o => decide ((pc : Int) + o = (a : Int))
  | .ifnonnull o => decide ((pc : Int) + o = (a : Int))
  | .lookupswitch _ ps => (ps.toList.zip (ps.toList.drop 1)).all (fun (a, next) => a.1 < next.1)
  | _ => true
def mx_chk (k : Nat) (e : Nat × mx_I) : Bool := decide (decode (mx_mb k) e.1 = .ok (e.2.1, mx_dl e.2.1 e.2.2.1)) && mx_lkd k e.1 e.2.1 e.2.2.1 e.2.2.2
def mx_chkA (k : Nat) : Prop := (mx_tt k).all (fun a => a.all (fun b => b.all (mx_chk k))) = true
theorem mx_lookup_mem {α : Type} {pc : Nat} {e : α} : ∀ {l : List (Nat × α)}, l.lookup pc = some e → (pc, e) ∈ l
  | [], h => by simp at h
  | (a, b) :: t, h => by
    by_cases hp : pc = a
    · subst hp
      simp at h
      subst h
      exact List.mem_cons_self
    · have h2 : t.lookup pc = some e := by
        have hb : (pc == a) = false := by simpa using hp
        simpa [List.lookup, hb] using h
      exact List.mem_cons_of_mem _ (mx_lookup_mem h2)
theorem mx_getD_mem {α : Type} {l : List (List α)} {i : Nat} {x : α} (h : x ∈ l.getD i []) : l.getD i [] ∈ l := by
  by_cases hi : i < l.length
  · rw [List.getD_eq_getElem?_getD, List.getElem?_eq_getElem hi]
    exact List.getElem_mem hi
  · rw [List.getD_eq_getElem?_getD, List.getElem?_eq_none (by omega)] at h
    simp at h
theorem mx_tb_chk {k pc : Nat} {e : mx_I} (hc : mx_chkA k) (h : mx_tb k pc = some e) : mx_chk k (pc, e) = true := by
  have h1 := mx_lookup_mem h
  have h2 := mx_getD_mem h1
  have h3 := mx_getD_mem h2
  have e1 := List.all_eq_true.mp (List.all_eq_true.mp hc _ h3) _ h2
  exact List.all_eq_true.mp e1 _ h1
set_option maxRecDepth 100000 in
theorem mx_okm0 : mx_okM 0 := ⟨rfl, by decide +kernel, ⟨by decide +kernel, by decide +kernel⟩, by decide +kernel, mx_in 109 rfl rfl, mx_in 80 rfl rfl, by decide +kernel⟩
set_option maxRecDepth 100000 in
theorem mx_okm1 : mx_okM 1 := ⟨rfl, by decide +kernel, ⟨by decide +kernel, by decide +kernel⟩, by decide +kernel, mx_in 694 rfl rfl, mx_in 80 rfl rfl, by decide +kernel⟩
set_option maxRecDepth 100000 in
theorem mx_okm2 : mx_okM 2 := ⟨rfl, by decide +kernel, ⟨by decide +kernel, by decide +kernel⟩, by decide +kernel, mx_in 546 rfl rfl, mx_in 80 rfl rfl, by decide +kernel⟩
set_option maxRecDepth 100000 in
theorem mx_okm3 : mx_okM 3 := ⟨rfl, by decide +kernel, ⟨by decide +kernel, by decide +kernel⟩, by decide +kernel, mx_in 557 rfl rfl, mx_in 80 rfl rfl, by decide +kernel⟩
set_option maxRecDepth 100000 in
theorem mx_okm4 : mx_okM 4 := ⟨rfl, by decide +kernel, ⟨by decide +kernel, by decide +kernel⟩, by decide +kernel, mx_in 541 rfl rfl, mx_in 80 rfl rfl, by decide +kernel⟩
set_option maxRecDepth 100000 in
theorem mx_okm5 : mx_okM 5 := ⟨rfl, by decide +kernel, ⟨by decide +kernel, by decide +kernel⟩, by decide +kernel, mx_in 779 rfl rfl, mx_in 80 rfl rfl, by decide +kernel⟩
set_option maxRecDepth 100000 in
theorem mx_okm6 : mx_okM 6 := ⟨rfl, by decide +kernel, ⟨by decide +kernel, by decide +kernel⟩, by decide +kernel, mx_in 643 rfl rfl, mx_in 80 rfl rfl, by decide +kernel⟩
set_option maxRecDepth 100000 in
theorem mx_okm7 : mx_okM 7 := ⟨rfl, by decide +kernel, ⟨by decide +kernel, by decide +kernel⟩, by decide +kernel, mx_in 647 rfl rfl, mx_in 80 rfl rfl, by decide +kernel⟩
set_option maxRecDepth 100000 in
theorem mx_okm8 : mx_okM 8 := ⟨rfl, by decide +kernel, ⟨by decide +kernel, by decide +kernel⟩, by decide +kernel, mx_in 743 rfl rfl, mx_in 80 rfl rfl, by decide +kernel⟩
set_option maxRecDepth 100000 in
theorem mx_okm9 : mx_okM 9 := ⟨rfl, by decide +kernel, ⟨by decide +kernel, by decide +kernel⟩, by decide +kernel, mx_in 575 rfl rfl, mx_in 80 rfl rfl, by decide +kernel⟩
set_option maxRecDepth 100000 in
theorem mx_okm10 : mx_okM 10 := ⟨rfl, by decide +kernel, ⟨by decide +kernel, by decide +kernel⟩, by decide +kernel, mx_in 678 rfl rfl, mx_in 80 rfl rfl, by decide +kernel⟩
set_option maxRecDepth 100000 in
theorem mx_okm11 : mx_okM 11 := ⟨rfl, by decide +kernel, ⟨by decide +kernel, by decide +kernel⟩, by decide +kernel, mx_in 890 rfl rfl, mx_in 80 rfl rfl, by decide +kernel⟩
set_option maxRecDepth 100000 in
theorem mx_okm12 : mx_okM 12 := ⟨rfl, by decide +kernel, ⟨by decide +kernel, by decide +kernel⟩, by decide +kernel, mx_in 242 rfl rfl, mx_in 84 rfl rfl, by decide +kernel⟩
set_option maxRecDepth 100000 in
theorem mx_okm13 : mx_okM 13 := ⟨rfl, by decide +kernel, ⟨by decide +kernel, by decide +kernel⟩, by decide +kernel, mx_in 674 rfl rfl, mx_in 84 rfl rfl, by decide +kernel⟩
set_option maxRecDepth 100000 in
theorem mx_okm14 : mx_okM 14 := ⟨rfl, by decide +kernel, ⟨by decide +kernel, by decide +kernel⟩, by decide +kernel, mx_in 116 rfl rfl, mx_in 81 rfl rfl, by decide +kernel⟩
set_option maxRecDepth 100000 in
theorem mx_okm15 : mx_okM 15 := ⟨rfl, by decide +kernel, ⟨by decide +kernel, by decide +kernel⟩, by decide +kernel, mx_in 699 rfl rfl, mx_in 81 rfl rfl, by decide +kernel⟩
set_option maxRecDepth 100000 in
theorem mx_okm16 : mx_okM 16 := ⟨rfl, by decide +kernel, ⟨by decide +kernel, by decide +kernel⟩, by decide +kernel, mx_in 592 rfl rfl, mx_in 81 rfl rfl, by decide +kernel⟩
set_option maxRecDepth 100000 in
theorem mx_okm17 : mx_okM 17 := ⟨rfl, by decide +kernel, ⟨by decide +kernel, by decide +kernel⟩, by decide +kernel, mx_in 600 rfl rfl, mx_in 81 rfl rfl, by decide +kernel⟩
set_option maxRecDepth 100000 in
theorem mx_okm18 : mx_okM 18 := ⟨rfl, by decide +kernel, ⟨by decide +kernel, by decide +kernel⟩, by decide +kernel, mx_in 178 rfl rfl, mx_in 82 rfl rfl, by decide +kernel⟩
set_option maxRecDepth 100000 in
theorem mx_okm19 : mx_okM 19 := ⟨rfl, by decide +kernel, ⟨by decide +kernel, by decide +kernel⟩, by decide +kernel, mx_in 356 rfl rfl, mx_in 82 rfl rfl, by decide +kernel⟩
set_option maxRecDepth 100000 in
theorem mx_okm20 : mx_okM 20 := ⟨rfl, by decide +kernel, ⟨by decide +kernel, by decide +kernel⟩, by decide +kernel, mx_in 498 rfl rfl, mx_in 82 rfl rfl, by decide +kernel⟩
set_option maxRecDepth 100000 in
theorem mx_okm21 : mx_okM 21 := ⟨rfl, by decide +kernel, ⟨by decide +kernel, by decide +kernel⟩, by decide +kernel, mx_in 455 rfl rfl, mx_in 82 rfl rfl, by decide +kernel⟩
set_option maxRecDepth 100000 in
theorem mx_okm22 : mx_okM 22 := ⟨rfl, by decide +kernel, ⟨by decide +kernel, by decide +kernel⟩, by decide +kernel, mx_in 360 rfl rfl, mx_in 82 rfl rfl, by decide +kernel⟩
set_option maxRecDepth 100000 in
theorem mx_okm23 : mx_okM 23 := ⟨rfl, by decide +kernel, ⟨by decide +kernel, by decide +kernel⟩, by decide +kernel, mx_in 364 rfl rfl, mx_in 82 rfl rfl, by decide +kernel⟩
set_option maxRecDepth 100000 in
theorem mx_okm24 : mx_okM 24 := ⟨rfl, by decide +kernel, ⟨by decide +kernel, by decide +kernel⟩, by decide +kernel, mx_in 372 rfl rfl, mx_in 82 rfl rfl, by decide +kernel⟩
set_option maxRecDepth 100000 in
theorem mx_okm25 : mx_okM 25 := ⟨rfl, by decide +kernel, ⟨by decide +kernel, by decide +kernel⟩, by decide +kernel, mx_in 368 rfl rfl, mx_in 82 rfl rfl, by decide +kernel⟩
set_option maxRecDepth 100000 in
theorem mx_okm26 : mx_okM 26 := ⟨rfl, by decide +kernel, ⟨by decide +kernel, by decide +kernel⟩, by decide +kernel, mx_in 376 rfl rfl, mx_in 82 rfl rfl, by decide +kernel⟩
set_option maxRecDepth 100000 in
theorem mx_okm27 : mx_okM 27 := ⟨rfl, by decide +kernel, ⟨by decide +kernel, by decide +kernel⟩, by decide +kernel, mx_in 379 rfl rfl, mx_in 82 rfl rfl, by decide +kernel⟩
set_option maxRecDepth 100000 in
theorem mx_okm28 : mx_okM 28 := ⟨rfl, by decide +kernel, ⟨by decide +kernel, by decide +kernel⟩, by decide +kernel, mx_in 382 rfl rfl, mx_in 82 rfl rfl, by decide +kernel⟩
set_option maxRecDepth 100000 in
theorem mx_okm29 : mx_okM 29 := ⟨rfl, by decide +kernel, ⟨by decide +kernel, by decide +kernel⟩, by decide +kernel, mx_in 386 rfl rfl, mx_in 82 rfl rfl, by decide +kernel⟩
set_option maxRecDepth 100000 in
theorem mx_okm30 : mx_okM 30 := ⟨rfl, by decide +kernel, ⟨by decide +kernel, by decide +kernel⟩, by decide +kernel, mx_in 412 rfl rfl, mx_in 82 rfl rfl, by decide +kernel⟩
set_option maxRecDepth 100000 in
theorem mx_okm31 : mx_okM 31 := ⟨rfl, by decide +kernel, ⟨by decide +kernel, by decide +kernel⟩, by decide +kernel, mx_in 390 rfl rfl, mx_in 82 rfl rfl, by decide +kernel⟩
set_option maxRecDepth 100000 in
theorem mx_okm32 : mx_okM 32 := ⟨rfl, by decide +kernel, ⟨by decide +kernel, by decide +kernel⟩, by decide +kernel, mx_in 395 rfl rfl, mx_in 82 rfl rfl, by decide +kernel⟩
set_option maxRecDepth 100000 in
theorem mx_okm33 : mx_okM 33 := ⟨rfl, by decide +kernel, ⟨by decide +kernel, by decide +kernel⟩, by decide +kernel, mx_in 420 rfl rfl, mx_in 82 rfl rfl, by decide +kernel⟩
set_option maxRecDepth 100000 in
theorem mx_okm34 : mx_okM 34 := ⟨rfl, by decide +kernel, ⟨by decide +kernel, by decide +kernel⟩, by decide +kernel, mx_in 424 rfl rfl, mx_in 82 rfl rfl, by decide +kernel⟩
set_option maxRecDepth 100000 in
theorem mx_okm35 : mx_okM 35 := ⟨rfl, by decide +kernel, ⟨by decide +kernel, by decide +kernel⟩, by decide +kernel, mx_in 416 rfl rfl, mx_in 82 rfl rfl, by decide +kernel⟩
set_option maxRecDepth 100000 in
theorem mx_okm36 : mx_okM 36 := ⟨rfl, by decide +kernel, ⟨by decide +kernel, by decide +kernel⟩, by decide +kernel, mx_in 444 rfl rfl, mx_in 82 rfl rfl, by decide +kernel⟩
set_option maxRecDepth 100000 in
theorem mx_okm37 : mx_okM 37 := ⟨rfl, by decide +kernel, ⟨by decide +kernel, by decide +kernel⟩, by decide +kernel, mx_in 440 rfl rfl, mx_in 82 rfl rfl, by decide +kernel⟩
set_option maxRecDepth 100000 in
theorem mx_okm38 : mx_okM 38 := ⟨rfl, by decide +kernel, ⟨by decide +kernel, by decide +kernel⟩, by decide +kernel, mx_in 451 rfl rfl, mx_in 82 rfl rfl, by decide +kernel⟩
set_option maxRecDepth 100000 in
theorem mx_okm39 : mx_okM 39 := ⟨rfl, by decide +kernel, ⟨by decide +kernel, by decide +kernel⟩, by decide +kernel, mx_in 428 rfl rfl, mx_in 82 rfl rfl, by decide +kernel⟩
set_option maxRecDepth 100000 in
theorem mx_okm40 : mx_okM 40 := ⟨rfl, by decide +kernel, ⟨by decide +kernel, by decide +kernel⟩, by decide +kernel, mx_in 432 rfl rfl, mx_in 82 rfl rfl, by decide +kernel⟩
set_option maxRecDepth 100000 in
theorem mx_okm41 : mx_okM 41 := ⟨rfl, by decide +kernel, ⟨by decide +kernel, by decide +kernel⟩, by decide +kernel, mx_in 436 rfl rfl, mx_in 82 rfl rfl, by decide +kernel⟩
set_option maxRecDepth 100000 in
theorem mx_okm42 : mx_okM 42 := ⟨rfl, by decide +kernel, ⟨by decide +kernel, by decide +kernel⟩, by decide +kernel, mx_in 448 rfl rfl, mx_in 82 rfl rfl, by decide +kernel⟩
set_option maxRecDepth 100000 in
theorem mx_okm43 : mx_okM 43 := ⟨rfl, by decide +kernel, ⟨by decide +kernel, by decide +kernel⟩, by decide +kernel, mx_in 217 rfl rfl, mx_in 83 rfl rfl, by decide +kernel⟩
set_option maxRecDepth 100000 in
theorem mx_okm44 : mx_okM 44 := ⟨rfl, by decide +kernel, ⟨by decide +kernel, by decide +kernel⟩, by decide +kernel, mx_in 494 rfl rfl, mx_in 83 rfl rfl, by decide +kernel⟩
set_option maxRecDepth 100000 in
theorem mx_okm45 : mx_okM 45 := ⟨rfl, by decide +kernel, ⟨by decide +kernel, by decide +kernel⟩, by decide +kernel, mx_in 583 rfl rfl, mx_in 83 rfl rfl, by decide +kernel⟩
set_option maxRecDepth 100000 in
theorem mx_okm46 : mx_okM 46 := ⟨rfl, by decide +kernel, ⟨by decide +kernel, by decide +kernel⟩, by decide +kernel, mx_in 566 rfl rfl, mx_in 83 rfl rfl, by decide +kernel⟩
set_option maxRecDepth 100000 in
theorem mx_okm47 : mx_okM 47 := ⟨rfl, by decide +kernel, ⟨by decide +kernel, by decide +kernel⟩, by decide +kernel, mx_in 596 rfl rfl, mx_in 83 rfl rfl, by decide +kernel⟩
set_option maxRecDepth 100000 in
theorem mx_okm48 : mx_okM 48 := ⟨rfl, by decide +kernel, ⟨by decide +kernel, by decide +kernel⟩, by decide +kernel, mx_in 638 rfl rfl, mx_in 83 rfl rfl, by decide +kernel⟩
set_option maxRecDepth 100000 in
theorem mx_okm49 : mx_okM 49 := ⟨rfl, by decide +kernel, ⟨by decide +kernel, by decide +kernel⟩, by decide +kernel, mx_in 611 rfl rfl, mx_in 83 rfl rfl, by decide +kernel⟩
set_option maxRecDepth 100000 in
theorem mx_okm50 : mx_okM 50 := ⟨rfl, by decide +kernel, ⟨by decide +kernel, by decide +kernel⟩, by decide +kernel, mx_in 664 rfl rfl, mx_in 83 rfl rfl, by decide +kernel⟩
set_option maxRecDepth 100000 in
theorem mx_okm51 : mx_okM 51 := ⟨rfl, by decide +kernel, ⟨by decide +kernel, by decide +kernel⟩, by decide +kernel, mx_in 634 rfl rfl, mx_in 83 rfl rfl, by decide +kernel⟩
set_option maxRecDepth 100000 in
theorem mx_okm52 : mx_okM 52 := ⟨rfl, by decide +kernel, ⟨by decide +kernel, by decide +kernel⟩, by decide +kernel, mx_in 718 rfl rfl, mx_in 83 rfl rfl, by decide +kernel⟩
set_option maxRecDepth 100000 in
theorem mx_okm53 : mx_okM 53 := ⟨rfl, by decide +kernel, ⟨by decide +kernel, by decide +kernel⟩, by decide +kernel, mx_in 571 rfl rfl, mx_in 83 rfl rfl, by decide +kernel⟩
set_option maxRecDepth 100000 in
theorem mx_okm54 : mx_okM 54 := ⟨rfl, by decide +kernel, ⟨by decide +kernel, by decide +kernel⟩, by decide +kernel, mx_in 579 rfl rfl, mx_in 83 rfl rfl, by decide +kernel⟩
set_option maxRecDepth 100000 in
theorem mx_okm55 : mx_okM 55 := ⟨rfl, by decide +kernel, ⟨by decide +kernel, by decide +kernel⟩, by decide +kernel, mx_in 587 rfl rfl, mx_in 83 rfl rfl, by decide +kernel⟩
set_option maxRecDepth 100000 in
theorem mx_okm56 : mx_okM 56 := ⟨rfl, by decide +kernel, ⟨by decide +kernel, by decide +kernel⟩, by decide +kernel, mx_in 288 rfl rfl, mx_in 86 rfl rfl, by decide +kernel⟩
set_option maxRecDepth 100000 in
theorem mx_okm57 : mx_okM 57 := ⟨rfl, by decide +kernel, ⟨by decide +kernel, by decide +kernel⟩, by decide +kernel, mx_in 755 rfl rfl, mx_in 86 rfl rfl, by decide +kernel⟩
set_option maxRecDepth 100000 in
theorem mx_okm58 : mx_okM 58 := ⟨rfl, by decide +kernel, ⟨by decide +kernel, by decide +kernel⟩, by decide +kernel, mx_in 899 rfl rfl, mx_in 86 rfl rfl, by decide +kernel⟩
set_option maxRecDepth 100000 in
theorem mx_okm59 : mx_okM 59 := ⟨rfl, by decide +kernel, ⟨by decide +kernel, by decide +kernel⟩, by decide +kernel, mx_in 763 rfl rfl, mx_in 86 rfl rfl, by decide +kernel⟩
set_option maxRecDepth 100000 in
theorem mx_okm60 : mx_okM 60 := ⟨rfl, by decide +kernel, ⟨by decide +kernel, by decide +kernel⟩, by decide +kernel, mx_in 904 rfl rfl, mx_in 86 rfl rfl, by decide +kernel⟩
set_option maxRecDepth 100000 in
theorem mx_okm61 : mx_okM 61 := ⟨rfl, by decide +kernel, ⟨by decide +kernel, by decide +kernel⟩, by decide +kernel, mx_in 759 rfl rfl, mx_in 86 rfl rfl, by decide +kernel⟩
set_option maxRecDepth 100000 in
theorem mx_okm62 : mx_okM 62 := ⟨rfl, by decide +kernel, ⟨by decide +kernel, by decide +kernel⟩, by decide +kernel, mx_in 479 rfl rfl, mx_in 93 rfl rfl, by decide +kernel⟩
set_option maxRecDepth 100000 in
theorem mx_okm63 : mx_okM 63 := ⟨rfl, by decide +kernel, ⟨by decide +kernel, by decide +kernel⟩, by decide +kernel, mx_in 257 rfl rfl, mx_in 85 rfl rfl, by decide +kernel⟩
set_option maxRecDepth 100000 in
theorem mx_okm64 : mx_okM 64 := ⟨rfl, by decide +kernel, ⟨by decide +kernel, by decide +kernel⟩, by decide +kernel, mx_in 775 rfl rfl, mx_in 85 rfl rfl, by decide +kernel⟩
set_option maxRecDepth 100000 in
theorem mx_okm65 : mx_okM 65 := ⟨rfl, by decide +kernel, ⟨by decide +kernel, by decide +kernel⟩, by decide +kernel, mx_in 783 rfl rfl, mx_in 85 rfl rfl, by decide +kernel⟩
set_option maxRecDepth 100000 in
theorem mx_okm66 : mx_okM 66 := ⟨rfl, by decide +kernel, ⟨by decide +kernel, by decide +kernel⟩, by decide +kernel, mx_in 787 rfl rfl, mx_in 85 rfl rfl, by decide +kernel⟩
set_option maxRecDepth 100000 in
theorem mx_okm67 : mx_okM 67 := ⟨rfl, by decide +kernel, ⟨by decide +kernel, by decide +kernel⟩, by decide +kernel, mx_in 811 rfl rfl, mx_in 85 rfl rfl, by decide +kernel⟩
set_option maxRecDepth 100000 in
theorem mx_okm68 : mx_okM 68 := ⟨rfl, by decide +kernel, ⟨by decide +kernel, by decide +kernel⟩, by decide +kernel, mx_in 815 rfl rfl, mx_in 85 rfl rfl, by decide +kernel⟩
set_option maxRecDepth 100000 in
theorem mx_okm69 : mx_okM 69 := ⟨rfl, by decide +kernel, ⟨by decide +kernel, by decide +kernel⟩, by decide +kernel, mx_in 827 rfl rfl, mx_in 85 rfl rfl, by decide +kernel⟩
set_option maxRecDepth 100000 in
theorem mx_okm70 : mx_okM 70 := ⟨rfl, by decide +kernel, ⟨by decide +kernel, by decide +kernel⟩, by decide +kernel, mx_in 831 rfl rfl, mx_in 85 rfl rfl, by decide +kernel⟩
set_option maxRecDepth 100000 in
theorem mx_okm71 : mx_okM 71 := ⟨rfl, by decide +kernel, ⟨by decide +kernel, by decide +kernel⟩, by decide +kernel, mx_in 835 rfl rfl, mx_in 85 rfl rfl, by decide +kernel⟩
set_option maxRecDepth 100000 in
theorem mx_okm72 : mx_okM 72 := ⟨rfl, by decide +kernel, ⟨by decide +kernel, by decide +kernel⟩, by decide +kernel, mx_in 839 rfl rfl, mx_in 85 rfl rfl, by decide +kernel⟩
set_option maxRecDepth 100000 in
theorem mx_okm73 : mx_okM 73 := ⟨rfl, by decide +kernel, ⟨by decide +kernel, by decide +kernel⟩, by decide +kernel, mx_in 792 rfl rfl, mx_in 85 rfl rfl, by decide +kernel⟩
set_option maxRecDepth 100000 in
theorem mx_okm74 : mx_okM 74 := ⟨rfl, by decide +kernel, ⟨by decide +kernel, by decide +kernel⟩, by decide +kernel, mx_in 797 rfl rfl, mx_in 85 rfl rfl, by decide +kernel⟩
set_option maxRecDepth 100000 in
theorem mx_okm75 : mx_okM 75 := ⟨rfl, by decide +kernel, ⟨by decide +kernel, by decide +kernel⟩, by decide +kernel, mx_in 802 rfl rfl, mx_in 85 rfl rfl, by decide +kernel⟩
set_option maxRecDepth 100000 in
theorem mx_okm76 : mx_okM 76 := ⟨rfl, by decide +kernel, ⟨by decide +kernel, by decide +kernel⟩, by decide +kernel, mx_in 101 rfl rfl, mx_in 79 rfl rfl, by decide +kernel⟩
set_option maxRecDepth 100000 in
theorem mx_okm77 : mx_okM 77 := ⟨rfl, by decide +kernel, ⟨by decide +kernel, by decide +kernel⟩, by decide +kernel, mx_in 530 rfl rfl, mx_in 79 rfl rfl, by decide +kernel⟩
set_option maxRecDepth 100000 in
theorem mx_okm78 : mx_okM 78 := ⟨rfl, by decide +kernel, ⟨by decide +kernel, by decide +kernel⟩, by decide +kernel, mx_in 549 rfl rfl, mx_in 79 rfl rfl, by decide +kernel⟩
set_option maxRecDepth 100000 in
theorem mx_okm79 : mx_okM 79 := ⟨rfl, by decide +kernel, ⟨by decide +kernel, by decide +kernel⟩, by decide +kernel, mx_in 553 rfl rfl, mx_in 79 rfl rfl, by decide +kernel⟩
set_option maxRecDepth 100000 in
theorem mx_okm80 : mx_okM 80 := ⟨rfl, by decide +kernel, ⟨by decide +kernel, by decide +kernel⟩, by decide +kernel, mx_in 534 rfl rfl, mx_in 79 rfl rfl, by decide +kernel⟩
set_option maxRecDepth 100000 in
theorem mx_okm81 : mx_okM 81 := ⟨rfl, by decide +kernel, ⟨by decide +kernel, by decide +kernel⟩, by decide +kernel, mx_in 562 rfl rfl, mx_in 79 rfl rfl, by decide +kernel⟩
set_option maxRecDepth 100000 in
theorem mx_okm82 : mx_okM 82 := ⟨rfl, by decide +kernel, ⟨by decide +kernel, by decide +kernel⟩, by decide +kernel, mx_in 617 rfl rfl, mx_in 79 rfl rfl, by decide +kernel⟩
set_option maxRecDepth 100000 in
theorem mx_okm83 : mx_okM 83 := ⟨rfl, by decide +kernel, ⟨by decide +kernel, by decide +kernel⟩, by decide +kernel, mx_in 621 rfl rfl, mx_in 79 rfl rfl, by decide +kernel⟩
set_option maxRecDepth 100000 in
theorem mx_okm84 : mx_okM 84 := ⟨rfl, by decide +kernel, ⟨by decide +kernel, by decide +kernel⟩, by decide +kernel, mx_in 625 rfl rfl, mx_in 79 rfl rfl, by decide +kernel⟩
set_option maxRecDepth 100000 in
theorem mx_okm85 : mx_okM 85 := ⟨rfl, by decide +kernel, ⟨by decide +kernel, by decide +kernel⟩, by decide +kernel, mx_in 630 rfl rfl, mx_in 79 rfl rfl, by decide +kernel⟩
set_option maxRecDepth 100000 in
theorem mx_okm86 : mx_okM 86 := ⟨rfl, by decide +kernel, ⟨by decide +kernel, by decide +kernel⟩, by decide +kernel, mx_in 660 rfl rfl, mx_in 79 rfl rfl, by decide +kernel⟩
set_option maxRecDepth 100000 in
theorem mx_okm87 : mx_okM 87 := ⟨rfl, by decide +kernel, ⟨by decide +kernel, by decide +kernel⟩, by decide +kernel, mx_in 670 rfl rfl, mx_in 79 rfl rfl, by decide +kernel⟩
set_option maxRecDepth 100000 in
theorem mx_okm88 : mx_okM 88 := ⟨rfl, by decide +kernel, ⟨by decide +kernel, by decide +kernel⟩, by decide +kernel, mx_in 690 rfl rfl, mx_in 79 rfl rfl, by decide +kernel⟩
set_option maxRecDepth 100000 in
theorem mx_okm89 : mx_okM 89 := ⟨rfl, by decide +kernel, ⟨by decide +kernel, by decide +kernel⟩, by decide +kernel, mx_in 703 rfl rfl, mx_in 79 rfl rfl, by decide +kernel⟩
set_option maxRecDepth 100000 in
theorem mx_okm90 : mx_okM 90 := ⟨rfl, by decide +kernel, ⟨by decide +kernel, by decide +kernel⟩, by decide +kernel, mx_in 723 rfl rfl, mx_in 79 rfl rfl, by decide +kernel⟩
set_option maxRecDepth 100000 in
theorem mx_okm91 : mx_okM 91 := ⟨rfl, by decide +kernel, ⟨by decide +kernel, by decide +kernel⟩, by decide +kernel, mx_in 726 rfl rfl, mx_in 79 rfl rfl, by decide +kernel⟩
set_option maxRecDepth 100000 in
theorem mx_okm92 : mx_okM 92 := ⟨rfl, by decide +kernel, ⟨by decide +kernel, by decide +kernel⟩, by decide +kernel, mx_in 730 rfl rfl, mx_in 79 rfl rfl, by decide +kernel⟩
set_option maxRecDepth 100000 in
theorem mx_okm93 : mx_okM 93 := ⟨rfl, by decide +kernel, ⟨by decide +kernel, by decide +kernel⟩, by decide +kernel, mx_in 707 rfl rfl, mx_in 79 rfl rfl, by decide +kernel⟩
set_option maxRecDepth 100000 in
theorem mx_okm94 : mx_okM 94 := ⟨rfl, by decide +kernel, ⟨by decide +kernel, by decide +kernel⟩, by decide +kernel, mx_in 711 rfl rfl, mx_in 79 rfl rfl, by decide +kernel⟩
set_option maxRecDepth 100000 in
theorem mx_okm95 : mx_okM 95 := ⟨rfl, by decide +kernel, ⟨by decide +kernel, by decide +kernel⟩, by decide +kernel, mx_in 735 rfl rfl, mx_in 79 rfl rfl, by decide +kernel⟩
set_option maxRecDepth 100000 in
theorem mx_okm96 : mx_okM 96 := ⟨rfl, by decide +kernel, ⟨by decide +kernel, by decide +kernel⟩, by decide +kernel, mx_in 739 rfl rfl, mx_in 79 rfl rfl, by decide +kernel⟩
set_option maxRecDepth 100000 in
theorem mx_okm97 : mx_okM 97 := ⟨rfl, by decide +kernel, ⟨by decide +kernel, by decide +kernel⟩, by decide +kernel, mx_in 747 rfl rfl, mx_in 79 rfl rfl, by decide +kernel⟩
set_option maxRecDepth 100000 in
theorem mx_okm98 : mx_okM 98 := ⟨rfl, by decide +kernel, ⟨by decide +kernel, by decide +kernel⟩, by decide +kernel, mx_in 771 rfl rfl, mx_in 79 rfl rfl, by decide +kernel⟩
set_option maxRecDepth 100000 in
theorem mx_okm99 : mx_okM 99 := ⟨rfl, by decide +kernel, ⟨by decide +kernel, by decide +kernel⟩, by decide +kernel, mx_in 807 rfl rfl, mx_in 79 rfl rfl, by decide +kernel⟩
set_option maxRecDepth 100000 in
theorem mx_okm100 : mx_okM 100 := ⟨rfl, by decide +kernel, ⟨by decide +kernel, by decide +kernel⟩, by decide +kernel, mx_in 843 rfl rfl, mx_in 79 rfl rfl, by decide +kernel⟩
set_option maxRecDepth 100000 in
theorem mx_okm101 : mx_okM 101 := ⟨rfl, by decide +kernel, ⟨by decide +kernel, by decide +kernel⟩, by decide +kernel, mx_in 847 rfl rfl, mx_in 79 rfl rfl, by decide +kernel⟩
set_option maxRecDepth 100000 in
theorem mx_okm102 : mx_okM 102 := ⟨rfl, by decide +kernel, ⟨by decide +kernel, by decide +kernel⟩, by decide +kernel, mx_in 851 rfl rfl, mx_in 79 rfl rfl, by decide +kernel⟩
set_option maxRecDepth 100000 in
theorem mx_okm103 : mx_okM 103 := ⟨rfl, by decide +kernel, ⟨by decide +kernel, by decide +kernel⟩, by decide +kernel, mx_in 854 rfl rfl, mx_in 79 rfl rfl, by decide +kernel⟩
set_option maxRecDepth 100000 in
theorem mx_okm104 : mx_okM 104 := ⟨rfl, by decide +kernel, ⟨by decide +kernel, by decide +kernel⟩, by decide +kernel, mx_in 858 rfl rfl, mx_in 79 rfl rfl, by decide +kernel⟩
set_option maxRecDepth 100000 in
theorem mx_okm105 : mx_okM 105 := ⟨rfl, by decide +kernel, ⟨by decide +kernel, by decide +kernel⟩, by decide +kernel, mx_in 862 rfl rfl, mx_in 79 rfl rfl, by decide +kernel⟩
set_option maxRecDepth 100000 in
theorem mx_okm106 : mx_okM 106 := ⟨rfl, by decide +kernel, ⟨by decide +kernel, by decide +kernel⟩, by decide +kernel, mx_in 866 rfl rfl, mx_in 79 rfl rfl, by decide +kernel⟩
set_option maxRecDepth 100000 in
theorem mx_okm107 : mx_okM 107 := ⟨rfl, by decide +kernel, ⟨by decide +kernel, by decide +kernel⟩, by decide +kernel, mx_in 870 rfl rfl, mx_in 79 rfl rfl, by decide +kernel⟩
set_option maxRecDepth 100000 in
theorem mx_okm108 : mx_okM 108 := ⟨rfl, by decide +kernel, ⟨by decide +kernel, by decide +kernel⟩, by decide +kernel, mx_in 874 rfl rfl, mx_in 79 rfl rfl, by decide +kernel⟩
set_option maxRecDepth 100000 in
theorem mx_okm109 : mx_okM 109 := ⟨rfl, by decide +kernel, ⟨by decide +kernel, by decide +kernel⟩, by decide +kernel, mx_in 878 rfl rfl, mx_in 79 rfl rfl, by decide +kernel⟩
set_option maxRecDepth 100000 in
theorem mx_okm110 : mx_okM 110 := ⟨rfl, by decide +kernel, ⟨by decide +kernel, by decide +kernel⟩, by decide +kernel, mx_in 882 rfl rfl, mx_in 79 rfl rfl, by decide +kernel⟩
set_option maxRecDepth 100000 in
theorem mx_okm111 : mx_okM 111 := ⟨rfl, by decide +kernel, ⟨by decide +kernel, by decide +kernel⟩, by decide +kernel, mx_in 886 rfl rfl, mx_in 79 rfl rfl, by decide +kernel⟩
set_option maxRecDepth 100000 in
theorem mx_okm112 : mx_okM 112 := ⟨rfl, by decide +kernel, ⟨by decide +kernel, by decide +kernel⟩, by decide +kernel, mx_in 895 rfl rfl, mx_in 79 rfl rfl, by decide +kernel⟩
set_option maxRecDepth 100000 in
theorem mx_okm113 : mx_okM 113 := ⟨rfl, by decide +kernel, ⟨by decide +kernel, by decide +kernel⟩, by decide +kernel, mx_in 908 rfl rfl, mx_in 79 rfl rfl, by decide +kernel⟩
set_option maxRecDepth 100000 in
theorem mx_okm114 : mx_okM 114 := ⟨rfl, by decide +kernel, ⟨by decide +kernel, by decide +kernel⟩, by decide +kernel, mx_in 911 rfl rfl, mx_in 79 rfl rfl, by decide +kernel⟩
set_option maxRecDepth 100000 in
theorem mx_okm115 : mx_okM 115 := ⟨rfl, by decide +kernel, ⟨by decide +kernel, by decide +kernel⟩, by decide +kernel, mx_in 916 rfl rfl, mx_in 79 rfl rfl, by decide +kernel⟩
set_option maxRecDepth 100000 in
theorem mx_okm116 : mx_okM 116 := ⟨rfl, by decide +kernel, ⟨by decide +kernel, by decide +kernel⟩, by decide +kernel, mx_in 920 rfl rfl, mx_in 79 rfl rfl, by decide +kernel⟩
set_option maxRecDepth 100000 in
theorem mx_okm117 : mx_okM 117 := ⟨rfl, by decide +kernel, ⟨by decide +kernel, by decide +kernel⟩, by decide +kernel, mx_in 924 rfl rfl, mx_in 79 rfl rfl, by decide +kernel⟩
set_option maxRecDepth 100000 in
theorem mx_okm118 : mx_okM 118 := ⟨rfl, by decide +kernel, ⟨by decide +kernel, by decide +kernel⟩, by decide +kernel, mx_in 928 rfl rfl, mx_in 79 rfl rfl, by decide +kernel⟩
set_option maxRecDepth 100000 in
theorem mx_okm119 : mx_okM 119 := ⟨rfl, by decide +kernel, ⟨by decide +kernel, by decide +kernel⟩, by decide +kernel, mx_in 932 rfl rfl, mx_in 79 rfl rfl, by decide +kernel⟩
set_option maxRecDepth 100000 in
theorem mx_okm120 : mx_okM 120 := ⟨rfl, by decide +kernel, ⟨by decide +kernel, by decide +kernel⟩, by decide +kernel, mx_in 936 rfl rfl, mx_in 79 rfl rfl, by decide +kernel⟩
set_option maxRecDepth 100000 in
theorem mx_okm121 : mx_okM 121 := ⟨rfl, by decide +kernel, ⟨by decide +kernel, by decide +kernel⟩, by decide +kernel, mx_in 940 rfl rfl, mx_in 79 rfl rfl, by decide +kernel⟩
set_option maxRecDepth 100000 in
theorem mx_okm122 : mx_okM 122 := ⟨rfl, by decide +kernel, ⟨by decide +kernel, by decide +kernel⟩, by decide +kernel, mx_in 945 rfl rfl, mx_in 79 rfl rfl, by decide +kernel⟩
set_option maxRecDepth 100000 in
theorem mx_okm123 : mx_okM 123 := ⟨rfl, by decide +kernel, ⟨by decide +kernel, by decide +kernel⟩, by decide +kernel, mx_in 950 rfl rfl, mx_in 79 rfl rfl, by decide +kernel⟩
set_option maxRecDepth 100000 in
theorem mx_okm124 : mx_okM 124 := ⟨rfl, by decide +kernel, ⟨by decide +kernel, by decide +kernel⟩, by decide +kernel, mx_in 953 rfl rfl, mx_in 79 rfl rfl, by decide +kernel⟩
set_option maxRecDepth 100000 in
theorem mx_okm125 : mx_okM 125 := ⟨rfl, by decide +kernel, ⟨by decide +kernel, by decide +kernel⟩, by decide +kernel, mx_in 751 rfl rfl, mx_in 79 rfl rfl, by decide +kernel⟩
set_option maxRecDepth 100000 in
theorem mx_okm126 : mx_okM 126 := ⟨rfl, by decide +kernel, ⟨by decide +kernel, by decide +kernel⟩, by decide +kernel, mx_in 537 rfl rfl, mx_in 79 rfl rfl, by decide +kernel⟩
set_option maxRecDepth 100000 in
theorem mx_okm127 : mx_okM 127 := ⟨rfl, by decide +kernel, ⟨by decide +kernel, by decide +kernel⟩, by decide +kernel, mx_in 604 rfl rfl, mx_in 79 rfl rfl, by decide +kernel⟩
set_option maxRecDepth 100000 in
theorem mx_okm128 : mx_okM 128 := ⟨rfl, by decide +kernel, ⟨by decide +kernel, by decide +kernel⟩, by decide +kernel, mx_in 650 rfl rfl, mx_in 79 rfl rfl, by decide +kernel⟩
set_option maxRecDepth 100000 in
theorem mx_okm129 : mx_okM 129 := ⟨rfl, by decide +kernel, ⟨by decide +kernel, by decide +kernel⟩, by decide +kernel, mx_in 681 rfl rfl, mx_in 79 rfl rfl, by decide +kernel⟩
set_option maxRecDepth 100000 in
theorem mx_okm130 : mx_okM 130 := ⟨rfl, by decide +kernel, ⟨by decide +kernel, by decide +kernel⟩, by decide +kernel, mx_in 458 rfl rfl, mx_in 79 rfl rfl, by decide +kernel⟩
set_option maxRecDepth 100000 in
theorem mx_okm131 : mx_okM 131 := ⟨rfl, by decide +kernel, ⟨by decide +kernel, by decide +kernel⟩, by decide +kernel, mx_in 958 rfl rfl, mx_in 94 rfl rfl, by decide +kernel⟩
set_option maxRecDepth 100000 in
theorem mx_okm132 : mx_okM 132 := ⟨rfl, by decide +kernel, ⟨by decide +kernel, by decide +kernel⟩, by decide +kernel, mx_in 1081 rfl rfl, mx_in 94 rfl rfl, by decide +kernel⟩
set_option maxRecDepth 100000 in
theorem mx_okm133 : mx_okM 133 := ⟨rfl, by decide +kernel, ⟨by decide +kernel, by decide +kernel⟩, by decide +kernel, mx_in 1208 rfl rfl, mx_in 94 rfl rfl, by decide +kernel⟩
set_option maxRecDepth 100000 in
theorem mx_okm134 : mx_okM 134 := ⟨rfl, by decide +kernel, ⟨by decide +kernel, by decide +kernel⟩, by decide +kernel, mx_in 1262 rfl rfl, mx_in 94 rfl rfl, by decide +kernel⟩
set_option maxRecDepth 100000 in
theorem mx_okm135 : mx_okM 135 := ⟨rfl, by decide +kernel, ⟨by decide +kernel, by decide +kernel⟩, by decide +kernel, mx_in 1266 rfl rfl, mx_in 94 rfl rfl, by decide +kernel⟩
set_option maxRecDepth 100000 in
theorem mx_okm136 : mx_okM 136 := ⟨rfl, by decide +kernel, ⟨by decide +kernel, by decide +kernel⟩, by decide +kernel, mx_in 1100 rfl rfl, mx_in 94 rfl rfl, by decide +kernel⟩
set_option maxRecDepth 100000 in
theorem mx_okm137 : mx_okM 137 := ⟨rfl, by decide +kernel, ⟨by decide +kernel, by decide +kernel⟩, by decide +kernel, mx_in 1092 rfl rfl, mx_in 94 rfl rfl, by decide +kernel⟩
set_option maxRecDepth 100000 in
theorem mx_okm138 : mx_okM 138 := ⟨rfl, by decide +kernel, ⟨by decide +kernel, by decide +kernel⟩, by decide +kernel, mx_in 1088 rfl rfl, mx_in 94 rfl rfl, by decide +kernel⟩
set_option maxRecDepth 100000 in
theorem mx_okm139 : mx_okM 139 := ⟨rfl, by decide +kernel, ⟨by decide +kernel, by decide +kernel⟩, by decide +kernel, mx_in 1199 rfl rfl, mx_in 94 rfl rfl, by decide +kernel⟩
set_option maxRecDepth 100000 in
theorem mx_okm140 : mx_okM 140 := ⟨rfl, by decide +kernel, ⟨by decide +kernel, by decide +kernel⟩, by decide +kernel, mx_in 1194 rfl rfl, mx_in 94 rfl rfl, by decide +kernel⟩
set_option maxRecDepth 100000 in
theorem mx_okm141 : mx_okM 141 := ⟨rfl, by decide +kernel, ⟨by decide +kernel, by decide +kernel⟩, by decide +kernel, mx_in 1218 rfl rfl, mx_in 94 rfl rfl, by decide +kernel⟩
set_option maxRecDepth 100000 in
theorem mx_okm142 : mx_okM 142 := ⟨rfl, by decide +kernel, ⟨by decide +kernel, by decide +kernel⟩, by decide +kernel, mx_in 1085 rfl rfl, mx_in 94 rfl rfl, by decide +kernel⟩
set_option maxRecDepth 100000 in
theorem mx_okm143 : mx_okM 143 := ⟨rfl, by decide +kernel, ⟨by decide +kernel, by decide +kernel⟩, by decide +kernel, mx_in 1078 rfl rfl, mx_in 94 rfl rfl, by decide +kernel⟩
set_option maxRecDepth 100000 in
theorem mx_okm144 : mx_okM 144 := ⟨rfl, by decide +kernel, ⟨by decide +kernel, by decide +kernel⟩, by decide +kernel, mx_in 1096 rfl rfl, mx_in 94 rfl rfl, by decide +kernel⟩
set_option maxRecDepth 100000 in
theorem mx_okm145 : mx_okM 145 := ⟨rfl, by decide +kernel, ⟨by decide +kernel, by decide +kernel⟩, by decide +kernel, mx_in 1104 rfl rfl, mx_in 94 rfl rfl, by decide +kernel⟩
set_option maxRecDepth 100000 in
theorem mx_okm146 : mx_okM 146 := ⟨rfl, by decide +kernel, ⟨by decide +kernel, by decide +kernel⟩, by decide +kernel, mx_in 963 rfl rfl, mx_in 94 rfl rfl, by decide +kernel⟩
set_option maxRecDepth 100000 in
theorem mx_okm147 : mx_okM 147 := ⟨rfl, by decide +kernel, ⟨by decide +kernel, by decide +kernel⟩, by decide +kernel, mx_in 1108 rfl rfl, mx_in 94 rfl rfl, by decide +kernel⟩
set_option maxRecDepth 100000 in
theorem mx_okm148 : mx_okM 148 := ⟨rfl, by decide +kernel, ⟨by decide +kernel, by decide +kernel⟩, by decide +kernel, mx_in 1124 rfl rfl, mx_in 94 rfl rfl, by decide +kernel⟩
set_option maxRecDepth 100000 in
theorem mx_okm149 : mx_okM 149 := ⟨rfl, by decide +kernel, ⟨by decide +kernel, by decide +kernel⟩, by decide +kernel, mx_in 1120 rfl rfl, mx_in 94 rfl rfl, by decide +kernel⟩
set_option maxRecDepth 100000 in
theorem mx_okm150 : mx_okM 150 := ⟨rfl, by decide +kernel, ⟨by decide +kernel, by decide +kernel⟩, by decide +kernel, mx_in 1128 rfl rfl, mx_in 94 rfl rfl, by decide +kernel⟩
set_option maxRecDepth 100000 in
theorem mx_okm151 : mx_okM 151 := ⟨rfl, by decide +kernel, ⟨by decide +kernel, by decide +kernel⟩, by decide +kernel, mx_in 1148 rfl rfl, mx_in 94 rfl rfl, by decide +kernel⟩
set_option maxRecDepth 100000 in
theorem mx_okm152 : mx_okM 152 := ⟨rfl, by decide +kernel, ⟨by decide +kernel, by decide +kernel⟩, by decide +kernel, mx_in 1140 rfl rfl, mx_in 94 rfl rfl, by decide +kernel⟩
set_option maxRecDepth 100000 in
theorem mx_okm153 : mx_okM 153 := ⟨rfl, by decide +kernel, ⟨by decide +kernel, by decide +kernel⟩, by decide +kernel, mx_in 1155 rfl rfl, mx_in 94 rfl rfl, by decide +kernel⟩
set_option maxRecDepth 100000 in
theorem mx_okm154 : mx_okM 154 := ⟨rfl, by decide +kernel, ⟨by decide +kernel, by decide +kernel⟩, by decide +kernel, mx_in 1159 rfl rfl, mx_in 94 rfl rfl, by decide +kernel⟩
set_option maxRecDepth 100000 in
theorem mx_okm155 : mx_okM 155 := ⟨rfl, by decide +kernel, ⟨by decide +kernel, by decide +kernel⟩, by decide +kernel, mx_in 1152 rfl rfl, mx_in 94 rfl rfl, by decide +kernel⟩
set_option maxRecDepth 100000 in
theorem mx_okm156 : mx_okM 156 := ⟨rfl, by decide +kernel, ⟨by decide +kernel, by decide +kernel⟩, by decide +kernel, mx_in 1163 rfl rfl, mx_in 94 rfl rfl, by decide +kernel⟩
set_option maxRecDepth 100000 in
theorem mx_okm157 : mx_okM 157 := ⟨rfl, by decide +kernel, ⟨by decide +kernel, by decide +kernel⟩, by decide +kernel, mx_in 1167 rfl rfl, mx_in 94 rfl rfl, by decide +kernel⟩
set_option maxRecDepth 100000 in
theorem mx_okm158 : mx_okM 158 := ⟨rfl, by decide +kernel, ⟨by decide +kernel, by decide +kernel⟩, by decide +kernel, mx_in 1144 rfl rfl, mx_in 94 rfl rfl, by decide +kernel⟩
set_option maxRecDepth 100000 in
theorem mx_okm159 : mx_okM 159 := ⟨rfl, by decide +kernel, ⟨by decide +kernel, by decide +kernel⟩, by decide +kernel, mx_in 1136 rfl rfl, mx_in 94 rfl rfl, by decide +kernel⟩
set_option maxRecDepth 100000 in
theorem mx_okm160 : mx_okM 160 := ⟨rfl, by decide +kernel, ⟨by decide +kernel, by decide +kernel⟩, by decide +kernel, mx_in 1132 rfl rfl, mx_in 94 rfl rfl, by decide +kernel⟩
set_option maxRecDepth 100000 in
theorem mx_okm161 : mx_okM 161 := ⟨rfl, by decide +kernel, ⟨by decide +kernel, by decide +kernel⟩, by decide +kernel, mx_in 1116 rfl rfl, mx_in 94 rfl rfl, by decide +kernel⟩
set_option maxRecDepth 100000 in
theorem mx_okm162 : mx_okM 162 := ⟨rfl, by decide +kernel, ⟨by decide +kernel, by decide +kernel⟩, by decide +kernel, mx_in 1112 rfl rfl, mx_in 94 rfl rfl, by decide +kernel⟩
set_option maxRecDepth 100000 in
theorem mx_okm163 : mx_okM 163 := ⟨rfl, by decide +kernel, ⟨by decide +kernel, by decide +kernel⟩, by decide +kernel, mx_in 1171 rfl rfl, mx_in 94 rfl rfl, by decide +kernel⟩
set_option maxRecDepth 100000 in
theorem mx_okm164 : mx_okM 164 := ⟨rfl, by decide +kernel, ⟨by decide +kernel, by decide +kernel⟩, by decide +kernel, mx_in 1202 rfl rfl, mx_in 94 rfl rfl, by decide +kernel⟩
set_option maxRecDepth 100000 in
theorem mx_okm165 : mx_okM 165 := ⟨rfl, by decide +kernel, ⟨by decide +kernel, by decide +kernel⟩, by decide +kernel, mx_in 1205 rfl rfl, mx_in 94 rfl rfl, by decide +kernel⟩
set_option maxRecDepth 100000 in
theorem mx_okm166 : mx_okM 166 := ⟨rfl, by decide +kernel, ⟨by decide +kernel, by decide +kernel⟩, by decide +kernel, mx_in 1187 rfl rfl, mx_in 94 rfl rfl, by decide +kernel⟩
set_option maxRecDepth 100000 in
theorem mx_okm167 : mx_okM 167 := ⟨rfl, by decide +kernel, ⟨by decide +kernel, by decide +kernel⟩, by decide +kernel, mx_in 1191 rfl rfl, mx_in 94 rfl rfl, by decide +kernel⟩
set_option maxRecDepth 100000 in
theorem mx_okm168 : mx_okM 168 := ⟨rfl, by decide +kernel, ⟨by decide +kernel, by decide +kernel⟩, by decide +kernel, mx_in 1179 rfl rfl, mx_in 94 rfl rfl, by decide +kernel⟩
set_option maxRecDepth 100000 in
theorem mx_okm169 : mx_okM 169 := ⟨rfl, by decide +kernel, ⟨by decide +kernel, by decide +kernel⟩, by decide +kernel, mx_in 1183 rfl rfl, mx_in 94 rfl rfl, by decide +kernel⟩
set_option maxRecDepth 100000 in
theorem mx_okm170 : mx_okM 170 := ⟨rfl, by decide +kernel, ⟨by decide +kernel, by decide +kernel⟩, by decide +kernel, mx_in 1214 rfl rfl, mx_in 94 rfl rfl, by decide +kernel⟩
set_option maxRecDepth 100000 in
theorem mx_okm171 : mx_okM 171 := ⟨rfl, by decide +kernel, ⟨by decide +kernel, by decide +kernel⟩, by decide +kernel, mx_in 1222 rfl rfl, mx_in 94 rfl rfl, by decide +kernel⟩
set_option maxRecDepth 100000 in
theorem mx_okm172 : mx_okM 172 := ⟨rfl, by decide +kernel, ⟨by decide +kernel, by decide +kernel⟩, by decide +kernel, mx_in 1175 rfl rfl, mx_in 94 rfl rfl, by decide +kernel⟩
set_option maxRecDepth 100000 in
theorem mx_okm173 : mx_okM 173 := ⟨rfl, by decide +kernel, ⟨by decide +kernel, by decide +kernel⟩, by decide +kernel, mx_in 1230 rfl rfl, mx_in 94 rfl rfl, by decide +kernel⟩
set_option maxRecDepth 100000 in
theorem mx_okm174 : mx_okM 174 := ⟨rfl, by decide +kernel, ⟨by decide +kernel, by decide +kernel⟩, by decide +kernel, mx_in 1234 rfl rfl, mx_in 94 rfl rfl, by decide +kernel⟩
set_option maxRecDepth 100000 in
theorem mx_okm175 : mx_okM 175 := ⟨rfl, by decide +kernel, ⟨by decide +kernel, by decide +kernel⟩, by decide +kernel, mx_in 1226 rfl rfl, mx_in 94 rfl rfl, by decide +kernel⟩
set_option maxRecDepth 100000 in
theorem mx_okm176 : mx_okM 176 := ⟨rfl, by decide +kernel, ⟨by decide +kernel, by decide +kernel⟩, by decide +kernel, mx_in 1242 rfl rfl, mx_in 94 rfl rfl, by decide +kernel⟩
set_option maxRecDepth 100000 in
theorem mx_okm177 : mx_okM 177 := ⟨rfl, by decide +kernel, ⟨by decide +kernel, by decide +kernel⟩, by decide +kernel, mx_in 1238 rfl rfl, mx_in 94 rfl rfl, by decide +kernel⟩
set_option maxRecDepth 100000 in
theorem mx_okm178 : mx_okM 178 := ⟨rfl, by decide +kernel, ⟨by decide +kernel, by decide +kernel⟩, by decide +kernel, mx_in 1254 rfl rfl, mx_in 94 rfl rfl, by decide +kernel⟩
set_option maxRecDepth 100000 in
theorem mx_okm179 : mx_okM 179 := ⟨rfl, by decide +kernel, ⟨by decide +kernel, by decide +kernel⟩, by decide +kernel, mx_in 1250 rfl rfl, mx_in 94 rfl rfl, by decide +kernel⟩
set_option maxRecDepth 100000 in
theorem mx_okm180 : mx_okM 180 := ⟨rfl, by decide +kernel, ⟨by decide +kernel, by decide +kernel⟩, by decide +kernel, mx_in 1246 rfl rfl, mx_in 94 rfl rfl, by decide +kernel⟩
set_option maxRecDepth 100000 in
theorem mx_okm181 : mx_okM 181 := ⟨rfl, by decide +kernel, ⟨by decide +kernel, by decide +kernel⟩, by decide +kernel, mx_in 1258 rfl rfl, mx_in 94 rfl rfl, by decide +kernel⟩
set_option maxRecDepth 100000 in
theorem mx_okm182 : mx_okM 182 := ⟨rfl, by decide +kernel, ⟨by decide +kernel, by decide +kernel⟩, by decide +kernel, mx_in 1274 rfl rfl, mx_in 94 rfl rfl, by decide +kernel⟩
set_option maxRecDepth 100000 in
theorem mx_okm183 : mx_okM 183 := ⟨rfl, by decide +kernel, ⟨by decide +kernel, by decide +kernel⟩, by decide +kernel, mx_in 1270 rfl rfl, mx_in 94 rfl rfl, by decide +kernel⟩
set_option maxRecDepth 100000 in
theorem mx_okm184 : mx_okM 184 := ⟨rfl, by decide +kernel, ⟨by decide +kernel, by decide +kernel⟩, by decide +kernel, mx_in 1283 rfl rfl, mx_in 94 rfl rfl, by decide +kernel⟩
set_option maxRecDepth 100000 in
theorem mx_okm185 : mx_okM 185 := ⟨rfl, by decide +kernel, ⟨by decide +kernel, by decide +kernel⟩, by decide +kernel, mx_in 1287 rfl rfl, mx_in 94 rfl rfl, by decide +kernel⟩
set_option maxRecDepth 100000 in
theorem mx_okm186 : mx_okM 186 := ⟨rfl, by decide +kernel, ⟨by decide +kernel, by decide +kernel⟩, by decide +kernel, mx_in 1279 rfl rfl, mx_in 94 rfl rfl, by decide +kernel⟩
set_option maxRecDepth 100000 in
theorem mx_okm187 : mx_okM 187 := ⟨rfl, by decide +kernel, ⟨by decide +kernel, by decide +kernel⟩, by decide +kernel, mx_in 1292 rfl rfl, mx_in 94 rfl rfl, by decide +kernel⟩
set_option maxRecDepth 100000 in
theorem mx_okm188 : mx_okM 188 := ⟨rfl, by decide +kernel, ⟨by decide +kernel, by decide +kernel⟩, by decide +kernel, mx_in 1303 rfl rfl, mx_in 94 rfl rfl, by decide +kernel⟩
set_option maxRecDepth 100000 in
theorem mx_okm189 : mx_okM 189 := ⟨rfl, by decide +kernel, ⟨by decide +kernel, by decide +kernel⟩, by decide +kernel, mx_in 1308 rfl rfl, mx_in 94 rfl rfl, by decide +kernel⟩
set_option maxRecDepth 100000 in
theorem mx_okm190 : mx_okM 190 := ⟨rfl, by decide +kernel, ⟨by decide +kernel, by decide +kernel⟩, by decide +kernel, mx_in 1299 rfl rfl, mx_in 94 rfl rfl, by decide +kernel⟩
set_option maxRecDepth 100000 in
theorem mx_okm191 : mx_okM 191 := ⟨rfl, by decide +kernel, ⟨by decide +kernel, by decide +kernel⟩, by decide +kernel, mx_in 1316 rfl rfl, mx_in 94 rfl rfl, by decide +kernel⟩
set_option maxRecDepth 100000 in
theorem mx_okm192 : mx_okM 192 := ⟨rfl, by decide +kernel, ⟨by decide +kernel, by decide +kernel⟩, by decide +kernel, mx_in 1312 rfl rfl, mx_in 94 rfl rfl, by decide +kernel⟩
set_option maxRecDepth 100000 in
theorem mx_okm193 : mx_okM 193 := ⟨rfl, by decide +kernel, ⟨by decide +kernel, by decide +kernel⟩, by decide +kernel, mx_in 1320 rfl rfl, mx_in 94 rfl rfl, by decide +kernel⟩
set_option maxRecDepth 100000 in
theorem mx_okm194 : mx_okM 194 := ⟨rfl, by decide +kernel, ⟨by decide +kernel, by decide +kernel⟩, by decide +kernel, mx_in 1327 rfl rfl, mx_in 94 rfl rfl, by decide +kernel⟩
set_option maxRecDepth 100000 in
theorem mx_okm195 : mx_okM 195 := ⟨rfl, by decide +kernel, ⟨by decide +kernel, by decide +kernel⟩, by decide +kernel, mx_in 1324 rfl rfl, mx_in 94 rfl rfl, by decide +kernel⟩
set_option maxRecDepth 100000 in
theorem mx_okm196 : mx_okM 196 := ⟨rfl, by decide +kernel, ⟨by decide +kernel, by decide +kernel⟩, by decide +kernel, mx_in 1295 rfl rfl, mx_in 94 rfl rfl, by decide +kernel⟩
set_option maxRecDepth 100000 in
theorem mx_okm197 : mx_okM 197 := ⟨rfl, by decide +kernel, ⟨by decide +kernel, by decide +kernel⟩, by decide +kernel, mx_in 1331 rfl rfl, mx_in 94 rfl rfl, by decide +kernel⟩
set_option maxRecDepth 100000 in
theorem mx_okm198 : mx_okM 198 := ⟨rfl, by decide +kernel, ⟨by decide +kernel, by decide +kernel⟩, by decide +kernel, mx_in 1335 rfl rfl, mx_in 94 rfl rfl, by decide +kernel⟩
set_option maxRecDepth 100000 in
theorem mx_okm199 : mx_okM 199 := ⟨rfl, by decide +kernel, ⟨by decide +kernel, by decide +kernel⟩, by decide +kernel, mx_in 1339 rfl rfl, mx_in 94 rfl rfl, by decide +kernel⟩
set_option maxRecDepth 100000 in
theorem mx_okm200 : mx_okM 200 := ⟨rfl, by decide +kernel, ⟨by decide +kernel, by decide +kernel⟩, by decide +kernel, mx_in 1343 rfl rfl, mx_in 94 rfl rfl, by decide +kernel⟩
set_option maxRecDepth 100000 in
theorem mx_okm201 : mx_okM 201 := ⟨rfl, by decide +kernel, ⟨by decide +kernel, by decide +kernel⟩, by decide +kernel, mx_in 1348 rfl rfl, mx_in 94 rfl rfl, by decide +kernel⟩
set_option maxRecDepth 100000 in
theorem mx_okm202 : mx_okM 202 := ⟨rfl, by decide +kernel, ⟨by decide +kernel, by decide +kernel⟩, by decide +kernel, mx_in 1356 rfl rfl, mx_in 94 rfl rfl, by decide +kernel⟩
set_option maxRecDepth 100000 in
theorem mx_okm203 : mx_okM 203 := ⟨rfl, by decide +kernel, ⟨by decide +kernel, by decide +kernel⟩, by decide +kernel, mx_in 1360 rfl rfl, mx_in 94 rfl rfl, by decide +kernel⟩
set_option maxRecDepth 100000 in
theorem mx_okm204 : mx_okM 204 := ⟨rfl, by decide +kernel, ⟨by decide +kernel, by decide +kernel⟩, by decide +kernel, mx_in 1364 rfl rfl, mx_in 94 rfl rfl, by decide +kernel⟩
set_option maxRecDepth 100000 in
theorem mx_okm205 : mx_okM 205 := ⟨rfl, by decide +kernel, ⟨by decide +kernel, by decide +kernel⟩, by decide +kernel, mx_in 1352 rfl rfl, mx_in 94 rfl rfl, by decide +kernel⟩
set_option maxRecDepth 100000 in
theorem mx_okm206 : mx_okM 206 := ⟨rfl, by decide +kernel, ⟨by decide +kernel, by decide +kernel⟩, by decide +kernel, mx_in 1368 rfl rfl, mx_in 94 rfl rfl, by decide +kernel⟩
set_option maxRecDepth 100000 in
theorem mx_okm207 : mx_okM 207 := ⟨rfl, by decide +kernel, ⟨by decide +kernel, by decide +kernel⟩, by decide +kernel, mx_in 1373 rfl rfl, mx_in 94 rfl rfl, by decide +kernel⟩
set_option maxRecDepth 100000 in
theorem mx_okm208 : mx_okM 208 := ⟨rfl, by decide +kernel, ⟨by decide +kernel, by decide +kernel⟩, by decide +kernel, mx_in 1378 rfl rfl, mx_in 94 rfl rfl, by decide +kernel⟩
set_option maxRecDepth 100000 in
theorem mx_okm209 : mx_okM 209 := ⟨rfl, by decide +kernel, ⟨by decide +kernel, by decide +kernel⟩, by decide +kernel, mx_in 1383 rfl rfl, mx_in 94 rfl rfl, by decide +kernel⟩
set_option maxRecDepth 100000 in
theorem mx_okm210 : mx_okM 210 := ⟨rfl, by decide +kernel, ⟨by decide +kernel, by decide +kernel⟩, by decide +kernel, mx_in 1387 rfl rfl, mx_in 94 rfl rfl, by decide +kernel⟩
set_option maxRecDepth 100000 in
theorem mx_okm211 : mx_okM 211 := ⟨rfl, by decide +kernel, ⟨by decide +kernel, by decide +kernel⟩, by decide +kernel, mx_in 1391 rfl rfl, mx_in 94 rfl rfl, by decide +kernel⟩
set_option maxRecDepth 100000 in
theorem mx_okm212 : mx_okM 212 := ⟨rfl, by decide +kernel, ⟨by decide +kernel, by decide +kernel⟩, by decide +kernel, mx_in 820 rfl rfl, mx_in 96 rfl rfl, by decide +kernel⟩
set_option maxRecDepth 100000 in
theorem mx_okm213 : mx_okM 213 := ⟨rfl, by decide +kernel, ⟨by decide +kernel, by decide +kernel⟩, by decide +kernel, mx_in 653 rfl rfl, mx_in 95 rfl rfl, by decide +kernel⟩
set_option maxRecDepth 100000 in
theorem mx_okm_0 : ∀ k, k < 40 → mx_okM k := lt_s (lt_s (lt_s (lt_s (lt_s (lt_s (lt_s (lt_s (lt_s (lt_s (lt_s (lt_s (lt_s (lt_s (lt_s (lt_s (lt_s (lt_s (lt_s (lt_s (lt_s (lt_s (lt_s (lt_s (lt_s (lt_s (lt_s (lt_s (lt_s (lt_s (lt_s (lt_s (lt_s (lt_s (lt_s (lt_s (lt_s (lt_s (lt_s (lt_s (lt_0) mx_okm0) mx_okm1) mx_okm2) mx_okm3) mx_okm4) mx_okm5) mx_okm6) mx_okm7) mx_okm8) mx_okm9) mx_okm10) mx_okm11) mx_okm12) mx_okm13) mx_okm14) mx_okm15) mx_okm16) mx_okm17) mx_okm18) mx_okm19) mx_okm20) mx_okm21) mx_okm22) mx_okm23) mx_okm24) mx_okm25) mx_okm26) mx_okm27) mx_okm28) mx_okm29) mx_okm30) mx_okm31) mx_okm32) mx_okm33) mx_okm34) mx_okm35) mx_okm36) mx_okm37) mx_okm38) mx_okm39
set_option maxRecDepth 100000 in
theorem mx_okm_1 : ∀ k, k < 80 → mx_okM k := lt_s (lt_s (lt_s (lt_s (lt_s (lt_s (lt_s (lt_s (lt_s (lt_s (lt_s (lt_s (lt_s (lt_s (lt_s (lt_s (lt_s (lt_s (lt_s (lt_s (lt_s (lt_s (lt_s (lt_s (lt_s (lt_s (lt_s (lt_s (lt_s (lt_s (lt_s (lt_s (lt_s (lt_s (lt_s (lt_s (lt_s (lt_s (lt_s (lt_s (mx_okm_0) mx_okm40) mx_okm41) mx_okm42) mx_okm43) mx_okm44) mx_okm45) mx_okm46) mx_okm47) mx_okm48) mx_okm49) mx_okm50) mx_okm51) mx_okm52) mx_okm53) mx_okm54) mx_okm55) mx_okm56) mx_okm57) mx_okm58) mx_okm59) mx_okm60) mx_okm61) mx_okm62) mx_okm63) mx_okm64) mx_okm65) mx_okm66) mx_okm67) mx_okm68) mx_okm69) mx_okm70) mx_okm71) mx_okm72) mx_okm73) mx_okm74) mx_okm75) mx_okm76) mx_okm77) mx_okm78) mx_okm79
set_option maxRecDepth 100000 in
theorem mx_okm_2 : ∀ k, k < 120 → mx_okM k := lt_s (lt_s (lt_s (lt_s (lt_s (lt_s (lt_s (lt_s (lt_s (lt_s (lt_s (lt_s (lt_s (lt_s (lt_s (lt_s (lt_s (lt_s (lt_s (lt_s (lt_s (lt_s (lt_s (lt_s (lt_s (lt_s (lt_s (lt_s (lt_s (lt_s (lt_s (lt_s (lt_s (lt_s (lt_s (lt_s (lt_s (lt_s (lt_s (lt_s (mx_okm_1) mx_okm80) mx_okm81) mx_okm82) mx_okm83) mx_okm84) mx_okm85) mx_okm86) mx_okm87) mx_okm88) mx_okm89) mx_okm90) mx_okm91) mx_okm92) mx_okm93) mx_okm94) mx_okm95) mx_okm96) mx_okm97) mx_okm98) mx_okm99) mx_okm100) mx_okm101) mx_okm102) mx_okm103) mx_okm104) mx_okm105) mx_okm106) mx_okm107) mx_okm108) mx_okm109) mx_okm110) mx_okm111) mx_okm112) mx_okm113) mx_okm114) mx_okm115) mx_okm116) mx_okm117) mx_okm118) mx_okm119
set_option maxRecDepth 100000 in
theorem mx_okm_3 : ∀ k, k < 160 → mx_okM k := lt_s (lt_s (lt_s (lt_s (lt_s (lt_s (lt_s (lt_s (lt_s (lt_s (lt_s (lt_s (lt_s (lt_s (lt_s (lt_s (lt_s (lt_s (lt_s (lt_s (lt_s (lt_s (lt_s (lt_s (lt_s (lt_s (lt_s (lt_s (lt_s (lt_s (lt_s (lt_s (lt_s (lt_s (lt_s (lt_s (lt_s (lt_s (lt_s (lt_s (mx_okm_2) mx_okm120) mx_okm121) mx_okm122) mx_okm123) mx_okm124) mx_okm125) mx_okm126) mx_okm127) mx_okm128) mx_okm129) mx_okm130) mx_okm131) mx_okm132) mx_okm133) mx_okm134) mx_okm135) mx_okm136) mx_okm137) mx_okm138) mx_okm139) mx_okm140) mx_okm141) mx_okm142) mx_okm143) mx_okm144) mx_okm145) mx_okm146) mx_okm147) mx_okm148) mx_okm149) mx_okm150) mx_okm151) mx_okm152) mx_okm153) mx_okm154) mx_okm155) mx_okm156) mx_okm157) mx_okm158) mx_okm159
set_option maxRecDepth 100000 in
theorem mx_okm_4 : ∀ k, k < 200 → mx_okM k := lt_s (lt_s (lt_s (lt_s (lt_s (lt_s (lt_s (lt_s (lt_s (lt_s (lt_s (lt_s (lt_s (lt_s (lt_s (lt_s (lt_s (lt_s (lt_s (lt_s (lt_s (lt_s (lt_s (lt_s (lt_s (lt_s (lt_s (lt_s (lt_s (lt_s (lt_s (lt_s (lt_s (lt_s (lt_s (lt_s (lt_s (lt_s (lt_s (lt_s (mx_okm_3) mx_okm160) mx_okm161) mx_okm162) mx_okm163) mx_okm164) mx_okm165) mx_okm166) mx_okm167) mx_okm168) mx_okm169) mx_okm170) mx_okm171) mx_okm172) mx_okm173) mx_okm174) mx_okm175) mx_okm176) mx_okm177) mx_okm178) mx_okm179) mx_okm180) mx_okm181) mx_okm182) mx_okm183) mx_okm184) mx_okm185) mx_okm186) mx_okm187) mx_okm188) mx_okm189) mx_okm190) mx_okm191) mx_okm192) mx_okm193) mx_okm194) mx_okm195) mx_okm196) mx_okm197) mx_okm198) mx_okm199
set_option maxRecDepth 100000 in
theorem mx_okm_5 : ∀ k, k < 214 → mx_okM k := lt_s (lt_s (lt_s (lt_s (lt_s (lt_s (lt_s (lt_s (lt_s (lt_s (lt_s (lt_s (lt_s (lt_s (mx_okm_4) mx_okm200) mx_okm201) mx_okm202) mx_okm203) mx_okm204) mx_okm205) mx_okm206) mx_okm207) mx_okm208) mx_okm209) mx_okm210) mx_okm211) mx_okm212) mx_okm213
theorem mx_okm : ∀ k, k < 214 → mx_okM k := mx_okm_5
set_option maxRecDepth 100000 in
theorem mx_okl0_0 : mx_okL 0 (3, 27, 0, 0) := mx_in 110 rfl rfl
set_option maxRecDepth 100000 in
theorem mx_okl0_1 : mx_okL 0 (9, 0, 0, 0) := ⟨_, rfl, by decide, rfl, mx_in 145 rfl rfl⟩
set_option maxRecDepth 100000 in
theorem mx_okl0_2 : mx_okL 0 (15, 0, 1, 0) := ⟨_, rfl, by decide, rfl, mx_in 148 rfl rfl⟩
set_option maxRecDepth 100000 in
theorem mx_okl0_3 : mx_okL 0 (18, 7, 2, 0) := ⟨_, rfl, mx_in 111 rfl rfl, mx_in 113 rfl rfl, mx_in 81 rfl rfl⟩
set_option maxRecDepth 100000 in
theorem mx_okl0_4 : mx_okL 0 (18, 8, 3, 0) := ⟨_, rfl, by decide, by decide, mx_in 111 rfl rfl⟩
set_option maxRecDepth 100000 in
theorem mx_okl0_5 : mx_okL 0 (20, 0, 2, 0) := ⟨_, rfl, by decide, rfl, mx_in 151 rfl rfl⟩
set_option maxRecDepth 100000 in
theorem mx_okl0_6 : mx_okL 0 (24, 6, 14, 0) := ⟨by decide, List.mem_of_getElem? (i := 0) rfl, mx_in 115 rfl rfl, rfl⟩
set_option maxRecDepth 100000 in
theorem mx_okl0_7 : mx_okL 0 (25, 23, 0, 0) := mx_in 695 rfl rfl
set_option maxRecDepth 100000 in
theorem mx_okl0_8 : mx_okL 0 (31, 1, 15, 0) := ⟨by decide, mx_in 696 rfl rfl, mx_in 697 rfl rfl, mx_in 698 rfl rfl⟩
set_option maxRecDepth 100000 in
theorem mx_okl0_9 : mx_okL 0 (35, 0, 3, 0) := ⟨_, rfl, by decide, rfl, mx_in 152 rfl rfl⟩
set_option maxRecDepth 100000 in
theorem mx_okl0_10 : mx_okL 0 (39, 0, 4, 0) := ⟨_, rfl, by decide, rfl, mx_in 156 rfl rfl⟩
set_option maxRecDepth 100000 in
theorem mx_okl0_11 : mx_okL 0 (42, 0, 5, 0) := ⟨_, rfl, by decide, rfl, mx_in 158 rfl rfl⟩
set_option maxRecDepth 100000 in
theorem mx_okl0_12 : mx_okL 0 (45, 0, 200, 0) := ⟨_, rfl, by decide, rfl, mx_in 119 rfl rfl⟩
set_option maxRecDepth 100000 in
theorem mx_okl0_13 : mx_okL 0 (48, 0, 201, 0) := ⟨_, rfl, by decide, rfl, mx_in 124 rfl rfl⟩
set_option maxRecDepth 100000 in
theorem mx_okl0_14 : mx_okL 0 (51, 0, 202, 0) := ⟨_, rfl, by decide, rfl, mx_in 129 rfl rfl⟩
set_option maxRecDepth 100000 in
theorem mx_okl0_15 : mx_okL 0 (54, 0, 203, 0) := ⟨_, rfl, by decide, rfl, mx_in 132 rfl rfl⟩
set_option maxRecDepth 100000 in
theorem mx_okl0_16 : mx_okL 0 (57, 4, 126, 0) := ⟨by decide, List.mem_of_getElem? (i := 7) rfl, mx_in 536 rfl rfl⟩
set_option maxRecDepth 100000 in
theorem mx_okl0_17 : mx_okL 0 (61, 1, 7, 0) := ⟨by decide, mx_in 644 rfl rfl, mx_in 645 rfl rfl, mx_in 646 rfl rfl⟩
set_option maxRecDepth 100000 in
theorem mx_okl0_18 : mx_okL 0 (65, 3, 213, 0) := ⟨by decide, mx_in 651 rfl rfl, mx_in 652 rfl rfl⟩
set_option maxRecDepth 100000 in
theorem mx_okl0_19 : mx_okL 0 (71, 4, 128, 0) := ⟨by decide, List.mem_of_getElem? (i := 11) rfl, mx_in 649 rfl rfl⟩
set_option maxRecDepth 100000 in
theorem mx_okl0_20 : mx_okL 0 (75, 4, 129, 0) := ⟨by decide, List.mem_of_getElem? (i := 12) rfl, mx_in 680 rfl rfl⟩
set_option maxRecDepth 100000 in
theorem mx_okl0_21 : mx_okL 0 (79, 4, 127, 0) := ⟨by decide, List.mem_of_getElem? (i := 13) rfl, mx_in 603 rfl rfl⟩
set_option maxRecDepth 100000 in
theorem mx_okl0_22 : mx_okL 0 (83, 0, 502, 0) := ⟨_, rfl, by decide, rfl, mx_in 295 rfl rfl⟩
set_option maxRecDepth 100000 in
theorem mx_okl0_23 : mx_okL 0 (86, 1, 59, 0) := ⟨by decide, mx_in 891 rfl rfl, mx_in 761 rfl rfl, mx_in 762 rfl rfl⟩
set_option maxRecDepth 100000 in
theorem mx_okl0 : ∀ q ∈ mx_lk 0, mx_okL 0 q := List.forall_mem_cons.mpr ⟨mx_okl0_0, List.forall_mem_cons.mpr ⟨mx_okl0_1, List.forall_mem_cons.mpr ⟨mx_okl0_2, List.forall_mem_cons.mpr ⟨mx_okl0_3, List.forall_mem_cons.mpr ⟨mx_okl0_4, List.forall_mem_cons.mpr ⟨mx_okl0_5, List.forall_mem_cons.mpr ⟨mx_okl0_6, List.forall_mem_cons.mpr ⟨mx_okl0_7, List.forall_mem_cons.mpr ⟨mx_okl0_8, List.forall_mem_cons.mpr ⟨mx_okl0_9, List.forall_mem_cons.mpr ⟨mx_okl0_10, List.forall_mem_cons.mpr ⟨mx_okl0_11, List.forall_mem_cons.mpr ⟨mx_okl0_12, List.forall_mem_cons.mpr ⟨mx_okl0_13, List.forall_mem_cons.mpr ⟨mx_okl0_14, List.forall_mem_cons.mpr ⟨mx_okl0_15, List.forall_mem_cons.mpr ⟨mx_okl0_16, List.forall_mem_cons.mpr ⟨mx_okl0_17, List.forall_mem_cons.mpr ⟨mx_okl0_18, List.forall_mem_cons.mpr ⟨mx_okl0_19, List.forall_mem_cons.mpr ⟨mx_okl0_20, List.forall_mem_cons.mpr ⟨mx_okl0_21, List.forall_mem_cons.mpr ⟨mx_okl0_22, List.forall_mem_cons.mpr ⟨mx_okl0_23, fun _ h => absurd h List.not_mem_nil⟩⟩⟩⟩⟩⟩⟩⟩⟩⟩⟩⟩⟩⟩⟩⟩⟩⟩⟩⟩⟩⟩⟩⟩
set_option maxRecDepth 100000 in
theorem mx_okl1_0 : mx_okL 1 (3, 27, 0, 0) := mx_in 243 rfl rfl
set_option maxRecDepth 100000 in
theorem mx_okl1_1 : mx_okL 1 (9, 0, 100, 0) := ⟨_, rfl, by decide, rfl, mx_in 244 rfl rfl⟩
set_option maxRecDepth 100000 in
theorem mx_okl1_2 : mx_okL 1 (15, 0, 101, 0) := ⟨_, rfl, by decide, rfl, mx_in 246 rfl rfl⟩
set_option maxRecDepth 100000 in
theorem mx_okl1_3 : mx_okL 1 (18, 0, 202, 0) := ⟨_, rfl, by decide, rfl, mx_in 126 rfl rfl⟩
set_option maxRecDepth 100000 in
theorem mx_okl1_4 : mx_okL 1 (23, 1, 10, 0) := ⟨by decide, mx_in 675 rfl rfl, mx_in 676 rfl rfl, mx_in 677 rfl rfl⟩
set_option maxRecDepth 100000 in
theorem mx_okl1_5 : mx_okL 1 (29, 1, 49, 0) := ⟨by decide, mx_in 684 rfl rfl, mx_in 609 rfl rfl, mx_in 610 rfl rfl⟩
set_option maxRecDepth 100000 in
theorem mx_okl1_6 : mx_okL 1 (35, 1, 50, 0) := ⟨by decide, mx_in 685 rfl rfl, mx_in 662 rfl rfl, mx_in 663 rfl rfl⟩
set_option maxRecDepth 100000 in
theorem mx_okl1_7 : mx_okL 1 (38, 4, 128, 0) := ⟨by decide, List.mem_of_getElem? (i := 14) rfl, mx_in 649 rfl rfl⟩
set_option maxRecDepth 100000 in
theorem mx_okl1 : ∀ q ∈ mx_lk 1, mx_okL 1 q := List.forall_mem_cons.mpr ⟨mx_okl1_0, List.forall_mem_cons.mpr ⟨mx_okl1_1, List.forall_mem_cons.mpr ⟨mx_okl1_2, List.forall_mem_cons.mpr ⟨mx_okl1_3, List.forall_mem_cons.mpr ⟨mx_okl1_4, List.forall_mem_cons.mpr ⟨mx_okl1_5, List.forall_mem_cons.mpr ⟨mx_okl1_6, List.forall_mem_cons.mpr ⟨mx_okl1_7, fun _ h => absurd h List.not_mem_nil⟩⟩⟩⟩⟩⟩⟩⟩
set_option maxRecDepth 100000 in
theorem mx_okl2_0 : mx_okL 2 (3, 27, 0, 0) := mx_in 117 rfl rfl
set_option maxRecDepth 100000 in
theorem mx_okl2_1 : mx_okL 2 (9, 0, 200, 0) := ⟨_, rfl, by decide, rfl, mx_in 118 rfl rfl⟩
set_option maxRecDepth 100000 in
theorem mx_okl2_2 : mx_okL 2 (15, 0, 201, 0) := ⟨_, rfl, by decide, rfl, mx_in 121 rfl rfl⟩
set_option maxRecDepth 100000 in
theorem mx_okl2_3 : mx_okL 2 (18, 0, 202, 0) := ⟨_, rfl, by decide, rfl, mx_in 125 rfl rfl⟩
set_option maxRecDepth 100000 in
theorem mx_okl2_4 : mx_okL 2 (21, 0, 203, 0) := ⟨_, rfl, by decide, rfl, mx_in 131 rfl rfl⟩
set_option maxRecDepth 100000 in
theorem mx_okl2_5 : mx_okL 2 (24, 21, 0, 0) := mx_in 601 rfl rfl
set_option maxRecDepth 100000 in
theorem mx_okl2 : ∀ q ∈ mx_lk 2, mx_okL 2 q := List.forall_mem_cons.mpr ⟨mx_okl2_0, List.forall_mem_cons.mpr ⟨mx_okl2_1, List.forall_mem_cons.mpr ⟨mx_okl2_2, List.forall_mem_cons.mpr ⟨mx_okl2_3, List.forall_mem_cons.mpr ⟨mx_okl2_4, List.forall_mem_cons.mpr ⟨mx_okl2_5, fun _ h => absurd h List.not_mem_nil⟩⟩⟩⟩⟩⟩
set_option maxRecDepth 100000 in
theorem mx_okl3_0 : mx_okL 3 (3, 27, 0, 0) := mx_in 179 rfl rfl
set_option maxRecDepth 100000 in
theorem mx_okl3_1 : mx_okL 3 (9, 0, 300, 0) := ⟨_, rfl, by decide, rfl, mx_in 180 rfl rfl⟩
set_option maxRecDepth 100000 in
theorem mx_okl3_2 : mx_okL 3 (15, 0, 302, 0) := ⟨_, rfl, by decide, rfl, mx_in 183 rfl rfl⟩
set_option maxRecDepth 100000 in
theorem mx_okl3_3 : mx_okL 3 (18, 0, 303, 0) := ⟨_, rfl, by decide, rfl, mx_in 184 rfl rfl⟩
set_option maxRecDepth 100000 in
theorem mx_okl3_4 : mx_okL 3 (21, 0, 306, 0) := ⟨_, rfl, by decide, rfl, mx_in 187 rfl rfl⟩
set_option maxRecDepth 100000 in
theorem mx_okl3_5 : mx_okL 3 (24, 0, 308, 0) := ⟨_, rfl, by decide, rfl, mx_in 189 rfl rfl⟩
set_option maxRecDepth 100000 in
theorem mx_okl3_6 : mx_okL 3 (27, 0, 309, 0) := ⟨_, rfl, by decide, rfl, mx_in 190 rfl rfl⟩
set_option maxRecDepth 100000 in
theorem mx_okl3_7 : mx_okL 3 (31, 0, 301, 0) := ⟨_, rfl, by decide, rfl, mx_in 181 rfl rfl⟩
set_option maxRecDepth 100000 in
theorem mx_okl3_8 : mx_okL 3 (34, 0, 307, 0) := ⟨_, rfl, by decide, rfl, mx_in 188 rfl rfl⟩
set_option maxRecDepth 100000 in
theorem mx_okl3_9 : mx_okL 3 (37, 4, 130, 0) := ⟨by decide, List.mem_of_getElem? (i := 6) rfl, mx_in 457 rfl rfl⟩
set_option maxRecDepth 100000 in
theorem mx_okl3_10 : mx_okL 3 (41, 23, 0, 0) := mx_in 465 rfl rfl
set_option maxRecDepth 100000 in
theorem mx_okl3_11 : mx_okL 3 (47, 7, 6, 0) := ⟨_, rfl, mx_in 468 rfl rfl, mx_in 469 rfl rfl, mx_in 93 rfl rfl⟩
set_option maxRecDepth 100000 in
theorem mx_okl3_12 : mx_okL 3 (49, 24, 0, 0) := mx_in 470 rfl rfl
set_option maxRecDepth 100000 in
theorem mx_okl3_13 : mx_okL 3 (50, 12, 0, 0) := mx_in 476 rfl rfl
set_option maxRecDepth 100000 in
theorem mx_okl3_14 : mx_okL 3 (54, 5, 62, 0) := ⟨by decide, mx_in 477 rfl rfl, mx_in 478 rfl rfl, rfl⟩
set_option maxRecDepth 100000 in
theorem mx_okl3_15 : mx_okL 3 (57, 1, 23, 0) := ⟨by decide, mx_in 361 rfl rfl, mx_in 363 rfl rfl, mx_in 0 rfl rfl⟩
set_option maxRecDepth 100000 in
theorem mx_okl3_16 : mx_okL 3 (60, 0, 304, 0) := ⟨_, rfl, by decide, rfl, mx_in 185 rfl rfl⟩
set_option maxRecDepth 100000 in
theorem mx_okl3_17 : mx_okL 3 (63, 0, 305, 0) := ⟨_, rfl, by decide, rfl, mx_in 186 rfl rfl⟩
set_option maxRecDepth 100000 in
theorem mx_okl3_18 : mx_okL 3 (66, 1, 35, 0) := ⟨by decide, mx_in 413 rfl rfl, mx_in 415 rfl rfl, mx_in 8 rfl rfl⟩
set_option maxRecDepth 100000 in
theorem mx_okl3_19 : mx_okL 3 (70, 1, 39, 0) := ⟨by decide, mx_in 425 rfl rfl, mx_in 427 rfl rfl, mx_in 11 rfl rfl⟩
set_option maxRecDepth 100000 in
theorem mx_okl3_20 : mx_okL 3 (73, 1, 25, 0) := ⟨by decide, mx_in 365 rfl rfl, mx_in 367 rfl rfl, mx_in 1 rfl rfl⟩
set_option maxRecDepth 100000 in
theorem mx_okl3_21 : mx_okL 3 (77, 1, 26, 0) := ⟨by decide, mx_in 373 rfl rfl, mx_in 375 rfl rfl, mx_in 3 rfl rfl⟩
set_option maxRecDepth 100000 in
theorem mx_okl3_22 : mx_okL 3 (80, 1, 29, 0) := ⟨by decide, mx_in 383 rfl rfl, mx_in 385 rfl rfl, mx_in 4 rfl rfl⟩
set_option maxRecDepth 100000 in
theorem mx_okl3_23 : mx_okL 3 (84, 1, 24, 0) := ⟨by decide, mx_in 369 rfl rfl, mx_in 371 rfl rfl, mx_in 2 rfl rfl⟩
set_option maxRecDepth 100000 in
theorem mx_okl3_24 : mx_okL 3 (87, 3, 27, 0) := ⟨by decide, mx_in 377 rfl rfl, mx_in 378 rfl rfl⟩
set_option maxRecDepth 100000 in
theorem mx_okl3_25 : mx_okL 3 (91, 3, 28, 0) := ⟨by decide, mx_in 380 rfl rfl, mx_in 381 rfl rfl⟩
set_option maxRecDepth 100000 in
theorem mx_okl3_26 : mx_okL 3 (94, 1, 31, 0) := ⟨by decide, mx_in 387 rfl rfl, mx_in 389 rfl rfl, mx_in 5 rfl rfl⟩
set_option maxRecDepth 100000 in
theorem mx_okl3_27 : mx_okL 3 (97, 1, 30, 0) := ⟨by decide, mx_in 409 rfl rfl, mx_in 411 rfl rfl, mx_in 7 rfl rfl⟩
set_option maxRecDepth 100000 in
theorem mx_okl3_28 : mx_okL 3 (100, 11, 2, 0) := ⟨_, rfl, by decide, rfl, rfl⟩
set_option maxRecDepth 100000 in
theorem mx_okl3_29 : mx_okL 3 (102, 1, 32, 0) := ⟨by decide, mx_in 392 rfl rfl, mx_in 394 rfl rfl, mx_in 6 rfl rfl⟩
set_option maxRecDepth 100000 in
theorem mx_okl3_30 : mx_okL 3 (106, 11, 3, 0) := ⟨_, rfl, by decide, rfl, rfl⟩
set_option maxRecDepth 100000 in
theorem mx_okl3_31 : mx_okL 3 (108, 11, 4, 0) := ⟨_, rfl, by decide, rfl, rfl⟩
set_option maxRecDepth 100000 in
theorem mx_okl3_32 : mx_okL 3 (110, 11, 5, 0) := ⟨_, rfl, by decide, rfl, rfl⟩
set_option maxRecDepth 100000 in
theorem mx_okl3_33 : mx_okL 3 (112, 11, 6, 0) := ⟨_, rfl, by decide, rfl, rfl⟩
set_option maxRecDepth 100000 in
theorem mx_okl3_34 : mx_okL 3 (114, 11, 7, 0) := ⟨_, rfl, by decide, rfl, rfl⟩
set_option maxRecDepth 100000 in
theorem mx_okl3_35 : mx_okL 3 (116, 11, 8, 0) := ⟨_, rfl, by decide, rfl, rfl⟩
set_option maxRecDepth 100000 in
theorem mx_okl3_36 : mx_okL 3 (118, 11, 9, 0) := ⟨_, rfl, by decide, rfl, rfl⟩
set_option maxRecDepth 100000 in
theorem mx_okl3_37 : mx_okL 3 (120, 11, 10, 0) := ⟨_, rfl, by decide, rfl, rfl⟩
set_option maxRecDepth 100000 in
theorem mx_okl3_38 : mx_okL 3 (122, 11, 11, 0) := ⟨_, rfl, by decide, rfl, rfl⟩
set_option maxRecDepth 100000 in
theorem mx_okl3_39 : mx_okL 3 (124, 11, 12, 0) := ⟨_, rfl, by decide, rfl, rfl⟩
set_option maxRecDepth 100000 in
theorem mx_okl3_40 : mx_okL 3 (126, 11, 13, 0) := ⟨_, rfl, by decide, rfl, rfl⟩
set_option maxRecDepth 100000 in
theorem mx_okl3_41 : mx_okL 3 (128, 25, 0, 0) := mx_in 396 rfl rfl
set_option maxRecDepth 100000 in
theorem mx_okl3_42 : mx_okL 3 (133, 26, 0, 0) := mx_in 397 rfl rfl
set_option maxRecDepth 100000 in
theorem mx_okl3_43 : mx_okL 3 (137, 1, 33, 0) := ⟨by decide, mx_in 417 rfl rfl, mx_in 419 rfl rfl, mx_in 9 rfl rfl⟩
set_option maxRecDepth 100000 in
theorem mx_okl3_44 : mx_okL 3 (140, 1, 34, 0) := ⟨by decide, mx_in 421 rfl rfl, mx_in 423 rfl rfl, mx_in 10 rfl rfl⟩
set_option maxRecDepth 100000 in
theorem mx_okl3_45 : mx_okL 3 (143, 1, 40, 0) := ⟨by decide, mx_in 429 rfl rfl, mx_in 431 rfl rfl, mx_in 12 rfl rfl⟩
set_option maxRecDepth 100000 in
theorem mx_okl3_46 : mx_okL 3 (146, 3, 38, 0) := ⟨by decide, mx_in 449 rfl rfl, mx_in 450 rfl rfl⟩
set_option maxRecDepth 100000 in
theorem mx_okl3_47 : mx_okL 3 (149, 1, 36, 0) := ⟨by decide, mx_in 441 rfl rfl, mx_in 443 rfl rfl, mx_in 15 rfl rfl⟩
set_option maxRecDepth 100000 in
theorem mx_okl3_48 : mx_okL 3 (152, 1, 41, 0) := ⟨by decide, mx_in 433 rfl rfl, mx_in 435 rfl rfl, mx_in 13 rfl rfl⟩
set_option maxRecDepth 100000 in
theorem mx_okl3_49 : mx_okL 3 (155, 1, 42, 0) := ⟨by decide, mx_in 445 rfl rfl, mx_in 447 rfl rfl, mx_in 16 rfl rfl⟩
set_option maxRecDepth 100000 in
theorem mx_okl3_50 : mx_okL 3 (158, 1, 37, 0) := ⟨by decide, mx_in 437 rfl rfl, mx_in 439 rfl rfl, mx_in 14 rfl rfl⟩
set_option maxRecDepth 100000 in
theorem mx_okl3 : ∀ q ∈ mx_lk 3, mx_okL 3 q := List.forall_mem_cons.mpr ⟨mx_okl3_0, List.forall_mem_cons.mpr ⟨mx_okl3_1, List.forall_mem_cons.mpr ⟨mx_okl3_2, List.forall_mem_cons.mpr ⟨mx_okl3_3, List.forall_mem_cons.mpr ⟨mx_okl3_4, List.forall_mem_cons.mpr ⟨mx_okl3_5, List.forall_mem_cons.mpr ⟨mx_okl3_6, List.forall_mem_cons.mpr ⟨mx_okl3_7, List.forall_mem_cons.mpr ⟨mx_okl3_8, List.forall_mem_cons.mpr ⟨mx_okl3_9, List.forall_mem_cons.mpr ⟨mx_okl3_10, List.forall_mem_cons.mpr ⟨mx_okl3_11, List.forall_mem_cons.mpr ⟨mx_okl3_12, List.forall_mem_cons.mpr ⟨mx_okl3_13, List.forall_mem_cons.mpr ⟨mx_okl3_14, List.forall_mem_cons.mpr ⟨mx_okl3_15, List.forall_mem_cons.mpr ⟨mx_okl3_16, List.forall_mem_cons.mpr ⟨mx_okl3_17, List.forall_mem_cons.mpr ⟨mx_okl3_18, List.forall_mem_cons.mpr ⟨mx_okl3_19, List.forall_mem_cons.mpr ⟨mx_okl3_20, List.forall_mem_cons.mpr ⟨mx_okl3_21, List.forall_mem_cons.mpr ⟨mx_okl3_22, List.forall_mem_cons.mpr ⟨mx_okl3_23, List.forall_mem_cons.mpr ⟨mx_okl3_24, List.forall_mem_cons.mpr ⟨mx_okl3_25, List.forall_mem_cons.mpr ⟨mx_okl3_26, List.forall_mem_cons.mpr ⟨mx_okl3_27, List.forall_mem_cons.mpr ⟨mx_okl3_28, List.forall_mem_cons.mpr ⟨mx_okl3_29, List.forall_mem_cons.mpr ⟨mx_okl3_30, List.forall_mem_cons.mpr ⟨mx_okl3_31, List.forall_mem_cons.mpr ⟨mx_okl3_32, List.forall_mem_cons.mpr ⟨mx_okl3_33, List.forall_mem_cons.mpr ⟨mx_okl3_34, List.forall_mem_cons.mpr ⟨mx_okl3_35, List.forall_mem_cons.mpr ⟨mx_okl3_36, List.forall_mem_cons.mpr ⟨mx_okl3_37, List.forall_mem_cons.mpr ⟨mx_okl3_38, List.forall_mem_cons.mpr ⟨mx_okl3_39, List.forall_mem_cons.mpr ⟨mx_okl3_40, List.forall_mem_cons.mpr ⟨mx_okl3_41, List.forall_mem_cons.mpr ⟨mx_okl3_42, List.forall_mem_cons.mpr ⟨mx_okl3_43, List.forall_mem_cons.mpr ⟨mx_okl3_44, List.forall_mem_cons.mpr ⟨mx_okl3_45, List.forall_mem_cons.mpr ⟨mx_okl3_46, List.forall_mem_cons.mpr ⟨mx_okl3_47, List.forall_mem_cons.mpr ⟨mx_okl3_48, List.forall_mem_cons.mpr ⟨mx_okl3_49, List.forall_mem_cons.mpr ⟨mx_okl3_50, fun _ h => absurd h List.not_mem_nil⟩⟩⟩⟩⟩⟩⟩⟩⟩⟩⟩⟩⟩⟩⟩⟩⟩⟩⟩⟩⟩⟩⟩⟩⟩⟩⟩⟩⟩⟩⟩⟩⟩⟩⟩⟩⟩⟩⟩⟩⟩⟩⟩⟩⟩⟩⟩⟩⟩⟩⟩
set_option maxRecDepth 100000 in
theorem mx_okl4_0 : mx_okL 4 (3, 27, 0, 0) := mx_in 218 rfl rfl
set_option maxRecDepth 100000 in
theorem mx_okl4_1 : mx_okL 4 (9, 8, 4, 0) := ⟨_, rfl, by decide, by decide, mx_in 219 rfl rfl⟩
set_option maxRecDepth 100000 in
theorem mx_okl4_2 : mx_okL 4 (11, 0, 400, 0) := ⟨_, rfl, by decide, rfl, mx_in 221 rfl rfl⟩
set_option maxRecDepth 100000 in
theorem mx_okl4_3 : mx_okL 4 (17, 0, 402, 0) := ⟨_, rfl, by decide, rfl, mx_in 224 rfl rfl⟩
set_option maxRecDepth 100000 in
theorem mx_okl4_4 : mx_okL 4 (21, 0, 403, 0) := ⟨_, rfl, by decide, rfl, mx_in 225 rfl rfl⟩
set_option maxRecDepth 100000 in
theorem mx_okl4_5 : mx_okL 4 (24, 0, 404, 0) := ⟨_, rfl, by decide, rfl, mx_in 226 rfl rfl⟩
set_option maxRecDepth 100000 in
theorem mx_okl4_6 : mx_okL 4 (27, 0, 401, 0) := ⟨_, rfl, by decide, rfl, mx_in 222 rfl rfl⟩
set_option maxRecDepth 100000 in
theorem mx_okl4_7 : mx_okL 4 (31, 1, 4, 0) := ⟨by decide, mx_in 567 rfl rfl, mx_in 539 rfl rfl, mx_in 540 rfl rfl⟩
set_option maxRecDepth 100000 in
theorem mx_okl4_8 : mx_okL 4 (37, 0, 201, 0) := ⟨_, rfl, by decide, rfl, mx_in 123 rfl rfl⟩
set_option maxRecDepth 100000 in
theorem mx_okl4_9 : mx_okL 4 (42, 1, 53, 0) := ⟨by decide, mx_in 568 rfl rfl, mx_in 570 rfl rfl, mx_in 17 rfl rfl⟩
set_option maxRecDepth 100000 in
theorem mx_okl4_10 : mx_okL 4 (46, 0, 5, 0) := ⟨_, rfl, by decide, rfl, mx_in 159 rfl rfl⟩
set_option maxRecDepth 100000 in
theorem mx_okl4_11 : mx_okL 4 (49, 1, 54, 0) := ⟨by decide, mx_in 576 rfl rfl, mx_in 578 rfl rfl, mx_in 18 rfl rfl⟩
set_option maxRecDepth 100000 in
theorem mx_okl4_12 : mx_okL 4 (53, 4, 130, 0) := ⟨by decide, List.mem_of_getElem? (i := 8) rfl, mx_in 457 rfl rfl⟩
set_option maxRecDepth 100000 in
theorem mx_okl4_13 : mx_okL 4 (57, 1, 16, 0) := ⟨by decide, mx_in 589 rfl rfl, mx_in 590 rfl rfl, mx_in 591 rfl rfl⟩
set_option maxRecDepth 100000 in
theorem mx_okl4_14 : mx_okL 4 (60, 1, 17, 0) := ⟨by decide, mx_in 597 rfl rfl, mx_in 598 rfl rfl, mx_in 599 rfl rfl⟩
set_option maxRecDepth 100000 in
theorem mx_okl4_15 : mx_okL 4 (63, 4, 126, 0) := ⟨by decide, List.mem_of_getElem? (i := 10) rfl, mx_in 536 rfl rfl⟩
set_option maxRecDepth 100000 in
theorem mx_okl4_16 : mx_okL 4 (67, 0, 0, 0) := ⟨_, rfl, by decide, rfl, mx_in 147 rfl rfl⟩
set_option maxRecDepth 100000 in
theorem mx_okl4_17 : mx_okL 4 (70, 0, 202, 0) := ⟨_, rfl, by decide, rfl, mx_in 130 rfl rfl⟩
set_option maxRecDepth 100000 in
theorem mx_okl4_18 : mx_okL 4 (73, 4, 127, 0) := ⟨by decide, List.mem_of_getElem? (i := 9) rfl, mx_in 603 rfl rfl⟩
set_option maxRecDepth 100000 in
theorem mx_okl4_19 : mx_okL 4 (76, 1, 46, 0) := ⟨by decide, mx_in 613 rfl rfl, mx_in 564 rfl rfl, mx_in 565 rfl rfl⟩
set_option maxRecDepth 100000 in
theorem mx_okl4_20 : mx_okL 4 (80, 1, 47, 0) := ⟨by decide, mx_in 665 rfl rfl, mx_in 594 rfl rfl, mx_in 595 rfl rfl⟩
set_option maxRecDepth 100000 in
theorem mx_okl4_21 : mx_okL 4 (83, 0, 203, 0) := ⟨_, rfl, by decide, rfl, mx_in 134 rfl rfl⟩
set_option maxRecDepth 100000 in
theorem mx_okl4_22 : mx_okL 4 (86, 21, 0, 0) := mx_in 666 rfl rfl
set_option maxRecDepth 100000 in
theorem mx_okl4_23 : mx_okL 4 (91, 1, 48, 0) := ⟨by decide, mx_in 635 rfl rfl, mx_in 636 rfl rfl, mx_in 637 rfl rfl⟩
set_option maxRecDepth 100000 in
theorem mx_okl4_24 : mx_okL 4 (95, 0, 4, 0) := ⟨_, rfl, by decide, rfl, mx_in 157 rfl rfl⟩
set_option maxRecDepth 100000 in
theorem mx_okl4_25 : mx_okL 4 (98, 0, 1, 0) := ⟨_, rfl, by decide, rfl, mx_in 150 rfl rfl⟩
set_option maxRecDepth 100000 in
theorem mx_okl4_26 : mx_okL 4 (101, 4, 128, 0) := ⟨by decide, List.mem_of_getElem? (i := 15) rfl, mx_in 649 rfl rfl⟩
set_option maxRecDepth 100000 in
theorem mx_okl4_27 : mx_okL 4 (105, 1, 9, 0) := ⟨by decide, mx_in 572 rfl rfl, mx_in 573 rfl rfl, mx_in 574 rfl rfl⟩
set_option maxRecDepth 100000 in
theorem mx_okl4_28 : mx_okL 4 (108, 1, 45, 0) := ⟨by decide, mx_in 580 rfl rfl, mx_in 581 rfl rfl, mx_in 582 rfl rfl⟩
set_option maxRecDepth 100000 in
theorem mx_okl4_29 : mx_okL 4 (112, 0, 601, 0) := ⟨_, rfl, by decide, rfl, mx_in 484 rfl rfl⟩
set_option maxRecDepth 100000 in
theorem mx_okl4_30 : mx_okL 4 (115, 20, 0, 0) := mx_in 584 rfl rfl
set_option maxRecDepth 100000 in
theorem mx_okl4_31 : mx_okL 4 (118, 0, 600, 0) := ⟨_, rfl, by decide, rfl, mx_in 482 rfl rfl⟩
set_option maxRecDepth 100000 in
theorem mx_okl4_32 : mx_okL 4 (121, 3, 55, 0) := ⟨by decide, mx_in 585 rfl rfl, mx_in 586 rfl rfl⟩
set_option maxRecDepth 100000 in
theorem mx_okl4 : ∀ q ∈ mx_lk 4, mx_okL 4 q := List.forall_mem_cons.mpr ⟨mx_okl4_0, List.forall_mem_cons.mpr ⟨mx_okl4_1, List.forall_mem_cons.mpr ⟨mx_okl4_2, List.forall_mem_cons.mpr ⟨mx_okl4_3, List.forall_mem_cons.mpr ⟨mx_okl4_4, List.forall_mem_cons.mpr ⟨mx_okl4_5, List.forall_mem_cons.mpr ⟨mx_okl4_6, List.forall_mem_cons.mpr ⟨mx_okl4_7, List.forall_mem_cons.mpr ⟨mx_okl4_8, List.forall_mem_cons.mpr ⟨mx_okl4_9, List.forall_mem_cons.mpr ⟨mx_okl4_10, List.forall_mem_cons.mpr ⟨mx_okl4_11, List.forall_mem_cons.mpr ⟨mx_okl4_12, List.forall_mem_cons.mpr ⟨mx_okl4_13, List.forall_mem_cons.mpr ⟨mx_okl4_14, List.forall_mem_cons.mpr ⟨mx_okl4_15, List.forall_mem_cons.mpr ⟨mx_okl4_16, List.forall_mem_cons.mpr ⟨mx_okl4_17, List.forall_mem_cons.mpr ⟨mx_okl4_18, List.forall_mem_cons.mpr ⟨mx_okl4_19, List.forall_mem_cons.mpr ⟨mx_okl4_20, List.forall_mem_cons.mpr ⟨mx_okl4_21, List.forall_mem_cons.mpr ⟨mx_okl4_22, List.forall_mem_cons.mpr ⟨mx_okl4_23, List.forall_mem_cons.mpr ⟨mx_okl4_24, List.forall_mem_cons.mpr ⟨mx_okl4_25, List.forall_mem_cons.mpr ⟨mx_okl4_26, List.forall_mem_cons.mpr ⟨mx_okl4_27, List.forall_mem_cons.mpr ⟨mx_okl4_28, List.forall_mem_cons.mpr ⟨mx_okl4_29, List.forall_mem_cons.mpr ⟨mx_okl4_30, List.forall_mem_cons.mpr ⟨mx_okl4_31, List.forall_mem_cons.mpr ⟨mx_okl4_32, fun _ h => absurd h List.not_mem_nil⟩⟩⟩⟩⟩⟩⟩⟩⟩⟩⟩⟩⟩⟩⟩⟩⟩⟩⟩⟩⟩⟩⟩⟩⟩⟩⟩⟩⟩⟩⟩⟩⟩
set_option maxRecDepth 100000 in
theorem mx_okl5_0 : mx_okL 5 (3, 27, 0, 0) := mx_in 289 rfl rfl
set_option maxRecDepth 100000 in
theorem mx_okl5_1 : mx_okL 5 (9, 0, 500, 0) := ⟨_, rfl, by decide, rfl, mx_in 290 rfl rfl⟩
set_option maxRecDepth 100000 in
theorem mx_okl5_2 : mx_okL 5 (15, 0, 501, 0) := ⟨_, rfl, by decide, rfl, mx_in 292 rfl rfl⟩
set_option maxRecDepth 100000 in
theorem mx_okl5_3 : mx_okL 5 (19, 4, 130, 0) := ⟨by decide, List.mem_of_getElem? (i := 20) rfl, mx_in 457 rfl rfl⟩
set_option maxRecDepth 100000 in
theorem mx_okl5_4 : mx_okL 5 (23, 0, 502, 0) := ⟨_, rfl, by decide, rfl, mx_in 294 rfl rfl⟩
set_option maxRecDepth 100000 in
theorem mx_okl5_5 : mx_okL 5 (26, 1, 59, 0) := ⟨by decide, mx_in 760 rfl rfl, mx_in 761 rfl rfl, mx_in 762 rfl rfl⟩
set_option maxRecDepth 100000 in
theorem mx_okl5_6 : mx_okL 5 (30, 4, 126, 0) := ⟨by decide, List.mem_of_getElem? (i := 16) rfl, mx_in 536 rfl rfl⟩
set_option maxRecDepth 100000 in
theorem mx_okl5_7 : mx_okL 5 (34, 4, 129, 0) := ⟨by decide, List.mem_of_getElem? (i := 17) rfl, mx_in 680 rfl rfl⟩
set_option maxRecDepth 100000 in
theorem mx_okl5_8 : mx_okL 5 (38, 4, 128, 0) := ⟨by decide, List.mem_of_getElem? (i := 18) rfl, mx_in 649 rfl rfl⟩
set_option maxRecDepth 100000 in
theorem mx_okl5 : ∀ q ∈ mx_lk 5, mx_okL 5 q := List.forall_mem_cons.mpr ⟨mx_okl5_0, List.forall_mem_cons.mpr ⟨mx_okl5_1, List.forall_mem_cons.mpr ⟨mx_okl5_2, List.forall_mem_cons.mpr ⟨mx_okl5_3, List.forall_mem_cons.mpr ⟨mx_okl5_4, List.forall_mem_cons.mpr ⟨mx_okl5_5, List.forall_mem_cons.mpr ⟨mx_okl5_6, List.forall_mem_cons.mpr ⟨mx_okl5_7, List.forall_mem_cons.mpr ⟨mx_okl5_8, fun _ h => absurd h List.not_mem_nil⟩⟩⟩⟩⟩⟩⟩⟩⟩
set_option maxRecDepth 100000 in
theorem mx_okl6_0 : mx_okL 6 (1, 27, 0, 0) := mx_in 480 rfl rfl
set_option maxRecDepth 100000 in
theorem mx_okl6_1 : mx_okL 6 (7, 0, 600, 0) := ⟨_, rfl, by decide, rfl, mx_in 481 rfl rfl⟩
set_option maxRecDepth 100000 in
theorem mx_okl6_2 : mx_okL 6 (13, 0, 601, 0) := ⟨_, rfl, by decide, rfl, mx_in 483 rfl rfl⟩
set_option maxRecDepth 100000 in
theorem mx_okl6 : ∀ q ∈ mx_lk 6, mx_okL 6 q := List.forall_mem_cons.mpr ⟨mx_okl6_0, List.forall_mem_cons.mpr ⟨mx_okl6_1, List.forall_mem_cons.mpr ⟨mx_okl6_2, fun _ h => absurd h List.not_mem_nil⟩⟩⟩
set_option maxRecDepth 100000 in
theorem mx_okl7_0 : mx_okL 7 (3, 27, 0, 0) := mx_in 258 rfl rfl
set_option maxRecDepth 100000 in
theorem mx_okl7_1 : mx_okL 7 (9, 0, 700, 0) := ⟨_, rfl, by decide, rfl, mx_in 259 rfl rfl⟩
set_option maxRecDepth 100000 in
theorem mx_okl7_2 : mx_okL 7 (15, 0, 702, 0) := ⟨_, rfl, by decide, rfl, mx_in 261 rfl rfl⟩
set_option maxRecDepth 100000 in
theorem mx_okl7_3 : mx_okL 7 (18, 0, 703, 0) := ⟨_, rfl, by decide, rfl, mx_in 262 rfl rfl⟩
set_option maxRecDepth 100000 in
theorem mx_okl7_4 : mx_okL 7 (21, 0, 704, 0) := ⟨_, rfl, by decide, rfl, mx_in 263 rfl rfl⟩
set_option maxRecDepth 100000 in
theorem mx_okl7_5 : mx_okL 7 (24, 0, 701, 0) := ⟨_, rfl, by decide, rfl, mx_in 260 rfl rfl⟩
set_option maxRecDepth 100000 in
theorem mx_okl7_6 : mx_okL 7 (28, 1, 5, 0) := ⟨by decide, mx_in 776 rfl rfl, mx_in 777 rfl rfl, mx_in 778 rfl rfl⟩
set_option maxRecDepth 100000 in
theorem mx_okl7_7 : mx_okL 7 (34, 1, 66, 0) := ⟨by decide, mx_in 784 rfl rfl, mx_in 786 rfl rfl, mx_in 22 rfl rfl⟩
set_option maxRecDepth 100000 in
theorem mx_okl7_8 : mx_okL 7 (38, 1, 75, 0) := ⟨by decide, mx_in 799 rfl rfl, mx_in 801 rfl rfl, mx_in 25 rfl rfl⟩
set_option maxRecDepth 100000 in
theorem mx_okl7_9 : mx_okL 7 (42, 0, 705, 0) := ⟨_, rfl, by decide, rfl, mx_in 264 rfl rfl⟩
set_option maxRecDepth 100000 in
theorem mx_okl7_10 : mx_okL 7 (45, 0, 706, 0) := ⟨_, rfl, by decide, rfl, mx_in 266 rfl rfl⟩
set_option maxRecDepth 100000 in
theorem mx_okl7_11 : mx_okL 7 (48, 0, 202, 0) := ⟨_, rfl, by decide, rfl, mx_in 128 rfl rfl⟩
set_option maxRecDepth 100000 in
theorem mx_okl7_12 : mx_okL 7 (53, 1, 73, 0) := ⟨by decide, mx_in 789 rfl rfl, mx_in 791 rfl rfl, mx_in 23 rfl rfl⟩
set_option maxRecDepth 100000 in
theorem mx_okl7_13 : mx_okL 7 (57, 4, 127, 0) := ⟨by decide, List.mem_of_getElem? (i := 19) rfl, mx_in 603 rfl rfl⟩
set_option maxRecDepth 100000 in
theorem mx_okl7_14 : mx_okL 7 (60, 1, 74, 0) := ⟨by decide, mx_in 794 rfl rfl, mx_in 796 rfl rfl, mx_in 24 rfl rfl⟩
set_option maxRecDepth 100000 in
theorem mx_okl7_15 : mx_okL 7 (63, 1, 46, 0) := ⟨by decide, mx_in 803 rfl rfl, mx_in 564 rfl rfl, mx_in 565 rfl rfl⟩
set_option maxRecDepth 100000 in
theorem mx_okl7_16 : mx_okL 7 (69, 9, 0, 1000000) := mx_in 788 rfl rfl
set_option maxRecDepth 100000 in
theorem mx_okl7_17 : mx_okL 7 (70, 21, 0, 0) := mx_in 798 rfl rfl
set_option maxRecDepth 100000 in
theorem mx_okl7_18 : mx_okL 7 (75, 0, 3, 0) := ⟨_, rfl, by decide, rfl, mx_in 153 rfl rfl⟩
set_option maxRecDepth 100000 in
theorem mx_okl7_19 : mx_okL 7 (78, 1, 68, 0) := ⟨by decide, mx_in 812 rfl rfl, mx_in 814 rfl rfl, mx_in 26 rfl rfl⟩
set_option maxRecDepth 100000 in
theorem mx_okl7_20 : mx_okL 7 (82, 3, 212, 0) := ⟨by decide, mx_in 818 rfl rfl, mx_in 819 rfl rfl⟩
set_option maxRecDepth 100000 in
theorem mx_okl7_21 : mx_okL 7 (87, 1, 69, 0) := ⟨by decide, mx_in 824 rfl rfl, mx_in 826 rfl rfl, mx_in 27 rfl rfl⟩
set_option maxRecDepth 100000 in
theorem mx_okl7_22 : mx_okL 7 (90, 1, 71, 0) := ⟨by decide, mx_in 832 rfl rfl, mx_in 834 rfl rfl, mx_in 29 rfl rfl⟩
set_option maxRecDepth 100000 in
theorem mx_okl7_23 : mx_okL 7 (94, 1, 2, 0) := ⟨by decide, mx_in 816 rfl rfl, mx_in 544 rfl rfl, mx_in 545 rfl rfl⟩
set_option maxRecDepth 100000 in
theorem mx_okl7_24 : mx_okL 7 (98, 1, 49, 0) := ⟨by decide, mx_in 817 rfl rfl, mx_in 609 rfl rfl, mx_in 610 rfl rfl⟩
set_option maxRecDepth 100000 in
theorem mx_okl7_25 : mx_okL 7 (101, 1, 70, 0) := ⟨by decide, mx_in 828 rfl rfl, mx_in 830 rfl rfl, mx_in 28 rfl rfl⟩
set_option maxRecDepth 100000 in
theorem mx_okl7 : ∀ q ∈ mx_lk 7, mx_okL 7 q := List.forall_mem_cons.mpr ⟨mx_okl7_0, List.forall_mem_cons.mpr ⟨mx_okl7_1, List.forall_mem_cons.mpr ⟨mx_okl7_2, List.forall_mem_cons.mpr ⟨mx_okl7_3, List.forall_mem_cons.mpr ⟨mx_okl7_4, List.forall_mem_cons.mpr ⟨mx_okl7_5, List.forall_mem_cons.mpr ⟨mx_okl7_6, List.forall_mem_cons.mpr ⟨mx_okl7_7, List.forall_mem_cons.mpr ⟨mx_okl7_8, List.forall_mem_cons.mpr ⟨mx_okl7_9, List.forall_mem_cons.mpr ⟨mx_okl7_10, List.forall_mem_cons.mpr ⟨mx_okl7_11, List.forall_mem_cons.mpr ⟨mx_okl7_12, List.forall_mem_cons.mpr ⟨mx_okl7_13, List.forall_mem_cons.mpr ⟨mx_okl7_14, List.forall_mem_cons.mpr ⟨mx_okl7_15, List.forall_mem_cons.mpr ⟨mx_okl7_16, List.forall_mem_cons.mpr ⟨mx_okl7_17, List.forall_mem_cons.mpr ⟨mx_okl7_18, List.forall_mem_cons.mpr ⟨mx_okl7_19, List.forall_mem_cons.mpr ⟨mx_okl7_20, List.forall_mem_cons.mpr ⟨mx_okl7_21, List.forall_mem_cons.mpr ⟨mx_okl7_22, List.forall_mem_cons.mpr ⟨mx_okl7_23, List.forall_mem_cons.mpr ⟨mx_okl7_24, List.forall_mem_cons.mpr ⟨mx_okl7_25, fun _ h => absurd h List.not_mem_nil⟩⟩⟩⟩⟩⟩⟩⟩⟩⟩⟩⟩⟩⟩⟩⟩⟩⟩⟩⟩⟩⟩⟩⟩⟩⟩
set_option maxRecDepth 100000 in
theorem mx_okl8_0 : mx_okL 8 (1, 27, 0, 0) := mx_in 102 rfl rfl
set_option maxRecDepth 100000 in
theorem mx_okl8_1 : mx_okL 8 (7, 7, 0, 0) := ⟨_, rfl, mx_in 105 rfl rfl, mx_in 106 rfl rfl, mx_in 80 rfl rfl⟩
set_option maxRecDepth 100000 in
theorem mx_okl8_2 : mx_okL 8 (9, 5, 0, 0) := ⟨by decide, mx_in 107 rfl rfl, mx_in 108 rfl rfl, rfl⟩
set_option maxRecDepth 100000 in
theorem mx_okl8_3 : mx_okL 8 (10, 0, 800, 0) := ⟨_, rfl, by decide, rfl, mx_in 499 rfl rfl⟩
set_option maxRecDepth 100000 in
theorem mx_okl8_4 : mx_okL 8 (16, 0, 801, 0) := ⟨_, rfl, by decide, rfl, mx_in 500 rfl rfl⟩
set_option maxRecDepth 100000 in
theorem mx_okl8_5 : mx_okL 8 (19, 0, 802, 0) := ⟨_, rfl, by decide, rfl, mx_in 501 rfl rfl⟩
set_option maxRecDepth 100000 in
theorem mx_okl8_6 : mx_okL 8 (22, 0, 803, 0) := ⟨_, rfl, by decide, rfl, mx_in 502 rfl rfl⟩
set_option maxRecDepth 100000 in
theorem mx_okl8_7 : mx_okL 8 (26, 7, 3, 0) := ⟨_, rfl, mx_in 174 rfl rfl, mx_in 175 rfl rfl, mx_in 82 rfl rfl⟩
set_option maxRecDepth 100000 in
theorem mx_okl8_8 : mx_okL 8 (28, 6, 18, 0) := ⟨by decide, List.mem_of_getElem? (i := 1) rfl, mx_in 177 rfl rfl, rfl⟩
set_option maxRecDepth 100000 in
theorem mx_okl8_9 : mx_okL 8 (29, 0, 804, 0) := ⟨_, rfl, by decide, rfl, mx_in 503 rfl rfl⟩
set_option maxRecDepth 100000 in
theorem mx_okl8_10 : mx_okL 8 (33, 7, 4, 0) := ⟨_, rfl, mx_in 213 rfl rfl, mx_in 214 rfl rfl, mx_in 83 rfl rfl⟩
set_option maxRecDepth 100000 in
theorem mx_okl8_11 : mx_okL 8 (35, 6, 43, 0) := ⟨by decide, List.mem_of_getElem? (i := 2) rfl, mx_in 216 rfl rfl, rfl⟩
set_option maxRecDepth 100000 in
theorem mx_okl8_12 : mx_okL 8 (36, 0, 805, 0) := ⟨_, rfl, by decide, rfl, mx_in 504 rfl rfl⟩
set_option maxRecDepth 100000 in
theorem mx_okl8_13 : mx_okL 8 (40, 7, 1, 0) := ⟨_, rfl, mx_in 238 rfl rfl, mx_in 239 rfl rfl, mx_in 84 rfl rfl⟩
set_option maxRecDepth 100000 in
theorem mx_okl8_14 : mx_okL 8 (42, 6, 12, 0) := ⟨by decide, List.mem_of_getElem? (i := 3) rfl, mx_in 241 rfl rfl, rfl⟩
set_option maxRecDepth 100000 in
theorem mx_okl8_15 : mx_okL 8 (43, 0, 806, 0) := ⟨_, rfl, by decide, rfl, mx_in 505 rfl rfl⟩
set_option maxRecDepth 100000 in
theorem mx_okl8_16 : mx_okL 8 (47, 7, 7, 0) := ⟨_, rfl, mx_in 253 rfl rfl, mx_in 254 rfl rfl, mx_in 85 rfl rfl⟩
set_option maxRecDepth 100000 in
theorem mx_okl8_17 : mx_okL 8 (49, 6, 63, 0) := ⟨by decide, List.mem_of_getElem? (i := 4) rfl, mx_in 256 rfl rfl, rfl⟩
set_option maxRecDepth 100000 in
theorem mx_okl8_18 : mx_okL 8 (50, 0, 807, 0) := ⟨_, rfl, by decide, rfl, mx_in 506 rfl rfl⟩
set_option maxRecDepth 100000 in
theorem mx_okl8_19 : mx_okL 8 (54, 7, 5, 0) := ⟨_, rfl, mx_in 283 rfl rfl, mx_in 285 rfl rfl, mx_in 86 rfl rfl⟩
set_option maxRecDepth 100000 in
theorem mx_okl8_20 : mx_okL 8 (54, 8, 5, 0) := ⟨_, rfl, by decide, by decide, mx_in 283 rfl rfl⟩
set_option maxRecDepth 100000 in
theorem mx_okl8_21 : mx_okL 8 (56, 0, 808, 0) := ⟨_, rfl, by decide, rfl, mx_in 507 rfl rfl⟩
set_option maxRecDepth 100000 in
theorem mx_okl8_22 : mx_okL 8 (60, 6, 56, 0) := ⟨by decide, List.mem_of_getElem? (i := 5) rfl, mx_in 287 rfl rfl, rfl⟩
set_option maxRecDepth 100000 in
theorem mx_okl8_23 : mx_okL 8 (61, 11, 1, 0) := ⟨_, rfl, by decide, rfl, rfl⟩
set_option maxRecDepth 100000 in
theorem mx_okl8_24 : mx_okL 8 (63, 25, 0, 0) := mx_in 305 rfl rfl
set_option maxRecDepth 100000 in
theorem mx_okl8_25 : mx_okL 8 (69, 26, 0, 0) := mx_in 315 rfl rfl
set_option maxRecDepth 100000 in
theorem mx_okl8_26 : mx_okL 8 (73, 1, 19, 0) := ⟨by decide, mx_in 353 rfl rfl, mx_in 354 rfl rfl, mx_in 355 rfl rfl⟩
set_option maxRecDepth 100000 in
theorem mx_okl8_27 : mx_okL 8 (77, 1, 22, 0) := ⟨by decide, mx_in 357 rfl rfl, mx_in 358 rfl rfl, mx_in 359 rfl rfl⟩
set_option maxRecDepth 100000 in
theorem mx_okl8_28 : mx_okL 8 (80, 1, 21, 0) := ⟨by decide, mx_in 452 rfl rfl, mx_in 453 rfl rfl, mx_in 454 rfl rfl⟩
set_option maxRecDepth 100000 in
theorem mx_okl8_29 : mx_okL 8 (84, 1, 44, 0) := ⟨by decide, mx_in 491 rfl rfl, mx_in 492 rfl rfl, mx_in 493 rfl rfl⟩
set_option maxRecDepth 100000 in
theorem mx_okl8_30 : mx_okL 8 (88, 1, 20, 0) := ⟨by decide, mx_in 495 rfl rfl, mx_in 496 rfl rfl, mx_in 497 rfl rfl⟩
set_option maxRecDepth 100000 in
theorem mx_okl8_31 : mx_okL 8 (91, 1, 80, 0) := ⟨by decide, mx_in 531 rfl rfl, mx_in 532 rfl rfl, mx_in 533 rfl rfl⟩
set_option maxRecDepth 100000 in
theorem mx_okl8_32 : mx_okL 8 (95, 3, 78, 0) := ⟨by decide, mx_in 547 rfl rfl, mx_in 548 rfl rfl⟩
set_option maxRecDepth 100000 in
theorem mx_okl8_33 : mx_okL 8 (98, 1, 2, 0) := ⟨by decide, mx_in 543 rfl rfl, mx_in 544 rfl rfl, mx_in 545 rfl rfl⟩
set_option maxRecDepth 100000 in
theorem mx_okl8_34 : mx_okL 8 (102, 0, 4, 0) := ⟨_, rfl, by decide, rfl, mx_in 155 rfl rfl⟩
set_option maxRecDepth 100000 in
theorem mx_okl8_35 : mx_okL 8 (106, 3, 126, 0) := ⟨by decide, mx_in 535 rfl rfl, mx_in 536 rfl rfl⟩
set_option maxRecDepth 100000 in
theorem mx_okl8_36 : mx_okL 8 (110, 0, 0, 0) := ⟨_, rfl, by decide, rfl, mx_in 146 rfl rfl⟩
set_option maxRecDepth 100000 in
theorem mx_okl8_37 : mx_okL 8 (114, 0, 1, 0) := ⟨_, rfl, by decide, rfl, mx_in 149 rfl rfl⟩
set_option maxRecDepth 100000 in
theorem mx_okl8_38 : mx_okL 8 (117, 0, 201, 0) := ⟨_, rfl, by decide, rfl, mx_in 122 rfl rfl⟩
set_option maxRecDepth 100000 in
theorem mx_okl8_39 : mx_okL 8 (122, 0, 202, 0) := ⟨_, rfl, by decide, rfl, mx_in 127 rfl rfl⟩
set_option maxRecDepth 100000 in
theorem mx_okl8_40 : mx_okL 8 (125, 1, 3, 0) := ⟨by decide, mx_in 554 rfl rfl, mx_in 555 rfl rfl, mx_in 556 rfl rfl⟩
set_option maxRecDepth 100000 in
theorem mx_okl8_41 : mx_okL 8 (129, 1, 4, 0) := ⟨by decide, mx_in 538 rfl rfl, mx_in 539 rfl rfl, mx_in 540 rfl rfl⟩
set_option maxRecDepth 100000 in
theorem mx_okl8_42 : mx_okL 8 (132, 0, 200, 0) := ⟨_, rfl, by decide, rfl, mx_in 120 rfl rfl⟩
set_option maxRecDepth 100000 in
theorem mx_okl8_43 : mx_okL 8 (135, 0, 203, 0) := ⟨_, rfl, by decide, rfl, mx_in 133 rfl rfl⟩
set_option maxRecDepth 100000 in
theorem mx_okl8_44 : mx_okL 8 (138, 1, 46, 0) := ⟨by decide, mx_in 563 rfl rfl, mx_in 564 rfl rfl, mx_in 565 rfl rfl⟩
set_option maxRecDepth 100000 in
theorem mx_okl8_45 : mx_okL 8 (142, 1, 47, 0) := ⟨by decide, mx_in 593 rfl rfl, mx_in 594 rfl rfl, mx_in 595 rfl rfl⟩
set_option maxRecDepth 100000 in
theorem mx_okl8_46 : mx_okL 8 (145, 3, 127, 0) := ⟨by decide, mx_in 602 rfl rfl, mx_in 603 rfl rfl⟩
set_option maxRecDepth 100000 in
theorem mx_okl8_47 : mx_okL 8 (148, 1, 49, 0) := ⟨by decide, mx_in 608 rfl rfl, mx_in 609 rfl rfl, mx_in 610 rfl rfl⟩
set_option maxRecDepth 100000 in
theorem mx_okl8_48 : mx_okL 8 (151, 0, 401, 0) := ⟨_, rfl, by decide, rfl, mx_in 223 rfl rfl⟩
set_option maxRecDepth 100000 in
theorem mx_okl8_49 : mx_okL 8 (154, 0, 309, 0) := ⟨_, rfl, by decide, rfl, mx_in 191 rfl rfl⟩
set_option maxRecDepth 100000 in
theorem mx_okl8_50 : mx_okL 8 (157, 1, 45, 0) := ⟨by decide, mx_in 626 rfl rfl, mx_in 581 rfl rfl, mx_in 582 rfl rfl⟩
set_option maxRecDepth 100000 in
theorem mx_okl8_51 : mx_okL 8 (161, 0, 5, 0) := ⟨_, rfl, by decide, rfl, mx_in 160 rfl rfl⟩
set_option maxRecDepth 100000 in
theorem mx_okl8_52 : mx_okL 8 (164, 1, 51, 0) := ⟨by decide, mx_in 631 rfl rfl, mx_in 632 rfl rfl, mx_in 633 rfl rfl⟩
set_option maxRecDepth 100000 in
theorem mx_okl8_53 : mx_okL 8 (168, 1, 6, 0) := ⟨by decide, mx_in 640 rfl rfl, mx_in 641 rfl rfl, mx_in 642 rfl rfl⟩
set_option maxRecDepth 100000 in
theorem mx_okl8_54 : mx_okL 8 (171, 1, 50, 0) := ⟨by decide, mx_in 661 rfl rfl, mx_in 662 rfl rfl, mx_in 663 rfl rfl⟩
set_option maxRecDepth 100000 in
theorem mx_okl8_55 : mx_okL 8 (174, 1, 13, 0) := ⟨by decide, mx_in 671 rfl rfl, mx_in 672 rfl rfl, mx_in 673 rfl rfl⟩
set_option maxRecDepth 100000 in
theorem mx_okl8_56 : mx_okL 8 (178, 0, 101, 0) := ⟨_, rfl, by decide, rfl, mx_in 247 rfl rfl⟩
set_option maxRecDepth 100000 in
theorem mx_okl8_57 : mx_okL 8 (181, 1, 1, 0) := ⟨by decide, mx_in 691 rfl rfl, mx_in 692 rfl rfl, mx_in 693 rfl rfl⟩
set_option maxRecDepth 100000 in
theorem mx_okl8_58 : mx_okL 8 (185, 0, 100, 0) := ⟨_, rfl, by decide, rfl, mx_in 245 rfl rfl⟩
set_option maxRecDepth 100000 in
theorem mx_okl8_59 : mx_okL 8 (188, 1, 7, 0) := ⟨by decide, mx_in 704 rfl rfl, mx_in 645 rfl rfl, mx_in 646 rfl rfl⟩
set_option maxRecDepth 100000 in
theorem mx_okl8_60 : mx_okL 8 (192, 3, 93, 0) := ⟨by decide, mx_in 705 rfl rfl, mx_in 706 rfl rfl⟩
set_option maxRecDepth 100000 in
theorem mx_okl8_61 : mx_okL 8 (196, 10, 0, (-4611686018427387904)) := mx_in 714 rfl rfl
set_option maxRecDepth 100000 in
theorem mx_okl8_62 : mx_okL 8 (198, 1, 52, 0) := ⟨by decide, mx_in 715 rfl rfl, mx_in 716 rfl rfl, mx_in 717 rfl rfl⟩
set_option maxRecDepth 100000 in
theorem mx_okl8_63 : mx_okL 8 (202, 3, 91, 0) := ⟨by decide, mx_in 724 rfl rfl, mx_in 725 rfl rfl⟩
set_option maxRecDepth 100000 in
theorem mx_okl8_64 : mx_okL 8 (206, 3, 92, 0) := ⟨by decide, mx_in 728 rfl rfl, mx_in 729 rfl rfl⟩
set_option maxRecDepth 100000 in
theorem mx_okl8_65 : mx_okL 8 (209, 1, 95, 0) := ⟨by decide, mx_in 732 rfl rfl, mx_in 734 rfl rfl, mx_in 19 rfl rfl⟩
set_option maxRecDepth 100000 in
theorem mx_okl8_66 : mx_okL 8 (212, 1, 96, 0) := ⟨by decide, mx_in 736 rfl rfl, mx_in 738 rfl rfl, mx_in 20 rfl rfl⟩
set_option maxRecDepth 100000 in
theorem mx_okl8_67 : mx_okL 8 (215, 1, 8, 0) := ⟨by decide, mx_in 740 rfl rfl, mx_in 741 rfl rfl, mx_in 742 rfl rfl⟩
set_option maxRecDepth 100000 in
theorem mx_okl8_68 : mx_okL 8 (218, 3, 129, 0) := ⟨by decide, mx_in 708 rfl rfl, mx_in 680 rfl rfl⟩
set_option maxRecDepth 100000 in
theorem mx_okl8_69 : mx_okL 8 (222, 10, 0, (-1)) := mx_in 727 rfl rfl
set_option maxRecDepth 100000 in
theorem mx_okl8_70 : mx_okL 8 (224, 3, 213, 0) := ⟨by decide, mx_in 731 rfl rfl, mx_in 652 rfl rfl⟩
set_option maxRecDepth 100000 in
theorem mx_okl8_71 : mx_okL 8 (229, 20, 0, 0) := mx_in 462 rfl rfl
set_option maxRecDepth 100000 in
theorem mx_okl8_72 : mx_okL 8 (234, 3, 128, 0) := ⟨by decide, mx_in 682 rfl rfl, mx_in 649 rfl rfl⟩
set_option maxRecDepth 100000 in
theorem mx_okl8_73 : mx_okL 8 (238, 3, 94, 0) := ⟨by decide, mx_in 709 rfl rfl, mx_in 710 rfl rfl⟩
set_option maxRecDepth 100000 in
theorem mx_okl8_74 : mx_okL 8 (242, 10, 0, (-34905131041)) := mx_in 712 rfl rfl
set_option maxRecDepth 100000 in
theorem mx_okl8_75 : mx_okL 8 (244, 10, 0, (-1090785346)) := mx_in 713 rfl rfl
set_option maxRecDepth 100000 in
theorem mx_okl8_76 : mx_okL 8 (246, 1, 125, 0) := ⟨by decide, mx_in 748 rfl rfl, mx_in 750 rfl rfl, mx_in 21 rfl rfl⟩
set_option maxRecDepth 100000 in
theorem mx_okl8_77 : mx_okL 8 (250, 1, 57, 0) := ⟨by decide, mx_in 752 rfl rfl, mx_in 753 rfl rfl, mx_in 754 rfl rfl⟩
set_option maxRecDepth 100000 in
theorem mx_okl8_78 : mx_okL 8 (254, 1, 61, 0) := ⟨by decide, mx_in 756 rfl rfl, mx_in 757 rfl rfl, mx_in 758 rfl rfl⟩
set_option maxRecDepth 100000 in
theorem mx_okl8_79 : mx_okL 8 (257, 0, 502, 0) := ⟨_, rfl, by decide, rfl, mx_in 296 rfl rfl⟩
set_option maxRecDepth 100000 in
theorem mx_okl8_80 : mx_okL 8 (260, 1, 59, 0) := ⟨by decide, mx_in 767 rfl rfl, mx_in 761 rfl rfl, mx_in 762 rfl rfl⟩
set_option maxRecDepth 100000 in
theorem mx_okl8_81 : mx_okL 8 (263, 1, 64, 0) := ⟨by decide, mx_in 772 rfl rfl, mx_in 773 rfl rfl, mx_in 774 rfl rfl⟩
set_option maxRecDepth 100000 in
theorem mx_okl8_82 : mx_okL 8 (267, 1, 65, 0) := ⟨by decide, mx_in 780 rfl rfl, mx_in 781 rfl rfl, mx_in 782 rfl rfl⟩
set_option maxRecDepth 100000 in
theorem mx_okl8_83 : mx_okL 8 (271, 0, 705, 0) := ⟨_, rfl, by decide, rfl, mx_in 265 rfl rfl⟩
set_option maxRecDepth 100000 in
theorem mx_okl8_84 : mx_okL 8 (274, 0, 706, 0) := ⟨_, rfl, by decide, rfl, mx_in 267 rfl rfl⟩
set_option maxRecDepth 100000 in
theorem mx_okl8_85 : mx_okL 8 (277, 1, 67, 0) := ⟨by decide, mx_in 808 rfl rfl, mx_in 809 rfl rfl, mx_in 810 rfl rfl⟩
set_option maxRecDepth 100000 in
theorem mx_okl8_86 : mx_okL 8 (281, 1, 72, 0) := ⟨by decide, mx_in 836 rfl rfl, mx_in 837 rfl rfl, mx_in 838 rfl rfl⟩
set_option maxRecDepth 100000 in
theorem mx_okl8_87 : mx_okL 8 (284, 1, 5, 0) := ⟨by decide, mx_in 848 rfl rfl, mx_in 777 rfl rfl, mx_in 778 rfl rfl⟩
set_option maxRecDepth 100000 in
theorem mx_okl8_88 : mx_okL 8 (287, 3, 102, 0) := ⟨by decide, mx_in 849 rfl rfl, mx_in 850 rfl rfl⟩
set_option maxRecDepth 100000 in
theorem mx_okl8_89 : mx_okL 8 (291, 3, 103, 0) := ⟨by decide, mx_in 852 rfl rfl, mx_in 853 rfl rfl⟩
set_option maxRecDepth 100000 in
theorem mx_okl8_90 : mx_okL 8 (294, 1, 105, 0) := ⟨by decide, mx_in 859 rfl rfl, mx_in 861 rfl rfl, mx_in 30 rfl rfl⟩
set_option maxRecDepth 100000 in
theorem mx_okl8_91 : mx_okL 8 (298, 1, 106, 0) := ⟨by decide, mx_in 863 rfl rfl, mx_in 865 rfl rfl, mx_in 31 rfl rfl⟩
set_option maxRecDepth 100000 in
theorem mx_okl8_92 : mx_okL 8 (301, 1, 107, 0) := ⟨by decide, mx_in 867 rfl rfl, mx_in 869 rfl rfl, mx_in 32 rfl rfl⟩
set_option maxRecDepth 100000 in
theorem mx_okl8_93 : mx_okL 8 (304, 1, 108, 0) := ⟨by decide, mx_in 871 rfl rfl, mx_in 873 rfl rfl, mx_in 33 rfl rfl⟩
set_option maxRecDepth 100000 in
theorem mx_okl8_94 : mx_okL 8 (307, 1, 109, 0) := ⟨by decide, mx_in 875 rfl rfl, mx_in 877 rfl rfl, mx_in 34 rfl rfl⟩
set_option maxRecDepth 100000 in
theorem mx_okl8_95 : mx_okL 8 (310, 1, 110, 0) := ⟨by decide, mx_in 879 rfl rfl, mx_in 881 rfl rfl, mx_in 35 rfl rfl⟩
set_option maxRecDepth 100000 in
theorem mx_okl8_96 : mx_okL 8 (313, 1, 111, 0) := ⟨by decide, mx_in 883 rfl rfl, mx_in 885 rfl rfl, mx_in 36 rfl rfl⟩
set_option maxRecDepth 100000 in
theorem mx_okl8_97 : mx_okL 8 (317, 1, 11, 0) := ⟨by decide, mx_in 887 rfl rfl, mx_in 888 rfl rfl, mx_in 889 rfl rfl⟩
set_option maxRecDepth 100000 in
theorem mx_okl8_98 : mx_okL 8 (321, 1, 58, 0) := ⟨by decide, mx_in 896 rfl rfl, mx_in 897 rfl rfl, mx_in 898 rfl rfl⟩
set_option maxRecDepth 100000 in
theorem mx_okl8_99 : mx_okL 8 (324, 1, 60, 0) := ⟨by decide, mx_in 901 rfl rfl, mx_in 902 rfl rfl, mx_in 903 rfl rfl⟩
set_option maxRecDepth 100000 in
theorem mx_okl8_100 : mx_okL 8 (327, 3, 114, 0) := ⟨by decide, mx_in 909 rfl rfl, mx_in 910 rfl rfl⟩
set_option maxRecDepth 100000 in
theorem mx_okl8_101 : mx_okL 8 (330, 9, 0, 1103515245) := mx_in 912 rfl rfl
set_option maxRecDepth 100000 in
theorem mx_okl8_102 : mx_okL 8 (331, 0, 3, 0) := ⟨_, rfl, by decide, rfl, mx_in 154 rfl rfl⟩
set_option maxRecDepth 100000 in
theorem mx_okl8_103 : mx_okL 8 (332, 0, 301, 0) := ⟨_, rfl, by decide, rfl, mx_in 182 rfl rfl⟩
set_option maxRecDepth 100000 in
theorem mx_okl8_104 : mx_okL 8 (333, 0, 501, 0) := ⟨_, rfl, by decide, rfl, mx_in 293 rfl rfl⟩
set_option maxRecDepth 100000 in
theorem mx_okl8_105 : mx_okL 8 (336, 0, 500, 0) := ⟨_, rfl, by decide, rfl, mx_in 291 rfl rfl⟩
set_option maxRecDepth 100000 in
theorem mx_okl8_106 : mx_okL 8 (339, 23, 0, 0) := mx_in 941 rfl rfl
set_option maxRecDepth 100000 in
theorem mx_okl8_107 : mx_okL 8 (345, 1, 79, 0) := ⟨by decide, mx_in 946 rfl rfl, mx_in 551 rfl rfl, mx_in 552 rfl rfl⟩
set_option maxRecDepth 100000 in
theorem mx_okl8_108 : mx_okL 8 (348, 3, 124, 0) := ⟨by decide, mx_in 951 rfl rfl, mx_in 952 rfl rfl⟩
set_option maxRecDepth 100000 in
theorem mx_okl8_109 : mx_okL 8 (351, 22, 0, 0) := mx_in 605 rfl rfl
set_option maxRecDepth 100000 in
theorem mx_okl8_110 : mx_okL 8 (354, 21, 0, 0) := mx_in 459 rfl rfl
set_option maxRecDepth 100000 in
theorem mx_okl8 : ∀ q ∈ mx_lk 8, mx_okL 8 q := List.forall_mem_cons.mpr ⟨mx_okl8_0, List.forall_mem_cons.mpr ⟨mx_okl8_1, List.forall_mem_cons.mpr ⟨mx_okl8_2, List.forall_mem_cons.mpr ⟨mx_okl8_3, List.forall_mem_cons.mpr ⟨mx_okl8_4, List.forall_mem_cons.mpr ⟨mx_okl8_5, List.forall_mem_cons.mpr ⟨mx_okl8_6, List.forall_mem_cons.mpr ⟨mx_okl8_7, List.forall_mem_cons.mpr ⟨mx_okl8_8, List.forall_mem_cons.mpr ⟨mx_okl8_9, List.forall_mem_cons.mpr ⟨mx_okl8_10, List.forall_mem_cons.mpr ⟨mx_okl8_11, List.forall_mem_cons.mpr ⟨mx_okl8_12, List.forall_mem_cons.mpr ⟨mx_okl8_13, List.forall_mem_cons.mpr ⟨mx_okl8_14, List.forall_mem_cons.mpr ⟨mx_okl8_15, List.forall_mem_cons.mpr ⟨mx_okl8_16, List.forall_mem_cons.mpr ⟨mx_okl8_17, List.forall_mem_cons.mpr ⟨mx_okl8_18, List.forall_mem_cons.mpr ⟨mx_okl8_19, List.forall_mem_cons.mpr ⟨mx_okl8_20, List.forall_mem_cons.mpr ⟨mx_okl8_21, List.forall_mem_cons.mpr ⟨mx_okl8_22, List.forall_mem_cons.mpr ⟨mx_okl8_23, List.forall_mem_cons.mpr ⟨mx_okl8_24, List.forall_mem_cons.mpr ⟨mx_okl8_25, List.forall_mem_cons.mpr ⟨mx_okl8_26, List.forall_mem_cons.mpr ⟨mx_okl8_27, List.forall_mem_cons.mpr ⟨mx_okl8_28, List.forall_mem_cons.mpr ⟨mx_okl8_29, List.forall_mem_cons.mpr ⟨mx_okl8_30, List.forall_mem_cons.mpr ⟨mx_okl8_31, List.forall_mem_cons.mpr ⟨mx_okl8_32, List.forall_mem_cons.mpr ⟨mx_okl8_33, List.forall_mem_cons.mpr ⟨mx_okl8_34, List.forall_mem_cons.mpr ⟨mx_okl8_35, List.forall_mem_cons.mpr ⟨mx_okl8_36, List.forall_mem_cons.mpr ⟨mx_okl8_37, List.forall_mem_cons.mpr ⟨mx_okl8_38, List.forall_mem_cons.mpr ⟨mx_okl8_39, List.forall_mem_cons.mpr ⟨mx_okl8_40, List.forall_mem_cons.mpr ⟨mx_okl8_41, List.forall_mem_cons.mpr ⟨mx_okl8_42, List.forall_mem_cons.mpr ⟨mx_okl8_43, List.forall_mem_cons.mpr ⟨mx_okl8_44, List.forall_mem_cons.mpr ⟨mx_okl8_45, List.forall_mem_cons.mpr ⟨mx_okl8_46, List.forall_mem_cons.mpr ⟨mx_okl8_47, List.forall_mem_cons.mpr ⟨mx_okl8_48, List.forall_mem_cons.mpr ⟨mx_okl8_49, List.forall_mem_cons.mpr ⟨mx_okl8_50, List.forall_mem_cons.mpr ⟨mx_okl8_51, List.forall_mem_cons.mpr ⟨mx_okl8_52, List.forall_mem_cons.mpr ⟨mx_okl8_53, List.forall_mem_cons.mpr ⟨mx_okl8_54, List.forall_mem_cons.mpr ⟨mx_okl8_55, List.forall_mem_cons.mpr ⟨mx_okl8_56, List.forall_mem_cons.mpr ⟨mx_okl8_57, List.forall_mem_cons.mpr ⟨mx_okl8_58, List.forall_mem_cons.mpr ⟨mx_okl8_59, List.forall_mem_cons.mpr ⟨mx_okl8_60, List.forall_mem_cons.mpr ⟨mx_okl8_61, List.forall_mem_cons.mpr ⟨mx_okl8_62, List.forall_mem_cons.mpr ⟨mx_okl8_63, List.forall_mem_cons.mpr ⟨mx_okl8_64, List.forall_mem_cons.mpr ⟨mx_okl8_65, List.forall_mem_cons.mpr ⟨mx_okl8_66, List.forall_mem_cons.mpr ⟨mx_okl8_67, List.forall_mem_cons.mpr ⟨mx_okl8_68, List.forall_mem_cons.mpr ⟨mx_okl8_69, List.forall_mem_cons.mpr ⟨mx_okl8_70, List.forall_mem_cons.mpr ⟨mx_okl8_71, List.forall_mem_cons.mpr ⟨mx_okl8_72, List.forall_mem_cons.mpr ⟨mx_okl8_73, List.forall_mem_cons.mpr ⟨mx_okl8_74, List.forall_mem_cons.mpr ⟨mx_okl8_75, List.forall_mem_cons.mpr ⟨mx_okl8_76, List.forall_mem_cons.mpr ⟨mx_okl8_77, List.forall_mem_cons.mpr ⟨mx_okl8_78, List.forall_mem_cons.mpr ⟨mx_okl8_79, List.forall_mem_cons.mpr ⟨mx_okl8_80, List.forall_mem_cons.mpr ⟨mx_okl8_81, List.forall_mem_cons.mpr ⟨mx_okl8_82, List.forall_mem_cons.mpr ⟨mx_okl8_83, List.forall_mem_cons.mpr ⟨mx_okl8_84, List.forall_mem_cons.mpr ⟨mx_okl8_85, List.forall_mem_cons.mpr ⟨mx_okl8_86, List.forall_mem_cons.mpr ⟨mx_okl8_87, List.forall_mem_cons.mpr ⟨mx_okl8_88, List.forall_mem_cons.mpr ⟨mx_okl8_89, List.forall_mem_cons.mpr ⟨mx_okl8_90, List.forall_mem_cons.mpr ⟨mx_okl8_91, List.forall_mem_cons.mpr ⟨mx_okl8_92, List.forall_mem_cons.mpr ⟨mx_okl8_93, List.forall_mem_cons.mpr ⟨mx_okl8_94, List.forall_mem_cons.mpr ⟨mx_okl8_95, List.forall_mem_cons.mpr ⟨mx_okl8_96, List.forall_mem_cons.mpr ⟨mx_okl8_97, List.forall_mem_cons.mpr ⟨mx_okl8_98, List.forall_mem_cons.mpr ⟨mx_okl8_99, List.forall_mem_cons.mpr ⟨mx_okl8_100, List.forall_mem_cons.mpr ⟨mx_okl8_101, List.forall_mem_cons.mpr ⟨mx_okl8_102, List.forall_mem_cons.mpr ⟨mx_okl8_103, List.forall_mem_cons.mpr ⟨mx_okl8_104, List.forall_mem_cons.mpr ⟨mx_okl8_105, List.forall_mem_cons.mpr ⟨mx_okl8_106, List.forall_mem_cons.mpr ⟨mx_okl8_107, List.forall_mem_cons.mpr ⟨mx_okl8_108, List.forall_mem_cons.mpr ⟨mx_okl8_109, List.forall_mem_cons.mpr ⟨mx_okl8_110, fun _ h => absurd h List.not_mem_nil⟩⟩⟩⟩⟩⟩⟩⟩⟩⟩⟩⟩⟩⟩⟩⟩⟩⟩⟩⟩⟩⟩⟩⟩⟩⟩⟩⟩⟩⟩⟩⟩⟩⟩⟩⟩⟩⟩⟩⟩⟩⟩⟩⟩⟩⟩⟩⟩⟩⟩⟩⟩⟩⟩⟩⟩⟩⟩⟩⟩⟩⟩⟩⟩⟩⟩⟩⟩⟩⟩⟩⟩⟩⟩⟩⟩⟩⟩⟩⟩⟩⟩⟩⟩⟩⟩⟩⟩⟩⟩⟩⟩⟩⟩⟩⟩⟩⟩⟩⟩⟩⟩⟩⟩⟩⟩⟩⟩⟩⟩⟩
set_option maxRecDepth 100000 in
theorem mx_okl9_0 : mx_okL 9 (1, 27, 0, 0) := mx_in 959 rfl rfl
set_option maxRecDepth 100000 in
theorem mx_okl9_1 : mx_okL 9 (7, 0, 900, 0) := ⟨_, rfl, by decide, rfl, mx_in 964 rfl rfl⟩
set_option maxRecDepth 100000 in
theorem mx_okl9_2 : mx_okL 9 (13, 0, 901, 0) := ⟨_, rfl, by decide, rfl, mx_in 965 rfl rfl⟩
set_option maxRecDepth 100000 in
theorem mx_okl9_3 : mx_okL 9 (16, 0, 902, 0) := ⟨_, rfl, by decide, rfl, mx_in 966 rfl rfl⟩
set_option maxRecDepth 100000 in
theorem mx_okl9_4 : mx_okL 9 (19, 0, 904, 0) := ⟨_, rfl, by decide, rfl, mx_in 968 rfl rfl⟩
set_option maxRecDepth 100000 in
theorem mx_okl9_5 : mx_okL 9 (22, 0, 910, 0) := ⟨_, rfl, by decide, rfl, mx_in 974 rfl rfl⟩
set_option maxRecDepth 100000 in
theorem mx_okl9_6 : mx_okL 9 (25, 0, 911, 0) := ⟨_, rfl, by decide, rfl, mx_in 975 rfl rfl⟩
set_option maxRecDepth 100000 in
theorem mx_okl9_7 : mx_okL 9 (28, 1, 146, 0) := ⟨by decide, mx_in 960 rfl rfl, mx_in 962 rfl rfl, mx_in 37 rfl rfl⟩
set_option maxRecDepth 100000 in
theorem mx_okl9_8 : mx_okL 9 (32, 0, 912, 0) := ⟨_, rfl, by decide, rfl, mx_in 976 rfl rfl⟩
set_option maxRecDepth 100000 in
theorem mx_okl9_9 : mx_okL 9 (36, 0, 914, 0) := ⟨_, rfl, by decide, rfl, mx_in 978 rfl rfl⟩
set_option maxRecDepth 100000 in
theorem mx_okl9_10 : mx_okL 9 (40, 0, 915, 0) := ⟨_, rfl, by decide, rfl, mx_in 979 rfl rfl⟩
set_option maxRecDepth 100000 in
theorem mx_okl9_11 : mx_okL 9 (43, 0, 917, 0) := ⟨_, rfl, by decide, rfl, mx_in 981 rfl rfl⟩
set_option maxRecDepth 100000 in
theorem mx_okl9_12 : mx_okL 9 (46, 0, 921, 0) := ⟨_, rfl, by decide, rfl, mx_in 985 rfl rfl⟩
set_option maxRecDepth 100000 in
theorem mx_okl9_13 : mx_okL 9 (49, 0, 922, 0) := ⟨_, rfl, by decide, rfl, mx_in 986 rfl rfl⟩
set_option maxRecDepth 100000 in
theorem mx_okl9_14 : mx_okL 9 (53, 0, 924, 0) := ⟨_, rfl, by decide, rfl, mx_in 988 rfl rfl⟩
set_option maxRecDepth 100000 in
theorem mx_okl9_15 : mx_okL 9 (56, 0, 925, 0) := ⟨_, rfl, by decide, rfl, mx_in 989 rfl rfl⟩
set_option maxRecDepth 100000 in
theorem mx_okl9_16 : mx_okL 9 (59, 0, 929, 0) := ⟨_, rfl, by decide, rfl, mx_in 993 rfl rfl⟩
set_option maxRecDepth 100000 in
theorem mx_okl9_17 : mx_okL 9 (62, 0, 930, 0) := ⟨_, rfl, by decide, rfl, mx_in 994 rfl rfl⟩
set_option maxRecDepth 100000 in
theorem mx_okl9_18 : mx_okL 9 (65, 0, 931, 0) := ⟨_, rfl, by decide, rfl, mx_in 995 rfl rfl⟩
set_option maxRecDepth 100000 in
theorem mx_okl9_19 : mx_okL 9 (68, 0, 932, 0) := ⟨_, rfl, by decide, rfl, mx_in 996 rfl rfl⟩
set_option maxRecDepth 100000 in
theorem mx_okl9_20 : mx_okL 9 (71, 0, 933, 0) := ⟨_, rfl, by decide, rfl, mx_in 997 rfl rfl⟩
set_option maxRecDepth 100000 in
theorem mx_okl9_21 : mx_okL 9 (74, 0, 934, 0) := ⟨_, rfl, by decide, rfl, mx_in 998 rfl rfl⟩
set_option maxRecDepth 100000 in
theorem mx_okl9_22 : mx_okL 9 (77, 0, 935, 0) := ⟨_, rfl, by decide, rfl, mx_in 999 rfl rfl⟩
set_option maxRecDepth 100000 in
theorem mx_okl9_23 : mx_okL 9 (80, 21, 0, 0) := mx_in 1209 rfl rfl
set_option maxRecDepth 100000 in
theorem mx_okl9_24 : mx_okL 9 (86, 20, 0, 0) := mx_in 1210 rfl rfl
set_option maxRecDepth 100000 in
theorem mx_okl9_25 : mx_okL 9 (89, 3, 132, 0) := ⟨by decide, mx_in 1079 rfl rfl, mx_in 1080 rfl rfl⟩
set_option maxRecDepth 100000 in
theorem mx_okl9_26 : mx_okL 9 (93, 22, 0, 0) := mx_in 1195 rfl rfl
set_option maxRecDepth 100000 in
theorem mx_okl9_27 : mx_okL 9 (97, 3, 138, 0) := ⟨by decide, mx_in 1086 rfl rfl, mx_in 1087 rfl rfl⟩
set_option maxRecDepth 100000 in
theorem mx_okl9_28 : mx_okL 9 (101, 1, 137, 0) := ⟨by decide, mx_in 1089 rfl rfl, mx_in 1091 rfl rfl, mx_in 39 rfl rfl⟩
set_option maxRecDepth 100000 in
theorem mx_okl9_29 : mx_okL 9 (104, 1, 142, 0) := ⟨by decide, mx_in 1082 rfl rfl, mx_in 1084 rfl rfl, mx_in 38 rfl rfl⟩
set_option maxRecDepth 100000 in
theorem mx_okl9_30 : mx_okL 9 (107, 1, 136, 0) := ⟨by decide, mx_in 1097 rfl rfl, mx_in 1099 rfl rfl, mx_in 40 rfl rfl⟩
set_option maxRecDepth 100000 in
theorem mx_okl9_31 : mx_okL 9 (110, 0, 905, 0) := ⟨_, rfl, by decide, rfl, mx_in 969 rfl rfl⟩
set_option maxRecDepth 100000 in
theorem mx_okl9_32 : mx_okL 9 (113, 0, 906, 0) := ⟨_, rfl, by decide, rfl, mx_in 970 rfl rfl⟩
set_option maxRecDepth 100000 in
theorem mx_okl9_33 : mx_okL 9 (116, 0, 907, 0) := ⟨_, rfl, by decide, rfl, mx_in 971 rfl rfl⟩
set_option maxRecDepth 100000 in
theorem mx_okl9_34 : mx_okL 9 (119, 1, 148, 0) := ⟨by decide, mx_in 1121 rfl rfl, mx_in 1123 rfl rfl, mx_in 43 rfl rfl⟩
set_option maxRecDepth 100000 in
theorem mx_okl9_35 : mx_okL 9 (122, 0, 908, 0) := ⟨_, rfl, by decide, rfl, mx_in 972 rfl rfl⟩
set_option maxRecDepth 100000 in
theorem mx_okl9_36 : mx_okL 9 (125, 0, 913, 0) := ⟨_, rfl, by decide, rfl, mx_in 977 rfl rfl⟩
set_option maxRecDepth 100000 in
theorem mx_okl9_37 : mx_okL 9 (128, 0, 916, 0) := ⟨_, rfl, by decide, rfl, mx_in 980 rfl rfl⟩
set_option maxRecDepth 100000 in
theorem mx_okl9_38 : mx_okL 9 (131, 3, 153, 0) := ⟨by decide, mx_in 1153 rfl rfl, mx_in 1154 rfl rfl⟩
set_option maxRecDepth 100000 in
theorem mx_okl9_39 : mx_okL 9 (134, 1, 155, 0) := ⟨by decide, mx_in 1149 rfl rfl, mx_in 1151 rfl rfl, mx_in 50 rfl rfl⟩
set_option maxRecDepth 100000 in
theorem mx_okl9_40 : mx_okL 9 (137, 1, 152, 0) := ⟨by decide, mx_in 1137 rfl rfl, mx_in 1139 rfl rfl, mx_in 47 rfl rfl⟩
set_option maxRecDepth 100000 in
theorem mx_okl9_41 : mx_okL 9 (141, 0, 909, 0) := ⟨_, rfl, by decide, rfl, mx_in 973 rfl rfl⟩
set_option maxRecDepth 100000 in
theorem mx_okl9_42 : mx_okL 9 (144, 1, 150, 0) := ⟨by decide, mx_in 1125 rfl rfl, mx_in 1127 rfl rfl, mx_in 44 rfl rfl⟩
set_option maxRecDepth 100000 in
theorem mx_okl9_43 : mx_okL 9 (147, 1, 151, 0) := ⟨by decide, mx_in 1145 rfl rfl, mx_in 1147 rfl rfl, mx_in 49 rfl rfl⟩
set_option maxRecDepth 100000 in
theorem mx_okl9_44 : mx_okL 9 (150, 1, 158, 0) := ⟨by decide, mx_in 1141 rfl rfl, mx_in 1143 rfl rfl, mx_in 48 rfl rfl⟩
set_option maxRecDepth 100000 in
theorem mx_okl9_45 : mx_okL 9 (153, 1, 154, 0) := ⟨by decide, mx_in 1156 rfl rfl, mx_in 1158 rfl rfl, mx_in 51 rfl rfl⟩
set_option maxRecDepth 100000 in
theorem mx_okl9_46 : mx_okL 9 (156, 1, 159, 0) := ⟨by decide, mx_in 1133 rfl rfl, mx_in 1135 rfl rfl, mx_in 46 rfl rfl⟩
set_option maxRecDepth 100000 in
theorem mx_okl9_47 : mx_okL 9 (159, 1, 149, 0) := ⟨by decide, mx_in 1117 rfl rfl, mx_in 1119 rfl rfl, mx_in 42 rfl rfl⟩
set_option maxRecDepth 100000 in
theorem mx_okl9_48 : mx_okL 9 (162, 1, 156, 0) := ⟨by decide, mx_in 1160 rfl rfl, mx_in 1162 rfl rfl, mx_in 52 rfl rfl⟩
set_option maxRecDepth 100000 in
theorem mx_okl9_49 : mx_okL 9 (165, 1, 157, 0) := ⟨by decide, mx_in 1164 rfl rfl, mx_in 1166 rfl rfl, mx_in 53 rfl rfl⟩
set_option maxRecDepth 100000 in
theorem mx_okl9_50 : mx_okL 9 (168, 1, 160, 0) := ⟨by decide, mx_in 1129 rfl rfl, mx_in 1131 rfl rfl, mx_in 45 rfl rfl⟩
set_option maxRecDepth 100000 in
theorem mx_okl9_51 : mx_okL 9 (172, 1, 161, 0) := ⟨by decide, mx_in 1113 rfl rfl, mx_in 1115 rfl rfl, mx_in 41 rfl rfl⟩
set_option maxRecDepth 100000 in
theorem mx_okl9_52 : mx_okL 9 (175, 3, 164, 0) := ⟨by decide, mx_in 1200 rfl rfl, mx_in 1201 rfl rfl⟩
set_option maxRecDepth 100000 in
theorem mx_okl9_53 : mx_okL 9 (179, 0, 920, 0) := ⟨_, rfl, by decide, rfl, mx_in 984 rfl rfl⟩
set_option maxRecDepth 100000 in
theorem mx_okl9_54 : mx_okL 9 (182, 1, 167, 0) := ⟨by decide, mx_in 1188 rfl rfl, mx_in 1190 rfl rfl, mx_in 57 rfl rfl⟩
set_option maxRecDepth 100000 in
theorem mx_okl9_55 : mx_okL 9 (185, 0, 919, 0) := ⟨_, rfl, by decide, rfl, mx_in 983 rfl rfl⟩
set_option maxRecDepth 100000 in
theorem mx_okl9_56 : mx_okL 9 (188, 3, 165, 0) := ⟨by decide, mx_in 1203 rfl rfl, mx_in 1204 rfl rfl⟩
set_option maxRecDepth 100000 in
theorem mx_okl9_57 : mx_okL 9 (192, 3, 140, 0) := ⟨by decide, mx_in 1192 rfl rfl, mx_in 1193 rfl rfl⟩
set_option maxRecDepth 100000 in
theorem mx_okl9_58 : mx_okL 9 (195, 1, 139, 0) := ⟨by decide, mx_in 1196 rfl rfl, mx_in 1198 rfl rfl, mx_in 58 rfl rfl⟩
set_option maxRecDepth 100000 in
theorem mx_okl9_59 : mx_okL 9 (198, 0, 918, 0) := ⟨_, rfl, by decide, rfl, mx_in 982 rfl rfl⟩
set_option maxRecDepth 100000 in
theorem mx_okl9_60 : mx_okL 9 (201, 1, 166, 0) := ⟨by decide, mx_in 1184 rfl rfl, mx_in 1186 rfl rfl, mx_in 56 rfl rfl⟩
set_option maxRecDepth 100000 in
theorem mx_okl9_61 : mx_okL 9 (204, 3, 133, 0) := ⟨by decide, mx_in 1206 rfl rfl, mx_in 1207 rfl rfl⟩
set_option maxRecDepth 100000 in
theorem mx_okl9_62 : mx_okL 9 (207, 1, 168, 0) := ⟨by decide, mx_in 1176 rfl rfl, mx_in 1178 rfl rfl, mx_in 54 rfl rfl⟩
set_option maxRecDepth 100000 in
theorem mx_okl9_63 : mx_okL 9 (210, 1, 141, 0) := ⟨by decide, mx_in 1215 rfl rfl, mx_in 1217 rfl rfl, mx_in 60 rfl rfl⟩
set_option maxRecDepth 100000 in
theorem mx_okl9_64 : mx_okL 9 (212, 1, 169, 0) := ⟨by decide, mx_in 1180 rfl rfl, mx_in 1182 rfl rfl, mx_in 55 rfl rfl⟩
set_option maxRecDepth 100000 in
theorem mx_okl9_65 : mx_okL 9 (215, 1, 170, 0) := ⟨by decide, mx_in 1211 rfl rfl, mx_in 1213 rfl rfl, mx_in 59 rfl rfl⟩
set_option maxRecDepth 100000 in
theorem mx_okl9_66 : mx_okL 9 (218, 1, 171, 0) := ⟨by decide, mx_in 1219 rfl rfl, mx_in 1221 rfl rfl, mx_in 61 rfl rfl⟩
set_option maxRecDepth 100000 in
theorem mx_okl9_67 : mx_okL 9 (221, 1, 173, 0) := ⟨by decide, mx_in 1227 rfl rfl, mx_in 1229 rfl rfl, mx_in 62 rfl rfl⟩
set_option maxRecDepth 100000 in
theorem mx_okl9_68 : mx_okL 9 (224, 1, 174, 0) := ⟨by decide, mx_in 1231 rfl rfl, mx_in 1233 rfl rfl, mx_in 63 rfl rfl⟩
set_option maxRecDepth 100000 in
theorem mx_okl9_69 : mx_okL 9 (227, 1, 176, 0) := ⟨by decide, mx_in 1239 rfl rfl, mx_in 1241 rfl rfl, mx_in 64 rfl rfl⟩
set_option maxRecDepth 100000 in
theorem mx_okl9_70 : mx_okL 9 (230, 1, 178, 0) := ⟨by decide, mx_in 1251 rfl rfl, mx_in 1253 rfl rfl, mx_in 66 rfl rfl⟩
set_option maxRecDepth 100000 in
theorem mx_okl9_71 : mx_okL 9 (233, 0, 923, 0) := ⟨_, rfl, by decide, rfl, mx_in 987 rfl rfl⟩
set_option maxRecDepth 100000 in
theorem mx_okl9_72 : mx_okL 9 (236, 1, 179, 0) := ⟨by decide, mx_in 1247 rfl rfl, mx_in 1249 rfl rfl, mx_in 65 rfl rfl⟩
set_option maxRecDepth 100000 in
theorem mx_okl9_73 : mx_okL 9 (239, 1, 134, 0) := ⟨by decide, mx_in 1259 rfl rfl, mx_in 1261 rfl rfl, mx_in 67 rfl rfl⟩
set_option maxRecDepth 100000 in
theorem mx_okl9_74 : mx_okL 9 (243, 1, 135, 0) := ⟨by decide, mx_in 1263 rfl rfl, mx_in 1265 rfl rfl, mx_in 68 rfl rfl⟩
set_option maxRecDepth 100000 in
theorem mx_okl9_75 : mx_okL 9 (246, 1, 182, 0) := ⟨by decide, mx_in 1271 rfl rfl, mx_in 1273 rfl rfl, mx_in 69 rfl rfl⟩
set_option maxRecDepth 100000 in
theorem mx_okl9_76 : mx_okL 9 (250, 10, 0, (-4611686018427387904)) := mx_in 1275 rfl rfl
set_option maxRecDepth 100000 in
theorem mx_okl9_77 : mx_okL 9 (252, 1, 185, 0) := ⟨by decide, mx_in 1284 rfl rfl, mx_in 1286 rfl rfl, mx_in 71 rfl rfl⟩
set_option maxRecDepth 100000 in
theorem mx_okl9_78 : mx_okL 9 (255, 1, 184, 0) := ⟨by decide, mx_in 1280 rfl rfl, mx_in 1282 rfl rfl, mx_in 70 rfl rfl⟩
set_option maxRecDepth 100000 in
theorem mx_okl9_79 : mx_okL 9 (258, 3, 213, 0) := ⟨by decide, mx_in 1288 rfl rfl, mx_in 652 rfl rfl⟩
set_option maxRecDepth 100000 in
theorem mx_okl9_80 : mx_okL 9 (264, 3, 196, 0) := ⟨by decide, mx_in 1293 rfl rfl, mx_in 1294 rfl rfl⟩
set_option maxRecDepth 100000 in
theorem mx_okl9_81 : mx_okL 9 (267, 0, 926, 0) := ⟨_, rfl, by decide, rfl, mx_in 990 rfl rfl⟩
set_option maxRecDepth 100000 in
theorem mx_okl9_82 : mx_okL 9 (270, 0, 927, 0) := ⟨_, rfl, by decide, rfl, mx_in 991 rfl rfl⟩
set_option maxRecDepth 100000 in
theorem mx_okl9_83 : mx_okL 9 (273, 0, 928, 0) := ⟨_, rfl, by decide, rfl, mx_in 992 rfl rfl⟩
set_option maxRecDepth 100000 in
theorem mx_okl9_84 : mx_okL 9 (276, 1, 189, 0) := ⟨by decide, mx_in 1305 rfl rfl, mx_in 1307 rfl rfl, mx_in 73 rfl rfl⟩
set_option maxRecDepth 100000 in
theorem mx_okl9_85 : mx_okL 9 (280, 1, 188, 0) := ⟨by decide, mx_in 1300 rfl rfl, mx_in 1302 rfl rfl, mx_in 72 rfl rfl⟩
set_option maxRecDepth 100000 in
theorem mx_okl9_86 : mx_okL 9 (285, 9, 0, 2147483647) := mx_in 1304 rfl rfl
set_option maxRecDepth 100000 in
theorem mx_okl9_87 : mx_okL 9 (286, 1, 191, 0) := ⟨by decide, mx_in 1313 rfl rfl, mx_in 1315 rfl rfl, mx_in 74 rfl rfl⟩
set_option maxRecDepth 100000 in
theorem mx_okl9_88 : mx_okL 9 (289, 3, 194, 0) := ⟨by decide, mx_in 1325 rfl rfl, mx_in 1326 rfl rfl⟩
set_option maxRecDepth 100000 in
theorem mx_okl9_89 : mx_okL 9 (293, 1, 144, 0) := ⟨by decide, mx_in 1344 rfl rfl, mx_in 1094 rfl rfl, mx_in 1095 rfl rfl⟩
set_option maxRecDepth 100000 in
theorem mx_okl9_90 : mx_okL 9 (296, 1, 202, 0) := ⟨by decide, mx_in 1353 rfl rfl, mx_in 1355 rfl rfl, mx_in 75 rfl rfl⟩
set_option maxRecDepth 100000 in
theorem mx_okl9_91 : mx_okL 9 (299, 1, 203, 0) := ⟨by decide, mx_in 1357 rfl rfl, mx_in 1359 rfl rfl, mx_in 76 rfl rfl⟩
set_option maxRecDepth 100000 in
theorem mx_okl9_92 : mx_okL 9 (303, 1, 204, 0) := ⟨by decide, mx_in 1361 rfl rfl, mx_in 1363 rfl rfl, mx_in 77 rfl rfl⟩
set_option maxRecDepth 100000 in
theorem mx_okl9_93 : mx_okL 9 (307, 1, 197, 0) := ⟨by decide, mx_in 1369 rfl rfl, mx_in 1329 rfl rfl, mx_in 1330 rfl rfl⟩
set_option maxRecDepth 100000 in
theorem mx_okl9_94 : mx_okL 9 (310, 9, 0, 1103515245) := mx_in 1374 rfl rfl
set_option maxRecDepth 100000 in
theorem mx_okl9_95 : mx_okL 9 (311, 1, 207, 0) := ⟨by decide, mx_in 1379 rfl rfl, mx_in 1371 rfl rfl, mx_in 1372 rfl rfl⟩
set_option maxRecDepth 100000 in
theorem mx_okl9_96 : mx_okL 9 (314, 0, 903, 0) := ⟨_, rfl, by decide, rfl, mx_in 967 rfl rfl⟩
set_option maxRecDepth 100000 in
theorem mx_okl9 : ∀ q ∈ mx_lk 9, mx_okL 9 q := List.forall_mem_cons.mpr ⟨mx_okl9_0, List.forall_mem_cons.mpr ⟨mx_okl9_1, List.forall_mem_cons.mpr ⟨mx_okl9_2, List.forall_mem_cons.mpr ⟨mx_okl9_3, List.forall_mem_cons.mpr ⟨mx_okl9_4, List.forall_mem_cons.mpr ⟨mx_okl9_5, List.forall_mem_cons.mpr ⟨mx_okl9_6, List.forall_mem_cons.mpr ⟨mx_okl9_7, List.forall_mem_cons.mpr ⟨mx_okl9_8, List.forall_mem_cons.mpr ⟨mx_okl9_9, List.forall_mem_cons.mpr ⟨mx_okl9_10, List.forall_mem_cons.mpr ⟨mx_okl9_11, List.forall_mem_cons.mpr ⟨mx_okl9_12, List.forall_mem_cons.mpr ⟨mx_okl9_13, List.forall_mem_cons.mpr ⟨mx_okl9_14, List.forall_mem_cons.mpr ⟨mx_okl9_15, List.forall_mem_cons.mpr ⟨mx_okl9_16, List.forall_mem_cons.mpr ⟨mx_okl9_17, List.forall_mem_cons.mpr ⟨mx_okl9_18, List.forall_mem_cons.mpr ⟨mx_okl9_19, List.forall_mem_cons.mpr ⟨mx_okl9_20, List.forall_mem_cons.mpr ⟨mx_okl9_21, List.forall_mem_cons.mpr ⟨mx_okl9_22, List.forall_mem_cons.mpr ⟨mx_okl9_23, List.forall_mem_cons.mpr ⟨mx_okl9_24, List.forall_mem_cons.mpr ⟨mx_okl9_25, List.forall_mem_cons.mpr ⟨mx_okl9_26, List.forall_mem_cons.mpr ⟨mx_okl9_27, List.forall_mem_cons.mpr ⟨mx_okl9_28, List.forall_mem_cons.mpr ⟨mx_okl9_29, List.forall_mem_cons.mpr ⟨mx_okl9_30, List.forall_mem_cons.mpr ⟨mx_okl9_31, List.forall_mem_cons.mpr ⟨mx_okl9_32, List.forall_mem_cons.mpr ⟨mx_okl9_33, List.forall_mem_cons.mpr ⟨mx_okl9_34, List.forall_mem_cons.mpr ⟨mx_okl9_35, List.forall_mem_cons.mpr ⟨mx_okl9_36, List.forall_mem_cons.mpr ⟨mx_okl9_37, List.forall_mem_cons.mpr ⟨mx_okl9_38, List.forall_mem_cons.mpr ⟨mx_okl9_39, List.forall_mem_cons.mpr ⟨mx_okl9_40, List.forall_mem_cons.mpr ⟨mx_okl9_41, List.forall_mem_cons.mpr ⟨mx_okl9_42, List.forall_mem_cons.mpr ⟨mx_okl9_43, List.forall_mem_cons.mpr ⟨mx_okl9_44, List.forall_mem_cons.mpr ⟨mx_okl9_45, List.forall_mem_cons.mpr ⟨mx_okl9_46, List.forall_mem_cons.mpr ⟨mx_okl9_47, List.forall_mem_cons.mpr ⟨mx_okl9_48, List.forall_mem_cons.mpr ⟨mx_okl9_49, List.forall_mem_cons.mpr ⟨mx_okl9_50, List.forall_mem_cons.mpr ⟨mx_okl9_51, List.forall_mem_cons.mpr ⟨mx_okl9_52, List.forall_mem_cons.mpr ⟨mx_okl9_53, List.forall_mem_cons.mpr ⟨mx_okl9_54, List.forall_mem_cons.mpr ⟨mx_okl9_55, List.forall_mem_cons.mpr ⟨mx_okl9_56, List.forall_mem_cons.mpr ⟨mx_okl9_57, List.forall_mem_cons.mpr ⟨mx_okl9_58, List.forall_mem_cons.mpr ⟨mx_okl9_59, List.forall_mem_cons.mpr ⟨mx_okl9_60, List.forall_mem_cons.mpr ⟨mx_okl9_61, List.forall_mem_cons.mpr ⟨mx_okl9_62, List.forall_mem_cons.mpr ⟨mx_okl9_63, List.forall_mem_cons.mpr ⟨mx_okl9_64, List.forall_mem_cons.mpr ⟨mx_okl9_65, List.forall_mem_cons.mpr ⟨mx_okl9_66, List.forall_mem_cons.mpr ⟨mx_okl9_67, List.forall_mem_cons.mpr ⟨mx_okl9_68, List.forall_mem_cons.mpr ⟨mx_okl9_69, List.forall_mem_cons.mpr ⟨mx_okl9_70, List.forall_mem_cons.mpr ⟨mx_okl9_71, List.forall_mem_cons.mpr ⟨mx_okl9_72, List.forall_mem_cons.mpr ⟨mx_okl9_73, List.forall_mem_cons.mpr ⟨mx_okl9_74, List.forall_mem_cons.mpr ⟨mx_okl9_75, List.forall_mem_cons.mpr ⟨mx_okl9_76, List.forall_mem_cons.mpr ⟨mx_okl9_77, List.forall_mem_cons.mpr ⟨mx_okl9_78, List.forall_mem_cons.mpr ⟨mx_okl9_79, List.forall_mem_cons.mpr ⟨mx_okl9_80, List.forall_mem_cons.mpr ⟨mx_okl9_81, List.forall_mem_cons.mpr ⟨mx_okl9_82, List.forall_mem_cons.mpr ⟨mx_okl9_83, List.forall_mem_cons.mpr ⟨mx_okl9_84, List.forall_mem_cons.mpr ⟨mx_okl9_85, List.forall_mem_cons.mpr ⟨mx_okl9_86, List.forall_mem_cons.mpr ⟨mx_okl9_87, List.forall_mem_cons.mpr ⟨mx_okl9_88, List.forall_mem_cons.mpr ⟨mx_okl9_89, List.forall_mem_cons.mpr ⟨mx_okl9_90, List.forall_mem_cons.mpr ⟨mx_okl9_91, List.forall_mem_cons.mpr ⟨mx_okl9_92, List.forall_mem_cons.mpr ⟨mx_okl9_93, List.forall_mem_cons.mpr ⟨mx_okl9_94, List.forall_mem_cons.mpr ⟨mx_okl9_95, List.forall_mem_cons.mpr ⟨mx_okl9_96, fun _ h => absurd h List.not_mem_nil⟩⟩⟩⟩⟩⟩⟩⟩⟩⟩⟩⟩⟩⟩⟩⟩⟩⟩⟩⟩⟩⟩⟩⟩⟩⟩⟩⟩⟩⟩⟩⟩⟩⟩⟩⟩⟩⟩⟩⟩⟩⟩⟩⟩⟩⟩⟩⟩⟩⟩⟩⟩⟩⟩⟩⟩⟩⟩⟩⟩⟩⟩⟩⟩⟩⟩⟩⟩⟩⟩⟩⟩⟩⟩⟩⟩⟩⟩⟩⟩⟩⟩⟩⟩⟩⟩⟩⟩⟩⟩⟩⟩⟩⟩⟩⟩⟩
set_option maxRecDepth 100000 in
theorem mx_okl10_0 : mx_okL 10 (7, 7, 8, 0) := ⟨_, rfl, mx_in 97 rfl rfl, mx_in 98 rfl rfl, mx_in 79 rfl rfl⟩
set_option maxRecDepth 100000 in
theorem mx_okl10_1 : mx_okL 10 (9, 5, 76, 0) := ⟨by decide, mx_in 99 rfl rfl, mx_in 100 rfl rfl, rfl⟩
set_option maxRecDepth 100000 in
theorem mx_okl10_2 : mx_okL 10 (10, 7, 9, 0) := ⟨_, rfl, mx_in 954 rfl rfl, mx_in 955 rfl rfl, mx_in 94 rfl rfl⟩
set_option maxRecDepth 100000 in
theorem mx_okl10_3 : mx_okL 10 (12, 5, 131, 0) := ⟨by decide, mx_in 956 rfl rfl, mx_in 957 rfl rfl, rfl⟩
set_option maxRecDepth 100000 in
theorem mx_okl10_4 : mx_okL 10 (13, 1, 77, 0) := ⟨by decide, mx_in 527 rfl rfl, mx_in 528 rfl rfl, mx_in 529 rfl rfl⟩
set_option maxRecDepth 100000 in
theorem mx_okl10_5 : mx_okL 10 (17, 1, 143, 0) := ⟨by decide, mx_in 1075 rfl rfl, mx_in 1076 rfl rfl, mx_in 1077 rfl rfl⟩
set_option maxRecDepth 100000 in
theorem mx_okl10_6 : mx_okL 10 (18, 1, 79, 0) := ⟨by decide, mx_in 550 rfl rfl, mx_in 551 rfl rfl, mx_in 552 rfl rfl⟩
set_option maxRecDepth 100000 in
theorem mx_okl10_7 : mx_okL 10 (21, 1, 144, 0) := ⟨by decide, mx_in 1093 rfl rfl, mx_in 1094 rfl rfl, mx_in 1095 rfl rfl⟩
set_option maxRecDepth 100000 in
theorem mx_okl10_8 : mx_okL 10 (22, 1, 80, 0) := ⟨by decide, mx_in 558 rfl rfl, mx_in 532 rfl rfl, mx_in 533 rfl rfl⟩
set_option maxRecDepth 100000 in
theorem mx_okl10_9 : mx_okL 10 (26, 1, 145, 0) := ⟨by decide, mx_in 1101 rfl rfl, mx_in 1102 rfl rfl, mx_in 1103 rfl rfl⟩
set_option maxRecDepth 100000 in
theorem mx_okl10_10 : mx_okL 10 (27, 1, 81, 0) := ⟨by decide, mx_in 559 rfl rfl, mx_in 560 rfl rfl, mx_in 561 rfl rfl⟩
set_option maxRecDepth 100000 in
theorem mx_okl10_11 : mx_okL 10 (30, 1, 172, 0) := ⟨by decide, mx_in 1172 rfl rfl, mx_in 1173 rfl rfl, mx_in 1174 rfl rfl⟩
set_option maxRecDepth 100000 in
theorem mx_okl10_12 : mx_okL 10 (31, 1, 82, 0) := ⟨by decide, mx_in 614 rfl rfl, mx_in 615 rfl rfl, mx_in 616 rfl rfl⟩
set_option maxRecDepth 100000 in
theorem mx_okl10_13 : mx_okL 10 (35, 1, 147, 0) := ⟨by decide, mx_in 1105 rfl rfl, mx_in 1106 rfl rfl, mx_in 1107 rfl rfl⟩
set_option maxRecDepth 100000 in
theorem mx_okl10_14 : mx_okL 10 (36, 1, 83, 0) := ⟨by decide, mx_in 618 rfl rfl, mx_in 619 rfl rfl, mx_in 620 rfl rfl⟩
set_option maxRecDepth 100000 in
theorem mx_okl10_15 : mx_okL 10 (40, 1, 162, 0) := ⟨by decide, mx_in 1109 rfl rfl, mx_in 1110 rfl rfl, mx_in 1111 rfl rfl⟩
set_option maxRecDepth 100000 in
theorem mx_okl10_16 : mx_okL 10 (41, 1, 84, 0) := ⟨by decide, mx_in 622 rfl rfl, mx_in 623 rfl rfl, mx_in 624 rfl rfl⟩
set_option maxRecDepth 100000 in
theorem mx_okl10_17 : mx_okL 10 (44, 1, 163, 0) := ⟨by decide, mx_in 1168 rfl rfl, mx_in 1169 rfl rfl, mx_in 1170 rfl rfl⟩
set_option maxRecDepth 100000 in
theorem mx_okl10_18 : mx_okL 10 (45, 1, 85, 0) := ⟨by decide, mx_in 627 rfl rfl, mx_in 628 rfl rfl, mx_in 629 rfl rfl⟩
set_option maxRecDepth 100000 in
theorem mx_okl10_19 : mx_okL 10 (48, 1, 175, 0) := ⟨by decide, mx_in 1223 rfl rfl, mx_in 1224 rfl rfl, mx_in 1225 rfl rfl⟩
set_option maxRecDepth 100000 in
theorem mx_okl10_20 : mx_okL 10 (49, 1, 86, 0) := ⟨by decide, mx_in 657 rfl rfl, mx_in 658 rfl rfl, mx_in 659 rfl rfl⟩
set_option maxRecDepth 100000 in
theorem mx_okl10_21 : mx_okL 10 (52, 1, 177, 0) := ⟨by decide, mx_in 1235 rfl rfl, mx_in 1236 rfl rfl, mx_in 1237 rfl rfl⟩
set_option maxRecDepth 100000 in
theorem mx_okl10_22 : mx_okL 10 (53, 1, 87, 0) := ⟨by decide, mx_in 667 rfl rfl, mx_in 668 rfl rfl, mx_in 669 rfl rfl⟩
set_option maxRecDepth 100000 in
theorem mx_okl10_23 : mx_okL 10 (56, 1, 180, 0) := ⟨by decide, mx_in 1243 rfl rfl, mx_in 1244 rfl rfl, mx_in 1245 rfl rfl⟩
set_option maxRecDepth 100000 in
theorem mx_okl10_24 : mx_okL 10 (57, 1, 88, 0) := ⟨by decide, mx_in 687 rfl rfl, mx_in 688 rfl rfl, mx_in 689 rfl rfl⟩
set_option maxRecDepth 100000 in
theorem mx_okl10_25 : mx_okL 10 (60, 1, 181, 0) := ⟨by decide, mx_in 1255 rfl rfl, mx_in 1256 rfl rfl, mx_in 1257 rfl rfl⟩
set_option maxRecDepth 100000 in
theorem mx_okl10_26 : mx_okL 10 (61, 1, 89, 0) := ⟨by decide, mx_in 700 rfl rfl, mx_in 701 rfl rfl, mx_in 702 rfl rfl⟩
set_option maxRecDepth 100000 in
theorem mx_okl10_27 : mx_okL 10 (65, 1, 183, 0) := ⟨by decide, mx_in 1267 rfl rfl, mx_in 1268 rfl rfl, mx_in 1269 rfl rfl⟩
set_option maxRecDepth 100000 in
theorem mx_okl10_28 : mx_okL 10 (66, 1, 90, 0) := ⟨by decide, mx_in 720 rfl rfl, mx_in 721 rfl rfl, mx_in 722 rfl rfl⟩
set_option maxRecDepth 100000 in
theorem mx_okl10_29 : mx_okL 10 (69, 1, 186, 0) := ⟨by decide, mx_in 1276 rfl rfl, mx_in 1277 rfl rfl, mx_in 1278 rfl rfl⟩
set_option maxRecDepth 100000 in
theorem mx_okl10_30 : mx_okL 10 (70, 1, 97, 0) := ⟨by decide, mx_in 744 rfl rfl, mx_in 745 rfl rfl, mx_in 746 rfl rfl⟩
set_option maxRecDepth 100000 in
theorem mx_okl10_31 : mx_okL 10 (73, 1, 187, 0) := ⟨by decide, mx_in 1289 rfl rfl, mx_in 1290 rfl rfl, mx_in 1291 rfl rfl⟩
set_option maxRecDepth 100000 in
theorem mx_okl10_32 : mx_okL 10 (74, 1, 98, 0) := ⟨by decide, mx_in 768 rfl rfl, mx_in 769 rfl rfl, mx_in 770 rfl rfl⟩
set_option maxRecDepth 100000 in
theorem mx_okl10_33 : mx_okL 10 (77, 1, 190, 0) := ⟨by decide, mx_in 1296 rfl rfl, mx_in 1297 rfl rfl, mx_in 1298 rfl rfl⟩
set_option maxRecDepth 100000 in
theorem mx_okl10_34 : mx_okL 10 (78, 1, 99, 0) := ⟨by decide, mx_in 804 rfl rfl, mx_in 805 rfl rfl, mx_in 806 rfl rfl⟩
set_option maxRecDepth 100000 in
theorem mx_okl10_35 : mx_okL 10 (81, 1, 192, 0) := ⟨by decide, mx_in 1309 rfl rfl, mx_in 1310 rfl rfl, mx_in 1311 rfl rfl⟩
set_option maxRecDepth 100000 in
theorem mx_okl10_36 : mx_okL 10 (82, 1, 100, 0) := ⟨by decide, mx_in 840 rfl rfl, mx_in 841 rfl rfl, mx_in 842 rfl rfl⟩
set_option maxRecDepth 100000 in
theorem mx_okl10_37 : mx_okL 10 (85, 1, 193, 0) := ⟨by decide, mx_in 1317 rfl rfl, mx_in 1318 rfl rfl, mx_in 1319 rfl rfl⟩
set_option maxRecDepth 100000 in
theorem mx_okl10_38 : mx_okL 10 (86, 1, 101, 0) := ⟨by decide, mx_in 844 rfl rfl, mx_in 845 rfl rfl, mx_in 846 rfl rfl⟩
set_option maxRecDepth 100000 in
theorem mx_okl10_39 : mx_okL 10 (90, 1, 195, 0) := ⟨by decide, mx_in 1321 rfl rfl, mx_in 1322 rfl rfl, mx_in 1323 rfl rfl⟩
set_option maxRecDepth 100000 in
theorem mx_okl10_40 : mx_okL 10 (91, 1, 104, 0) := ⟨by decide, mx_in 855 rfl rfl, mx_in 856 rfl rfl, mx_in 857 rfl rfl⟩
set_option maxRecDepth 100000 in
theorem mx_okl10_41 : mx_okL 10 (94, 1, 205, 0) := ⟨by decide, mx_in 1349 rfl rfl, mx_in 1350 rfl rfl, mx_in 1351 rfl rfl⟩
set_option maxRecDepth 100000 in
theorem mx_okl10_42 : mx_okL 10 (95, 1, 112, 0) := ⟨by decide, mx_in 892 rfl rfl, mx_in 893 rfl rfl, mx_in 894 rfl rfl⟩
set_option maxRecDepth 100000 in
theorem mx_okl10_43 : mx_okL 10 (98, 1, 206, 0) := ⟨by decide, mx_in 1365 rfl rfl, mx_in 1366 rfl rfl, mx_in 1367 rfl rfl⟩
set_option maxRecDepth 100000 in
theorem mx_okl10_44 : mx_okL 10 (99, 1, 113, 0) := ⟨by decide, mx_in 905 rfl rfl, mx_in 906 rfl rfl, mx_in 907 rfl rfl⟩
set_option maxRecDepth 100000 in
theorem mx_okl10_45 : mx_okL 10 (102, 1, 207, 0) := ⟨by decide, mx_in 1370 rfl rfl, mx_in 1371 rfl rfl, mx_in 1372 rfl rfl⟩
set_option maxRecDepth 100000 in
theorem mx_okl10_46 : mx_okL 10 (103, 1, 115, 0) := ⟨by decide, mx_in 913 rfl rfl, mx_in 914 rfl rfl, mx_in 915 rfl rfl⟩
set_option maxRecDepth 100000 in
theorem mx_okl10_47 : mx_okL 10 (107, 1, 208, 0) := ⟨by decide, mx_in 1375 rfl rfl, mx_in 1376 rfl rfl, mx_in 1377 rfl rfl⟩
set_option maxRecDepth 100000 in
theorem mx_okl10_48 : mx_okL 10 (108, 1, 116, 0) := ⟨by decide, mx_in 917 rfl rfl, mx_in 918 rfl rfl, mx_in 919 rfl rfl⟩
set_option maxRecDepth 100000 in
theorem mx_okl10_49 : mx_okL 10 (111, 1, 209, 0) := ⟨by decide, mx_in 1380 rfl rfl, mx_in 1381 rfl rfl, mx_in 1382 rfl rfl⟩
set_option maxRecDepth 100000 in
theorem mx_okl10_50 : mx_okL 10 (112, 1, 117, 0) := ⟨by decide, mx_in 921 rfl rfl, mx_in 922 rfl rfl, mx_in 923 rfl rfl⟩
set_option maxRecDepth 100000 in
theorem mx_okl10_51 : mx_okL 10 (115, 1, 210, 0) := ⟨by decide, mx_in 1384 rfl rfl, mx_in 1385 rfl rfl, mx_in 1386 rfl rfl⟩
set_option maxRecDepth 100000 in
theorem mx_okl10_52 : mx_okL 10 (116, 1, 118, 0) := ⟨by decide, mx_in 925 rfl rfl, mx_in 926 rfl rfl, mx_in 927 rfl rfl⟩
set_option maxRecDepth 100000 in
theorem mx_okl10_53 : mx_okL 10 (119, 1, 211, 0) := ⟨by decide, mx_in 1388 rfl rfl, mx_in 1389 rfl rfl, mx_in 1390 rfl rfl⟩
set_option maxRecDepth 100000 in
theorem mx_okl10_54 : mx_okL 10 (120, 1, 119, 0) := ⟨by decide, mx_in 929 rfl rfl, mx_in 930 rfl rfl, mx_in 931 rfl rfl⟩
set_option maxRecDepth 100000 in
theorem mx_okl10_55 : mx_okL 10 (123, 1, 197, 0) := ⟨by decide, mx_in 1328 rfl rfl, mx_in 1329 rfl rfl, mx_in 1330 rfl rfl⟩
set_option maxRecDepth 100000 in
theorem mx_okl10_56 : mx_okL 10 (124, 1, 120, 0) := ⟨by decide, mx_in 933 rfl rfl, mx_in 934 rfl rfl, mx_in 935 rfl rfl⟩
set_option maxRecDepth 100000 in
theorem mx_okl10_57 : mx_okL 10 (127, 1, 198, 0) := ⟨by decide, mx_in 1332 rfl rfl, mx_in 1333 rfl rfl, mx_in 1334 rfl rfl⟩
set_option maxRecDepth 100000 in
theorem mx_okl10_58 : mx_okL 10 (128, 1, 121, 0) := ⟨by decide, mx_in 937 rfl rfl, mx_in 938 rfl rfl, mx_in 939 rfl rfl⟩
set_option maxRecDepth 100000 in
theorem mx_okl10_59 : mx_okL 10 (132, 1, 199, 0) := ⟨by decide, mx_in 1336 rfl rfl, mx_in 1337 rfl rfl, mx_in 1338 rfl rfl⟩
set_option maxRecDepth 100000 in
theorem mx_okl10_60 : mx_okL 10 (133, 1, 122, 0) := ⟨by decide, mx_in 942 rfl rfl, mx_in 943 rfl rfl, mx_in 944 rfl rfl⟩
set_option maxRecDepth 100000 in
theorem mx_okl10_61 : mx_okL 10 (137, 1, 200, 0) := ⟨by decide, mx_in 1340 rfl rfl, mx_in 1341 rfl rfl, mx_in 1342 rfl rfl⟩
set_option maxRecDepth 100000 in
theorem mx_okl10_62 : mx_okL 10 (138, 1, 123, 0) := ⟨by decide, mx_in 947 rfl rfl, mx_in 948 rfl rfl, mx_in 949 rfl rfl⟩
set_option maxRecDepth 100000 in
theorem mx_okl10_63 : mx_okL 10 (141, 1, 201, 0) := ⟨by decide, mx_in 1345 rfl rfl, mx_in 1346 rfl rfl, mx_in 1347 rfl rfl⟩
set_option maxRecDepth 100000 in
theorem mx_okl10 : ∀ q ∈ mx_lk 10, mx_okL 10 q := List.forall_mem_cons.mpr ⟨mx_okl10_0, List.forall_mem_cons.mpr ⟨mx_okl10_1, List.forall_mem_cons.mpr ⟨mx_okl10_2, List.forall_mem_cons.mpr ⟨mx_okl10_3, List.forall_mem_cons.mpr ⟨mx_okl10_4, List.forall_mem_cons.mpr ⟨mx_okl10_5, List.forall_mem_cons.mpr ⟨mx_okl10_6, List.forall_mem_cons.mpr ⟨mx_okl10_7, List.forall_mem_cons.mpr ⟨mx_okl10_8, List.forall_mem_cons.mpr ⟨mx_okl10_9, List.forall_mem_cons.mpr ⟨mx_okl10_10, List.forall_mem_cons.mpr ⟨mx_okl10_11, List.forall_mem_cons.mpr ⟨mx_okl10_12, List.forall_mem_cons.mpr ⟨mx_okl10_13, List.forall_mem_cons.mpr ⟨mx_okl10_14, List.forall_mem_cons.mpr ⟨mx_okl10_15, List.forall_mem_cons.mpr ⟨mx_okl10_16, List.forall_mem_cons.mpr ⟨mx_okl10_17, List.forall_mem_cons.mpr ⟨mx_okl10_18, List.forall_mem_cons.mpr ⟨mx_okl10_19, List.forall_mem_cons.mpr ⟨mx_okl10_20, List.forall_mem_cons.mpr ⟨mx_okl10_21, List.forall_mem_cons.mpr ⟨mx_okl10_22, List.forall_mem_cons.mpr ⟨mx_okl10_23, List.forall_mem_cons.mpr ⟨mx_okl10_24, List.forall_mem_cons.mpr ⟨mx_okl10_25, List.forall_mem_cons.mpr ⟨mx_okl10_26, List.forall_mem_cons.mpr ⟨mx_okl10_27, List.forall_mem_cons.mpr ⟨mx_okl10_28, List.forall_mem_cons.mpr ⟨mx_okl10_29, List.forall_mem_cons.mpr ⟨mx_okl10_30, List.forall_mem_cons.mpr ⟨mx_okl10_31, List.forall_mem_cons.mpr ⟨mx_okl10_32, List.forall_mem_cons.mpr ⟨mx_okl10_33, List.forall_mem_cons.mpr ⟨mx_okl10_34, List.forall_mem_cons.mpr ⟨mx_okl10_35, List.forall_mem_cons.mpr ⟨mx_okl10_36, List.forall_mem_cons.mpr ⟨mx_okl10_37, List.forall_mem_cons.mpr ⟨mx_okl10_38, List.forall_mem_cons.mpr ⟨mx_okl10_39, List.forall_mem_cons.mpr ⟨mx_okl10_40, List.forall_mem_cons.mpr ⟨mx_okl10_41, List.forall_mem_cons.mpr ⟨mx_okl10_42, List.forall_mem_cons.mpr ⟨mx_okl10_43, List.forall_mem_cons.mpr ⟨mx_okl10_44, List.forall_mem_cons.mpr ⟨mx_okl10_45, List.forall_mem_cons.mpr ⟨mx_okl10_46, List.forall_mem_cons.mpr ⟨mx_okl10_47, List.forall_mem_cons.mpr ⟨mx_okl10_48, List.forall_mem_cons.mpr ⟨mx_okl10_49, List.forall_mem_cons.mpr ⟨mx_okl10_50, List.forall_mem_cons.mpr ⟨mx_okl10_51, List.forall_mem_cons.mpr ⟨mx_okl10_52, List.forall_mem_cons.mpr ⟨mx_okl10_53, List.forall_mem_cons.mpr ⟨mx_okl10_54, List.forall_mem_cons.mpr ⟨mx_okl10_55, List.forall_mem_cons.mpr ⟨mx_okl10_56, List.forall_mem_cons.mpr ⟨mx_okl10_57, List.forall_mem_cons.mpr ⟨mx_okl10_58, List.forall_mem_cons.mpr ⟨mx_okl10_59, List.forall_mem_cons.mpr ⟨mx_okl10_60, List.forall_mem_cons.mpr ⟨mx_okl10_61, List.forall_mem_cons.mpr ⟨mx_okl10_62, List.forall_mem_cons.mpr ⟨mx_okl10_63, fun _ h => absurd h List.not_mem_nil⟩⟩⟩⟩⟩⟩⟩⟩⟩⟩⟩⟩⟩⟩⟩⟩⟩⟩⟩⟩⟩⟩⟩⟩⟩⟩⟩⟩⟩⟩⟩⟩⟩⟩⟩⟩⟩⟩⟩⟩⟩⟩⟩⟩⟩⟩⟩⟩⟩⟩⟩⟩⟩⟩⟩⟩⟩⟩⟩⟩⟩⟩⟩⟩
set_option maxRecDepth 100000 in
theorem mx_okl11_0 : mx_okL 11 (265, 9, 0, 1431655765) := mx_in 821 rfl rfl
set_option maxRecDepth 100000 in
theorem mx_okl11_1 : mx_okL 11 (266, 9, 0, 858993459) := mx_in 822 rfl rfl
set_option maxRecDepth 100000 in
theorem mx_okl11_2 : mx_okL 11 (267, 9, 0, 252645135) := mx_in 823 rfl rfl
set_option maxRecDepth 100000 in
theorem mx_okl11 : ∀ q ∈ mx_lk 11, mx_okL 11 q := List.forall_mem_cons.mpr ⟨mx_okl11_0, List.forall_mem_cons.mpr ⟨mx_okl11_1, List.forall_mem_cons.mpr ⟨mx_okl11_2, fun _ h => absurd h List.not_mem_nil⟩⟩⟩
set_option maxRecDepth 100000 in
theorem mx_okl12_0 : mx_okL 12 (314, 10, 0, 6148914691236517205) := mx_in 654 rfl rfl
set_option maxRecDepth 100000 in
theorem mx_okl12_1 : mx_okL 12 (316, 10, 0, 3689348814741910323) := mx_in 655 rfl rfl
set_option maxRecDepth 100000 in
theorem mx_okl12_2 : mx_okL 12 (318, 10, 0, 1085102592571150095) := mx_in 656 rfl rfl
set_option maxRecDepth 100000 in
theorem mx_okl12 : ∀ q ∈ mx_lk 12, mx_okL 12 q := List.forall_mem_cons.mpr ⟨mx_okl12_0, List.forall_mem_cons.mpr ⟨mx_okl12_1, List.forall_mem_cons.mpr ⟨mx_okl12_2, fun _ h => absurd h List.not_mem_nil⟩⟩⟩
set_option maxRecDepth 100000 in
theorem mx_okl_0 : ∀ k, k < 13 → ∀ q ∈ mx_lk k, mx_okL k q := lt_s (lt_s (lt_s (lt_s (lt_s (lt_s (lt_s (lt_s (lt_s (lt_s (lt_s (lt_s (lt_s (lt_0) mx_okl0) mx_okl1) mx_okl2) mx_okl3) mx_okl4) mx_okl5) mx_okl6) mx_okl7) mx_okl8) mx_okl9) mx_okl10) mx_okl11) mx_okl12
theorem mx_okl : ∀ k, k < 13 → ∀ q ∈ mx_lk k, mx_okL k q := mx_okl_0
end
section
/-! ===== the code tables are the code ===== -/
set_option maxRecDepth 100000 in
theorem mx_chk0 : mx_chkA 0 := (by decide +kernel : (mx_tt 0).all (fun a => a.all (fun b => b.all (mx_chk 0))) = true)
set_option maxRecDepth 100000 in
theorem mx_chk1 : mx_chkA 1 := (by decide +kernel : (mx_tt 1).all (fun a => a.all (fun b => b.all (mx_chk 1))) = true)
set_option maxRecDepth 100000 in
theorem mx_chk2 : mx_chkA 2 := (by decide +kernel : (mx_tt 2).all (fun a => a.all (fun b => b.all (mx_chk 2))) = true)
set_option maxRecDepth 100000 in
theorem mx_chk3 : mx_chkA 3 := (by decide +kernel : (mx_tt 3).all (fun a => a.all (fun b => b.all (mx_chk 3))) = true)
set_option maxRecDepth 100000 in
theorem mx_chk4 : mx_chkA 4 := (by decide +kernel : (mx_tt 4).all (fun a => a.all (fun b => b.all (mx_chk 4))) = true)
set_option maxRecDepth 100000 in
theorem mx_chk5 : mx_chkA 5 := (by decide +kernel : (mx_tt 5).all (fun a => a.all (fun b => b.all (mx_chk 5))) = true)
set_option maxRecDepth 100000 in
theorem mx_chk6 : mx_chkA 6 := (by decide +kernel : (mx_tt 6).all (fun a => a.all (fun b => b.all (mx_chk 6))) = true)
set_option maxRecDepth 100000 in
theorem mx_chk7 : mx_chkA 7 := (by decide +kernel : (mx_tt 7).all (fun a => a.all (fun b => b.all (mx_chk 7))) = true)
set_option maxRecDepth 100000 in
theorem mx_chk8 : mx_chkA 8 := (by decide +kernel : (mx_tt 8).all (fun a => a.all (fun b => b.all (mx_chk 8))) = true)
set_option maxRecDepth 100000 in
theorem mx_chk9 : mx_chkA 9 := (by decide +kernel : (mx_tt 9).all (fun a => a.all (fun b => b.all (mx_chk 9))) = true)
set_option maxRecDepth 100000 in
theorem mx_chk10 : mx_chkA 10 := (by decide +kernel : (mx_tt 10).all (fun a => a.all (fun b => b.all (mx_chk 10))) = true)
set_option maxRecDepth 100000 in
theorem mx_chk11 : mx_chkA 11 := (by decide +kernel : (mx_tt 11).all (fun a => a.all (fun b => b.all (mx_chk 11))) = true)
set_option maxRecDepth 100000 in
theorem mx_chk12 : mx_chkA 12 := (by decide +kernel : (mx_tt 12).all (fun a => a.all (fun b => b.all (mx_chk 12))) = true)
set_option maxRecDepth 100000 in
theorem mx_chk13 : mx_chkA 13 := (by decide +kernel : (mx_tt 13).all (fun a => a.all (fun b => b.all (mx_chk 13))) = true)
set_option maxRecDepth 100000 in
theorem mx_chk14 : mx_chkA 14 := (by decide +kernel : (mx_tt 14).all (fun a => a.all (fun b => b.all (mx_chk 14))) = true)
set_option maxRecDepth 100000 in
theorem mx_chk15 : mx_chkA 15 := (by decide +kernel : (mx_tt 15).all (fun a => a.all (fun b => b.all (mx_chk 15))) = true)
set_option maxRecDepth 100000 in
theorem mx_chk16 : mx_chkA 16 := (by decide +kernel : (mx_tt 16).all (fun a => a.all (fun b => b.all (mx_chk 16))) = true)
set_option maxRecDepth 100000 in
theorem mx_chk17 : mx_chkA 17 := (by decide +kernel : (mx_tt 17).all (fun a => a.all (fun b => b.all (mx_chk 17))) = true)
set_option maxRecDepth 100000 in
theorem mx_chk18 : mx_chkA 18 := (by decide +kernel : (mx_tt 18).all (fun a => a.all (fun b => b.all (mx_chk 18))) = true)
set_option maxRecDepth 100000 in
theorem mx_chk19 : mx_chkA 19 := (by decide +kernel : (mx_tt 19).all (fun a => a.all (fun b => b.all (mx_chk 19))) = true)
set_option maxRecDepth 100000 in
theorem mx_chk20 : mx_chkA 20 := (by decide +kernel : (mx_tt 20).all (fun a => a.all (fun b => b.all (mx_chk 20))) = true)
set_option maxRecDepth 100000 in
theorem mx_chk21 : mx_chkA 21 := (by decide +kernel : (mx_tt 21).all (fun a => a.all (fun b => b.all (mx_chk 21))) = true)
set_option maxRecDepth 100000 in
theorem mx_chk22 : mx_chkA 22 := (by decide +kernel : (mx_tt 22).all (fun a => a.all (fun b => b.all (mx_chk 22))) = true)
set_option maxRecDepth 100000 in
theorem mx_chk23 : mx_chkA 23 := (by decide +kernel : (mx_tt 23).all (fun a => a.all (fun b => b.all (mx_chk 23))) = true)
set_option maxRecDepth 100000 in
theorem mx_chk24 : mx_chkA 24 := (by decide +kernel : (mx_tt 24).all (fun a => a.all (fun b => b.all (mx_chk 24))) = true)
set_option maxRecDepth 100000 in
theorem mx_chk25 : mx_chkA 25 := (by decide +kernel : (mx_tt 25).all (fun a => a.all (fun b => b.all (mx_chk 25))) = true)
set_option maxRecDepth 100000 in
theorem mx_chk26 : mx_chkA 26 := (by decide +kernel : (mx_tt 26).all (fun a => a.all (fun b => b.all (mx_chk 26))) = true)
set_option maxRecDepth 100000 in
theorem mx_chk27 : mx_chkA 27 := (by decide +kernel : (mx_tt 27).all (fun a => a.all (fun b => b.all (mx_chk 27))) = true)
set_option maxRecDepth 100000 in
theorem mx_chk28 : mx_chkA 28 := (by decide +kernel : (mx_tt 28).all (fun a => a.all (fun b => b.all (mx_chk 28))) = true)
set_option maxRecDepth 100000 in
theorem mx_chk29 : mx_chkA 29 := (by decide +kernel : (mx_tt 29).all (fun a => a.all (fun b => b.all (mx_chk 29))) = true)
set_option maxRecDepth 100000 in
theorem mx_chk30 : mx_chkA 30 := (by decide +kernel : (mx_tt 30).all (fun a => a.all (fun b => b.all (mx_chk 30))) = true)
set_option maxRecDepth 100000 in
theorem mx_chk31 : mx_chkA 31 := (by decide +kernel : (mx_tt 31).all (fun a => a.all (fun b => b.all (mx_chk 31))) = true)
set_option maxRecDepth 100000 in
theorem mx_chk32 : mx_chkA 32 := (by decide +kernel : (mx_tt 32).all (fun a => a.all (fun b => b.all (mx_chk 32))) = true)
set_option maxRecDepth 100000 in
theorem mx_chk33 : mx_chkA 33 := (by decide +kernel : (mx_tt 33).all (fun a => a.all (fun b => b.all (mx_chk 33))) = true)
set_option maxRecDepth 100000 in
theorem mx_chk34 : mx_chkA 34 := (by decide +kernel : (mx_tt 34).all (fun a => a.all (fun b => b.all (mx_chk 34))) = true)
set_option maxRecDepth 100000 in
theorem mx_chk35 : mx_chkA 35 := (by decide +kernel : (mx_tt 35).all (fun a => a.all (fun b => b.all (mx_chk 35))) = true)
set_option maxRecDepth 100000 in
theorem mx_chk36 : mx_chkA 36 := (by decide +kernel : (mx_tt 36).all (fun a => a.all (fun b => b.all (mx_chk 36))) = true)
set_option maxRecDepth 100000 in
theorem mx_chk37 : mx_chkA 37 := (by decide +kernel : (mx_tt 37).all (fun a => a.all (fun b => b.all (mx_chk 37))) = true)
set_option maxRecDepth 100000 in
theorem mx_chk38 : mx_chkA 38 := (by decide +kernel : (mx_tt 38).all (fun a => a.all (fun b => b.all (mx_chk 38))) = true)
set_option maxRecDepth 100000 in
theorem mx_chk39 : mx_chkA 39 := (by decide +kernel : (mx_tt 39).all (fun a => a.all (fun b => b.all (mx_chk 39))) = true)
set_option maxRecDepth 100000 in
theorem mx_chk40 : mx_chkA 40 := (by decide +kernel : (mx_tt 40).all (fun a => a.all (fun b => b.all (mx_chk 40))) = true)
set_option maxRecDepth 100000 in
theorem mx_chk41 : mx_chkA 41 := (by decide +kernel : (mx_tt 41).all (fun a => a.all (fun b => b.all (mx_chk 41))) = true)
set_option maxRecDepth 100000 in
theorem mx_chk42 : mx_chkA 42 := (by decide +kernel : (mx_tt 42).all (fun a => a.all (fun b => b.all (mx_chk 42))) = true)
set_option maxRecDepth 100000 in
theorem mx_chk43 : mx_chkA 43 := (by decide +kernel : (mx_tt 43).all (fun a => a.all (fun b => b.all (mx_chk 43))) = true)
set_option maxRecDepth 100000 in
theorem mx_chk44 : mx_chkA 44 := (by decide +kernel : (mx_tt 44).all (fun a => a.all (fun b => b.all (mx_chk 44))) = true)
set_option maxRecDepth 100000 in
theorem mx_chk45 : mx_chkA 45 := (by decide +kernel : (mx_tt 45).all (fun a => a.all (fun b => b.all (mx_chk 45))) = true)
set_option maxRecDepth 100000 in
theorem mx_chk46 : mx_chkA 46 := (by decide +kernel : (mx_tt 46).all (fun a => a.all (fun b => b.all (mx_chk 46))) = true)
set_option maxRecDepth 100000 in
theorem mx_chk47 : mx_chkA 47 := (by decide +kernel : (mx_tt 47).all (fun a => a.all (fun b => b.all (mx_chk 47))) = true)
set_option maxRecDepth 100000 in
theorem mx_chk48 : mx_chkA 48 := (by decide +kernel : (mx_tt 48).all (fun a => a.all (fun b => b.all (mx_chk 48))) = true)
set_option maxRecDepth 100000 in
theorem mx_chk49 : mx_chkA 49 := (by decide +kernel : (mx_tt 49).all (fun a => a.all (fun b => b.all (mx_chk 49))) = true)
set_option maxRecDepth 100000 in
theorem mx_chk50 : mx_chkA 50 := (by decide +kernel : (mx_tt 50).all (fun a => a.all (fun b => b.all (mx_chk 50))) = true)
set_option maxRecDepth 100000 in
theorem mx_chk51 : mx_chkA 51 := (by decide +kernel : (mx_tt 51).all (fun a => a.all (fun b => b.all (mx_chk 51))) = true)
set_option maxRecDepth 100000 in
theorem mx_chk52 : mx_chkA 52 := (by decide +kernel : (mx_tt 52).all (fun a => a.all (fun b => b.all (mx_chk 52))) = true)
set_option maxRecDepth 100000 in
theorem mx_chk53 : mx_chkA 53 := (by decide +kernel : (mx_tt 53).all (fun a => a.all (fun b => b.all (mx_chk 53))) = true)
set_option maxRecDepth 100000 in
theorem mx_chk54 : mx_chkA 54 := (by decide +kernel : (mx_tt 54).all (fun a => a.all (fun b => b.all (mx_chk 54))) = true)
set_option maxRecDepth 100000 in
theorem mx_chk55 : mx_chkA 55 := (by decide +kernel : (mx_tt 55).all (fun a => a.all (fun b => b.all (mx_chk 55))) = true)
set_option maxRecDepth 100000 in
theorem mx_chk56 : mx_chkA 56 := (by decide +kernel : (mx_tt 56).all (fun a => a.all (fun b => b.all (mx_chk 56))) = true)
set_option maxRecDepth 100000 in
theorem mx_chk57 : mx_chkA 57 := (by decide +kernel : (mx_tt 57).all (fun a => a.all (fun b => b.all (mx_chk 57))) = true)
set_option maxRecDepth 100000 in
theorem mx_chk58 : mx_chkA 58 := (by decide +kernel : (mx_tt 58).all (fun a => a.all (fun b => b.all (mx_chk 58))) = true)
set_option maxRecDepth 100000 in
theorem mx_chk59 : mx_chkA 59 := (by decide +kernel : (mx_tt 59).all (fun a => a.all (fun b => b.all (mx_chk 59))) = true)
set_option maxRecDepth 100000 in
theorem mx_chk60 : mx_chkA 60 := (by decide +kernel : (mx_tt 60).all (fun a => a.all (fun b => b.all (mx_chk 60))) = true)
set_option maxRecDepth 100000 in
theorem mx_chk61 : mx_chkA 61 := (by decide +kernel : (mx_tt 61).all (fun a => a.all (fun b => b.all (mx_chk 61))) = true)
set_option maxRecDepth 100000 in
theorem mx_chk62 : mx_chkA 62 := (by decide +kernel : (mx_tt 62).all (fun a => a.all (fun b => b.all (mx_chk 62))) = true)
set_option maxRecDepth 100000 in
theorem mx_chk63 : mx_chkA 63 := (by decide +kernel : (mx_tt 63).all (fun a => a.all (fun b => b.all (mx_chk 63))) = true)
set_option maxRecDepth 100000 in
theorem mx_chk64 : mx_chkA 64 := (by decide +kernel : (mx_tt 64).all (fun a => a.all (fun b => b.all (mx_chk 64))) = true)
set_option maxRecDepth 100000 in
theorem mx_chk65 : mx_chkA 65 := (by decide +kernel : (mx_tt 65).all (fun a => a.all (fun b => b.all (mx_chk 65))) = true)
set_option maxRecDepth 100000 in
theorem mx_chk66 : mx_chkA 66 := (by decide +kernel : (mx_tt 66).all (fun a => a.all (fun b => b.all (mx_chk 66))) = true)
set_option maxRecDepth 100000 in
theorem mx_chk67 : mx_chkA 67 := (by decide +kernel : (mx_tt 67).all (fun a => a.all (fun b => b.all (mx_chk 67))) = true)
set_option maxRecDepth 100000 in
theorem mx_chk68 : mx_chkA 68 := (by decide +kernel : (mx_tt 68).all (fun a => a.all (fun b => b.all (mx_chk 68))) = true)
set_option maxRecDepth 100000 in
theorem mx_chk69 : mx_chkA 69 := (by decide +kernel : (mx_tt 69).all (fun a => a.all (fun b => b.all (mx_chk 69))) = true)
set_option maxRecDepth 100000 in
theorem mx_chk70 : mx_chkA 70 := (by decide +kernel : (mx_tt 70).all (fun a => a.all (fun b => b.all (mx_chk 70))) = true)
set_option maxRecDepth 100000 in
theorem mx_chk71 : mx_chkA 71 := (by decide +kernel : (mx_tt 71).all (fun a => a.all (fun b => b.all (mx_chk 71))) = true)
set_option maxRecDepth 100000 in
theorem mx_chk72 : mx_chkA 72 := (by decide +kernel : (mx_tt 72).all (fun a => a.all (fun b => b.all (mx_chk 72))) = true)
set_option maxRecDepth 100000 in
theorem mx_chk73 : mx_chkA 73 := (by decide +kernel : (mx_tt 73).all (fun a => a.all (fun b => b.all (mx_chk 73))) = true)
set_option maxRecDepth 100000 in
theorem mx_chk74 : mx_chkA 74 := (by decide +kernel : (mx_tt 74).all (fun a => a.all (fun b => b.all (mx_chk 74))) = true)
set_option maxRecDepth 100000 in
theorem mx_chk75 : mx_chkA 75 := (by decide +kernel : (mx_tt 75).all (fun a => a.all (fun b => b.all (mx_chk 75))) = true)
set_option maxRecDepth 100000 in
theorem mx_chk76 : mx_chkA 76 := (by decide +kernel : (mx_tt 76).all (fun a => a.all (fun b => b.all (mx_chk 76))) = true)
set_option maxRecDepth 100000 in
theorem mx_chk77 : mx_chkA 77 := (by decide +kernel : (mx_tt 77).all (fun a => a.all (fun b => b.all (mx_chk 77))) = true)
set_option maxRecDepth 100000 in
theorem mx_chk78 : mx_chkA 78 := (by decide +kernel : (mx_tt 78).all (fun a => a.all (fun b => b.all (mx_chk 78))) = true)
set_option maxRecDepth 100000 in
theorem mx_chk79 : mx_chkA 79 := (by decide +kernel : (mx_tt 79).all (fun a => a.all (fun b => b.all (mx_chk 79))) = true)
set_option maxRecDepth 100000 in
theorem mx_chk80 : mx_chkA 80 := (by decide +kernel : (mx_tt 80).all (fun a => a.all (fun b => b.all (mx_chk 80))) = true)
set_option maxRecDepth 100000 in
theorem mx_chk81 : mx_chkA 81 := (by decide +kernel : (mx_tt 81).all (fun a => a.all (fun b => b.all (mx_chk 81))) = true)
set_option maxRecDepth 100000 in
theorem mx_chk82 : mx_chkA 82 := (by decide +kernel : (mx_tt 82).all (fun a => a.all (fun b => b.all (mx_chk 82))) = true)
set_option maxRecDepth 100000 in
theorem mx_chk83 : mx_chkA 83 := (by decide +kernel : (mx_tt 83).all (fun a => a.all (fun b => b.all (mx_chk 83))) = true)
set_option maxRecDepth 100000 in
theorem mx_chk84 : mx_chkA 84 := (by decide +kernel : (mx_tt 84).all (fun a => a.all (fun b => b.all (mx_chk 84))) = true)
set_option maxRecDepth 100000 in
theorem mx_chk85 : mx_chkA 85 := (by decide +kernel : (mx_tt 85).all (fun a => a.all (fun b => b.all (mx_chk 85))) = true)
set_option maxRecDepth 100000 in
theorem mx_chk86 : mx_chkA 86 := (by decide +kernel : (mx_tt 86).all (fun a => a.all (fun b => b.all (mx_chk 86))) = true)
set_option maxRecDepth 100000 in
theorem mx_chk87 : mx_chkA 87 := (by decide +kernel : (mx_tt 87).all (fun a => a.all (fun b => b.all (mx_chk 87))) = true)
set_option maxRecDepth 100000 in
theorem mx_chk88 : mx_chkA 88 := (by decide +kernel : (mx_tt 88).all (fun a => a.all (fun b => b.all (mx_chk 88))) = true)
set_option maxRecDepth 100000 in
theorem mx_chk89 : mx_chkA 89 := (by decide +kernel : (mx_tt 89).all (fun a => a.all (fun b => b.all (mx_chk 89))) = true)
set_option maxRecDepth 100000 in
theorem mx_chk90 : mx_chkA 90 := (by decide +kernel : (mx_tt 90).all (fun a => a.all (fun b => b.all (mx_chk 90))) = true)
set_option maxRecDepth 100000 in
theorem mx_chk91 : mx_chkA 91 := (by decide +kernel : (mx_tt 91).all (fun a => a.all (fun b => b.all (mx_chk 91))) = true)
set_option maxRecDepth 100000 in
theorem mx_chk92 : mx_chkA 92 := (by decide +kernel : (mx_tt 92).all (fun a => a.all (fun b => b.all (mx_chk 92))) = true)
set_option maxRecDepth 100000 in
theorem mx_chk93 : mx_chkA 93 := (by decide +kernel : (mx_tt 93).all (fun a => a.all (fun b => b.all (mx_chk 93))) = true)
set_option maxRecDepth 100000 in
theorem mx_chk94 : mx_chkA 94 := (by decide +kernel : (mx_tt 94).all (fun a => a.all (fun b => b.all (mx_chk 94))) = true)
set_option maxRecDepth 100000 in
theorem mx_chk95 : mx_chkA 95 := (by decide +kernel : (mx_tt 95).all (fun a => a.all (fun b => b.all (mx_chk 95))) = true)
set_option maxRecDepth 100000 in
theorem mx_chk96 : mx_chkA 96 := (by decide +kernel : (mx_tt 96).all (fun a => a.all (fun b => b.all (mx_chk 96))) = true)
set_option maxRecDepth 100000 in
theorem mx_chk97 : mx_chkA 97 := (by decide +kernel : (mx_tt 97).all (fun a => a.all (fun b => b.all (mx_chk 97))) = true)
set_option maxRecDepth 100000 in
theorem mx_chk98 : mx_chkA 98 := (by decide +kernel : (mx_tt 98).all (fun a => a.all (fun b => b.all (mx_chk 98))) = true)
set_option maxRecDepth 100000 in
theorem mx_chk99 : mx_chkA 99 := (by decide +kernel : (mx_tt 99).all (fun a => a.all (fun b => b.all (mx_chk 99))) = true)
set_option maxRecDepth 100000 in
theorem mx_chk100 : mx_chkA 100 := (by decide +kernel : (mx_tt 100).all (fun a => a.all (fun b => b.all (mx_chk 100))) = true)
set_option maxRecDepth 100000 in
theorem mx_chk101 : mx_chkA 101 := (by decide +kernel : (mx_tt 101).all (fun a => a.all (fun b => b.all (mx_chk 101))) = true)
set_option maxRecDepth 100000 in
theorem mx_chk102 : mx_chkA 102 := (by decide +kernel : (mx_tt 102).all (fun a => a.all (fun b => b.all (mx_chk 102))) = true)
set_option maxRecDepth 100000 in
theorem mx_chk103 : mx_chkA 103 := (by decide +kernel : (mx_tt 103).all (fun a => a.all (fun b => b.all (mx_chk 103))) = true)
set_option maxRecDepth 100000 in
theorem mx_chk104 : mx_chkA 104 := (by decide +kernel : (mx_tt 104).all (fun a => a.all (fun b => b.all (mx_chk 104))) = true)
set_option maxRecDepth 100000 in
theorem mx_chk105 : mx_chkA 105 := (by decide +kernel : (mx_tt 105).all (fun a => a.all (fun b => b.all (mx_chk 105))) = true)
set_option maxRecDepth 100000 in
theorem mx_chk106 : mx_chkA 106 := (by decide +kernel : (mx_tt 106).all (fun a => a.all (fun b => b.all (mx_chk 106))) = true)
set_option maxRecDepth 100000 in
theorem mx_chk107 : mx_chkA 107 := (by decide +kernel : (mx_tt 107).all (fun a => a.all (fun b => b.all (mx_chk 107))) = true)
set_option maxRecDepth 100000 in
theorem mx_chk108 : mx_chkA 108 := (by decide +kernel : (mx_tt 108).all (fun a => a.all (fun b => b.all (mx_chk 108))) = true)
set_option maxRecDepth 100000 in
theorem mx_chk109 : mx_chkA 109 := (by decide +kernel : (mx_tt 109).all (fun a => a.all (fun b => b.all (mx_chk 109))) = true)
set_option maxRecDepth 100000 in
theorem mx_chk110 : mx_chkA 110 := (by decide +kernel : (mx_tt 110).all (fun a => a.all (fun b => b.all (mx_chk 110))) = true)
set_option maxRecDepth 100000 in
theorem mx_chk111 : mx_chkA 111 := (by decide +kernel : (mx_tt 111).all (fun a => a.all (fun b => b.all (mx_chk 111))) = true)
set_option maxRecDepth 100000 in
theorem mx_chk112 : mx_chkA 112 := (by decide +kernel : (mx_tt 112).all (fun a => a.all (fun b => b.all (mx_chk 112))) = true)
set_option maxRecDepth 100000 in
theorem mx_chk113 : mx_chkA 113 := (by decide +kernel : (mx_tt 113).all (fun a => a.all (fun b => b.all (mx_chk 113))) = true)
set_option maxRecDepth 100000 in
theorem mx_chk114 : mx_chkA 114 := (by decide +kernel : (mx_tt 114).all (fun a => a.all (fun b => b.all (mx_chk 114))) = true)
set_option maxRecDepth 100000 in
theorem mx_chk115 : mx_chkA 115 := (by decide +kernel : (mx_tt 115).all (fun a => a.all (fun b => b.all (mx_chk 115))) = true)
set_option maxRecDepth 100000 in
theorem mx_chk116 : mx_chkA 116 := (by decide +kernel : (mx_tt 116).all (fun a => a.all (fun b => b.all (mx_chk 116))) = true)
set_option maxRecDepth 100000 in
theorem mx_chk117 : mx_chkA 117 := (by decide +kernel : (mx_tt 117).all (fun a => a.all (fun b => b.all (mx_chk 117))) = true)
set_option maxRecDepth 100000 in
theorem mx_chk118 : mx_chkA 118 := (by decide +kernel : (mx_tt 118).all (fun a => a.all (fun b => b.all (mx_chk 118))) = true)
set_option maxRecDepth 100000 in
theorem mx_chk119 : mx_chkA 119 := (by decide +kernel : (mx_tt 119).all (fun a => a.all (fun b => b.all (mx_chk 119))) = true)
set_option maxRecDepth 100000 in
theorem mx_chk120 : mx_chkA 120 := (by decide +kernel : (mx_tt 120).all (fun a => a.all (fun b => b.all (mx_chk 120))) = true)
set_option maxRecDepth 100000 in
theorem mx_chk121 : mx_chkA 121 := (by decide +kernel : (mx_tt 121).all (fun a => a.all (fun b => b.all (mx_chk 121))) = true)
set_option maxRecDepth 100000 in
theorem mx_chk122 : mx_chkA 122 := (by decide +kernel : (mx_tt 122).all (fun a => a.all (fun b => b.all (mx_chk 122))) = true)
set_option maxRecDepth 100000 in
theorem mx_chk123 : mx_chkA 123 := (by decide +kernel : (mx_tt 123).all (fun a => a.all (fun b => b.all (mx_chk 123))) = true)
set_option maxRecDepth 100000 in
theorem mx_chk124 : mx_chkA 124 := (by decide +kernel : (mx_tt 124).all (fun a => a.all (fun b => b.all (mx_chk 124))) = true)
set_option maxRecDepth 100000 in
theorem mx_chk125 : mx_chkA 125 := (by decide +kernel : (mx_tt 125).all (fun a => a.all (fun b => b.all (mx_chk 125))) = true)
set_option maxRecDepth 100000 in
theorem mx_chk126 : mx_chkA 126 := (by decide +kernel : (mx_tt 126).all (fun a => a.all (fun b => b.all (mx_chk 126))) = true)
set_option maxRecDepth 100000 in
theorem mx_chk127 : mx_chkA 127 := (by decide +kernel : (mx_tt 127).all (fun a => a.all (fun b => b.all (mx_chk 127))) = true)
set_option maxRecDepth 100000 in
theorem mx_chk128 : mx_chkA 128 := (by decide +kernel : (mx_tt 128).all (fun a => a.all (fun b => b.all (mx_chk 128))) = true)
set_option maxRecDepth 100000 in
theorem mx_chk129 : mx_chkA 129 := (by decide +kernel : (mx_tt 129).all (fun a => a.all (fun b => b.all (mx_chk 129))) = true)
set_option maxRecDepth 100000 in
theorem mx_chk130 : mx_chkA 130 := (by decide +kernel : (mx_tt 130).all (fun a => a.all (fun b => b.all (mx_chk 130))) = true)
set_option maxRecDepth 100000 in
theorem mx_chk131 : mx_chkA 131 := (by decide +kernel : (mx_tt 131).all (fun a => a.all (fun b => b.all (mx_chk 131))) = true)
set_option maxRecDepth 100000 in
theorem mx_chk132 : mx_chkA 132 := (by decide +kernel : (mx_tt 132).all (fun a => a.all (fun b => b.all (mx_chk 132))) = true)
set_option maxRecDepth 100000 in
theorem mx_chk133 : mx_chkA 133 := (by decide +kernel : (mx_tt 133).all (fun a => a.all (fun b => b.all (mx_chk 133))) = true)
set_option maxRecDepth 100000 in
theorem mx_chk134 : mx_chkA 134 := (by decide +kernel : (mx_tt 134).all (fun a => a.all (fun b => b.all (mx_chk 134))) = true)
set_option maxRecDepth 100000 in
theorem mx_chk135 : mx_chkA 135 := (by decide +kernel : (mx_tt 135).all (fun a => a.all (fun b => b.all (mx_chk 135))) = true)
set_option maxRecDepth 100000 in
theorem mx_chk136 : mx_chkA 136 := (by decide +kernel : (mx_tt 136).all (fun a => a.all (fun b => b.all (mx_chk 136))) = true)
set_option maxRecDepth 100000 in
theorem mx_chk137 : mx_chkA 137 := (by decide +kernel : (mx_tt 137).all (fun a => a.all (fun b => b.all (mx_chk 137))) = true)
set_option maxRecDepth 100000 in
theorem mx_chk138 : mx_chkA 138 := (by decide +kernel : (mx_tt 138).all (fun a => a.all (fun b => b.all (mx_chk 138))) = true)
set_option maxRecDepth 100000 in
theorem mx_chk139 : mx_chkA 139 := (by decide +kernel : (mx_tt 139).all (fun a => a.all (fun b => b.all (mx_chk 139))) = true)
set_option maxRecDepth 100000 in
theorem mx_chk140 : mx_chkA 140 := (by decide +kernel : (mx_tt 140).all (fun a => a.all (fun b => b.all (mx_chk 140))) = true)
set_option maxRecDepth 100000 in
theorem mx_chk141 : mx_chkA 141 := (by decide +kernel : (mx_tt 141).all (fun a => a.all (fun b => b.all (mx_chk 141))) = true)
set_option maxRecDepth 100000 in
theorem mx_chk142 : mx_chkA 142 := (by decide +kernel : (mx_tt 142).all (fun a => a.all (fun b => b.all (mx_chk 142))) = true)
set_option maxRecDepth 100000 in
theorem mx_chk143 : mx_chkA 143 := (by decide +kernel : (mx_tt 143).all (fun a => a.all (fun b => b.all (mx_chk 143))) = true)
set_option maxRecDepth 100000 in
theorem mx_chk144 : mx_chkA 144 := (by decide +kernel : (mx_tt 144).all (fun a => a.all (fun b => b.all (mx_chk 144))) = true)
set_option maxRecDepth 100000 in
theorem mx_chk145 : mx_chkA 145 := (by decide +kernel : (mx_tt 145).all (fun a => a.all (fun b => b.all (mx_chk 145))) = true)
set_option maxRecDepth 100000 in
theorem mx_chk146 : mx_chkA 146 := (by decide +kernel : (mx_tt 146).all (fun a => a.all (fun b => b.all (mx_chk 146))) = true)
set_option maxRecDepth 100000 in
theorem mx_chk147 : mx_chkA 147 := (by decide +kernel : (mx_tt 147).all (fun a => a.all (fun b => b.all (mx_chk 147))) = true)
set_option maxRecDepth 100000 in
theorem mx_chk148 : mx_chkA 148 := (by decide +kernel : (mx_tt 148).all (fun a => a.all (fun b => b.all (mx_chk 148))) = true)
set_option maxRecDepth 100000 in
theorem mx_chk149 : mx_chkA 149 := (by decide +kernel : (mx_tt 149).all (fun a => a.all (fun b => b.all (mx_chk 149))) = true)
set_option maxRecDepth 100000 in
theorem mx_chk150 : mx_chkA 150 := (by decide +kernel : (mx_tt 150).all (fun a => a.all (fun b => b.all (mx_chk 150))) = true)
set_option maxRecDepth 100000 in
theorem mx_chk151 : mx_chkA 151 := (by decide +kernel : (mx_tt 151).all (fun a => a.all (fun b => b.all (mx_chk 151))) = true)
set_option maxRecDepth 100000 in
theorem mx_chk152 : mx_chkA 152 := (by decide +kernel : (mx_tt 152).all (fun a => a.all (fun b => b.all (mx_chk 152))) = true)
set_option maxRecDepth 100000 in
theorem mx_chk153 : mx_chkA 153 := (by decide +kernel : (mx_tt 153).all (fun a => a.all (fun b => b.all (mx_chk 153))) = true)
set_option maxRecDepth 100000 in
theorem mx_chk154 : mx_chkA 154 := (by decide +kernel : (mx_tt 154).all (fun a => a.all (fun b => b.all (mx_chk 154))) = true)
set_option maxRecDepth 100000 in
theorem mx_chk155 : mx_chkA 155 := (by decide +kernel : (mx_tt 155).all (fun a => a.all (fun b => b.all (mx_chk 155))) = true)
set_option maxRecDepth 100000 in
theorem mx_chk156 : mx_chkA 156 := (by decide +kernel : (mx_tt 156).all (fun a => a.all (fun b => b.all (mx_chk 156))) = true)
set_option maxRecDepth 100000 in
theorem mx_chk157 : mx_chkA 157 := (by decide +kernel : (mx_tt 157).all (fun a => a.all (fun b => b.all (mx_chk 157))) = true)
set_option maxRecDepth 100000 in
theorem mx_chk158 : mx_chkA 158 := (by decide +kernel : (mx_tt 158).all (fun a => a.all (fun b => b.all (mx_chk 158))) = true)
set_option maxRecDepth 100000 in
theorem mx_chk159 : mx_chkA 159 := (by decide +kernel : (mx_tt 159).all (fun a => a.all (fun b => b.all (mx_chk 159))) = true)
set_option maxRecDepth 100000 in
theorem mx_chk160 : mx_chkA 160 := (by decide +kernel : (mx_tt 160).all (fun a => a.all (fun b => b.all (mx_chk 160))) = true)
set_option maxRecDepth 100000 in
theorem mx_chk161 : mx_chkA 161 := (by decide +kernel : (mx_tt 161).all (fun a => a.all (fun b => b.all (mx_chk 161))) = true)
set_option maxRecDepth 100000 in
theorem mx_chk162 : mx_chkA 162 := (by decide +kernel : (mx_tt 162).all (fun a => a.all (fun b => b.all (mx_chk 162))) = true)
set_option maxRecDepth 100000 in
theorem mx_chk163 : mx_chkA 163 := (by decide +kernel : (mx_tt 163).all (fun a => a.all (fun b => b.all (mx_chk 163))) = true)
set_option maxRecDepth 100000 in
theorem mx_chk164 : mx_chkA 164 := (by decide +kernel : (mx_tt 164).all (fun a => a.all (fun b => b.all (mx_chk 164))) = true)
set_option maxRecDepth 100000 in
theorem mx_chk165 : mx_chkA 165 := (by decide +kernel : (mx_tt 165).all (fun a => a.all (fun b => b.all (mx_chk 165))) = true)
set_option maxRecDepth 100000 in
theorem mx_chk166 : mx_chkA 166 := (by decide +kernel : (mx_tt 166).all (fun a => a.all (fun b => b.all (mx_chk 166))) = true)
set_option maxRecDepth 100000 in
theorem mx_chk167 : mx_chkA 167 := (by decide +kernel : (mx_tt 167).all (fun a => a.all (fun b => b.all (mx_chk 167))) = true)
set_option maxRecDepth 100000 in
theorem mx_chk168 : mx_chkA 168 := (by decide +kernel : (mx_tt 168).all (fun a => a.all (fun b => b.all (mx_chk 168))) = true)
set_option maxRecDepth 100000 in
theorem mx_chk169 : mx_chkA 169 := (by decide +kernel : (mx_tt 169).all (fun a => a.all (fun b => b.all (mx_chk 169))) = true)
set_option maxRecDepth 100000 in
theorem mx_chk170 : mx_chkA 170 := (by decide +kernel : (mx_tt 170).all (fun a => a.all (fun b => b.all (mx_chk 170))) = true)
set_option maxRecDepth 100000 in
theorem mx_chk171 : mx_chkA 171 := (by decide +kernel : (mx_tt 171).all (fun a => a.all (fun b => b.all (mx_chk 171))) = true)
set_option maxRecDepth 100000 in
theorem mx_chk172 : mx_chkA 172 := (by decide +kernel : (mx_tt 172).all (fun a => a.all (fun b => b.all (mx_chk 172))) = true)
set_option maxRecDepth 100000 in
theorem mx_chk173 : mx_chkA 173 := (by decide +kernel : (mx_tt 173).all (fun a => a.all (fun b => b.all (mx_chk 173))) = true)
set_option maxRecDepth 100000 in
theorem mx_chk174 : mx_chkA 174 := (by decide +kernel : (mx_tt 174).all (fun a => a.all (fun b => b.all (mx_chk 174))) = true)
set_option maxRecDepth 100000 in
theorem mx_chk175 : mx_chkA 175 := (by decide +kernel : (mx_tt 175).all (fun a => a.all (fun b => b.all (mx_chk 175))) = true)
set_option maxRecDepth 100000 in
theorem mx_chk176 : mx_chkA 176 := (by decide +kernel : (mx_tt 176).all (fun a => a.all (fun b => b.all (mx_chk 176))) = true)
set_option maxRecDepth 100000 in
theorem mx_chk177 : mx_chkA 177 := (by decide +kernel : (mx_tt 177).all (fun a => a.all (fun b => b.all (mx_chk 177))) = true)
set_option maxRecDepth 100000 in
theorem mx_chk178 : mx_chkA 178 := (by decide +kernel : (mx_tt 178).all (fun a => a.all (fun b => b.all (mx_chk 178))) = true)
set_option maxRecDepth 100000 in
theorem mx_chk179 : mx_chkA 179 := (by decide +kernel : (mx_tt 179).all (fun a => a.all (fun b => b.all (mx_chk 179))) = true)
set_option maxRecDepth 100000 in
theorem mx_chk180 : mx_chkA 180 := (by decide +kernel : (mx_tt 180).all (fun a => a.all (fun b => b.all (mx_chk 180))) = true)
set_option maxRecDepth 100000 in
theorem mx_chk181 : mx_chkA 181 := (by decide +kernel : (mx_tt 181).all (fun a => a.all (fun b => b.all (mx_chk 181))) = true)
set_option maxRecDepth 100000 in
theorem mx_chk182 : mx_chkA 182 := (by decide +kernel : (mx_tt 182).all (fun a => a.all (fun b => b.all (mx_chk 182))) = true)
set_option maxRecDepth 100000 in
theorem mx_chk183 : mx_chkA 183 := (by decide +kernel : (mx_tt 183).all (fun a => a.all (fun b => b.all (mx_chk 183))) = true)
set_option maxRecDepth 100000 in
theorem mx_chk184 : mx_chkA 184 := (by decide +kernel : (mx_tt 184).all (fun a => a.all (fun b => b.all (mx_chk 184))) = true)
set_option maxRecDepth 100000 in
theorem mx_chk185 : mx_chkA 185 := (by decide +kernel : (mx_tt 185).all (fun a => a.all (fun b => b.all (mx_chk 185))) = true)
set_option maxRecDepth 100000 in
theorem mx_chk186 : mx_chkA 186 := (by decide +kernel : (mx_tt 186).all (fun a => a.all (fun b => b.all (mx_chk 186))) = true)
set_option maxRecDepth 100000 in
theorem mx_chk187 : mx_chkA 187 := (by decide +kernel : (mx_tt 187).all (fun a => a.all (fun b => b.all (mx_chk 187))) = true)
set_option maxRecDepth 100000 in
theorem mx_chk188 : mx_chkA 188 := (by decide +kernel : (mx_tt 188).all (fun a => a.all (fun b => b.all (mx_chk 188))) = true)
set_option maxRecDepth 100000 in
theorem mx_chk189 : mx_chkA 189 := (by decide +kernel : (mx_tt 189).all (fun a => a.all (fun b => b.all (mx_chk 189))) = true)
set_option maxRecDepth 100000 in
theorem mx_chk190 : mx_chkA 190 := (by decide +kernel : (mx_tt 190).all (fun a => a.all (fun b => b.all (mx_chk 190))) = true)
set_option maxRecDepth 100000 in
theorem mx_chk191 : mx_chkA 191 := (by decide +kernel : (mx_tt 191).all (fun a => a.all (fun b => b.all (mx_chk 191))) = true)
set_option maxRecDepth 100000 in
theorem mx_chk192 : mx_chkA 192 := (by decide +kernel : (mx_tt 192).all (fun a => a.all (fun b => b.all (mx_chk 192))) = true)
set_option maxRecDepth 100000 in
theorem mx_chk193 : mx_chkA 193 := (by decide +kernel : (mx_tt 193).all (fun a => a.all (fun b => b.all (mx_chk 193))) = true)
set_option maxRecDepth 100000 in
theorem mx_chk194 : mx_chkA 194 := (by decide +kernel : (mx_tt 194).all (fun a => a.all (fun b => b.all (mx_chk 194))) = true)
set_option maxRecDepth 100000 in
theorem mx_chk195 : mx_chkA 195 := (by decide +kernel : (mx_tt 195).all (fun a => a.all (fun b => b.all (mx_chk 195))) = true)
set_option maxRecDepth 100000 in
theorem mx_chk196 : mx_chkA 196 := (by decide +kernel : (mx_tt 196).all (fun a => a.all (fun b => b.all (mx_chk 196))) = true)
set_option maxRecDepth 100000 in
theorem mx_chk197 : mx_chkA 197 := (by decide +kernel : (mx_tt 197).all (fun a => a.all (fun b => b.all (mx_chk 197))) = true)
set_option maxRecDepth 100000 in
theorem mx_chk198 : mx_chkA 198 := (by decide +kernel : (mx_tt 198).all (fun a => a.all (fun b => b.all (mx_chk 198))) = true)
set_option maxRecDepth 100000 in
theorem mx_chk199 : mx_chkA 199 := (by decide +kernel : (mx_tt 199).all (fun a => a.all (fun b => b.all (mx_chk 199))) = true)
set_option maxRecDepth 100000 in
theorem mx_chk200 : mx_chkA 200 := (by decide +kernel : (mx_tt 200).all (fun a => a.all (fun b => b.all (mx_chk 200))) = true)
set_option maxRecDepth 100000 in
theorem mx_chk201 : mx_chkA 201 := (by decide +kernel : (mx_tt 201).all (fun a => a.all (fun b => b.all (mx_chk 201))) = true)
set_option maxRecDepth 100000 in
theorem mx_chk202 : mx_chkA 202 := (by decide +kernel : (mx_tt 202).all (fun a => a.all (fun b => b.all (mx_chk 202))) = true)
set_option maxRecDepth 100000 in
theorem mx_chk203 : mx_chkA 203 := (by decide +kernel : (mx_tt 203).all (fun a => a.all (fun b => b.all (mx_chk 203))) = true)
set_option maxRecDepth 100000 in
theorem mx_chk204 : mx_chkA 204 := (by decide +kernel : (mx_tt 204).all (fun a => a.all (fun b => b.all (mx_chk 204))) = true)
set_option maxRecDepth 100000 in
theorem mx_chk205 : mx_chkA 205 := (by decide +kernel : (mx_tt 205).all (fun a => a.all (fun b => b.all (mx_chk 205))) = true)
set_option maxRecDepth 100000 in
theorem mx_chk206 : mx_chkA 206 := (by decide +kernel : (mx_tt 206).all (fun a => a.all (fun b => b.all (mx_chk 206))) = true)
set_option maxRecDepth 100000 in
theorem mx_chk207 : mx_chkA 207 := (by decide +kernel : (mx_tt 207).all (fun a => a.all (fun b => b.all (mx_chk 207))) = true)
set_option maxRecDepth 100000 in
theorem mx_chk208 : mx_chkA 208 := (by decide +kernel : (mx_tt 208).all (fun a => a.all (fun b => b.all (mx_chk 208))) = true)
set_option maxRecDepth 100000 in
theorem mx_chk209 : mx_chkA 209 := (by decide +kernel : (mx_tt 209).all (fun a => a.all (fun b => b.all (mx_chk 209))) = true)
set_option maxRecDepth 100000 in
theorem mx_chk210 : mx_chkA 210 := (by decide +kernel : (mx_tt 210).all (fun a => a.all (fun b => b.all (mx_chk 210))) = true)
set_option maxRecDepth 100000 in
theorem mx_chk211 : mx_chkA 211 := (by decide +kernel : (mx_tt 211).all (fun a => a.all (fun b => b.all (mx_chk 211))) = true)
set_option maxRecDepth 100000 in
theorem mx_chk212 : mx_chkA 212 := (by decide +kernel : (mx_tt 212).all (fun a => a.all (fun b => b.all (mx_chk 212))) = true)
set_option maxRecDepth 100000 in
theorem mx_chk213 : mx_chkA 213 := (by decide +kernel : (mx_tt 213).all (fun a => a.all (fun b => b.all (mx_chk 213))) = true)
set_option maxRecDepth 100000 in
theorem mx_chk214_0 : mx_t214_0.all (fun b => b.all (mx_chk 214)) = true := by decide +kernel
set_option maxRecDepth 100000 in
theorem mx_chk214_1 : mx_t214_1.all (fun b => b.all (mx_chk 214)) = true := by decide +kernel
set_option maxRecDepth 100000 in
theorem mx_chk214_2 : mx_t214_2.all (fun b => b.all (mx_chk 214)) = true := by decide +kernel
set_option maxRecDepth 100000 in
theorem mx_chk214_3 : mx_t214_3.all (fun b => b.all (mx_chk 214)) = true := by decide +kernel
set_option maxRecDepth 100000 in
theorem mx_chk214_4 : mx_t214_4.all (fun b => b.all (mx_chk 214)) = true := by decide +kernel
set_option maxRecDepth 100000 in
theorem mx_chk214_5 : mx_t214_5.all (fun b => b.all (mx_chk 214)) = true := by decide +kernel
set_option maxRecDepth 100000 in
theorem mx_chk214_6 : mx_t214_6.all (fun b => b.all (mx_chk 214)) = true := by decide +kernel
set_option maxRecDepth 100000 in
theorem mx_chk214_7 : mx_t214_7.all (fun b => b.all (mx_chk 214)) = true := by decide +kernel
set_option maxRecDepth 100000 in
theorem mx_chk214_8 : mx_t214_8.all (fun b => b.all (mx_chk 214)) = true := by decide +kernel
set_option maxRecDepth 100000 in
theorem mx_chk214_9 : mx_t214_9.all (fun b => b.all (mx_chk 214)) = true := by decide +kernel
theorem mx_chk214 : mx_chkA 214 := by
  show ([mx_t214_0, mx_t214_1, mx_t214_2, mx_t214_3, mx_t214_4, mx_t214_5, mx_t214_6, mx_t214_7, mx_t214_8, mx_t214_9] : List _).all (fun a => a.all (fun b => b.all (mx_chk 214))) = true
  simp only [List.all_cons, List.all_nil, mx_chk214_0, mx_chk214_1, mx_chk214_2, mx_chk214_3, mx_chk214_4, mx_chk214_5, mx_chk214_6, mx_chk214_7, mx_chk214_8, mx_chk214_9, Bool.and_self]
set_option maxRecDepth 100000 in
theorem mx_chkA_0 : ∀ k, k < 40 → mx_chkA k := lt_s (lt_s (lt_s (lt_s (lt_s (lt_s (lt_s (lt_s (lt_s (lt_s (lt_s (lt_s (lt_s (lt_s (lt_s (lt_s (lt_s (lt_s (lt_s (lt_s (lt_s (lt_s (lt_s (lt_s (lt_s (lt_s (lt_s (lt_s (lt_s (lt_s (lt_s (lt_s (lt_s (lt_s (lt_s (lt_s (lt_s (lt_s (lt_s (lt_s (lt_0) mx_chk0) mx_chk1) mx_chk2) mx_chk3) mx_chk4) mx_chk5) mx_chk6) mx_chk7) mx_chk8) mx_chk9) mx_chk10) mx_chk11) mx_chk12) mx_chk13) mx_chk14) mx_chk15) mx_chk16) mx_chk17) mx_chk18) mx_chk19) mx_chk20) mx_chk21) mx_chk22) mx_chk23) mx_chk24) mx_chk25) mx_chk26) mx_chk27) mx_chk28) mx_chk29) mx_chk30) mx_chk31) mx_chk32) mx_chk33) mx_chk34) mx_chk35) mx_chk36) mx_chk37) mx_chk38) mx_chk39
set_option maxRecDepth 100000 in
theorem mx_chkA_1 : ∀ k, k < 80 → mx_chkA k := lt_s (lt_s (lt_s (lt_s (lt_s (lt_s (lt_s (lt_s (lt_s (lt_s (lt_s (lt_s (lt_s (lt_s (lt_s (lt_s (lt_s (lt_s (lt_s (lt_s (lt_s (lt_s (lt_s (lt_s (lt_s (lt_s (lt_s (lt_s (lt_s (lt_s (lt_s (lt_s (lt_s (lt_s (lt_s (lt_s (lt_s (lt_s (lt_s (lt_s (mx_chkA_0) mx_chk40) mx_chk41) mx_chk42) mx_chk43) mx_chk44) mx_chk45) mx_chk46) mx_chk47) mx_chk48) mx_chk49) mx_chk50) mx_chk51) mx_chk52) mx_chk53) mx_chk54) mx_chk55) mx_chk56) mx_chk57) mx_chk58) mx_chk59) mx_chk60) mx_chk61) mx_chk62) mx_chk63) mx_chk64) mx_chk65) mx_chk66) mx_chk67) mx_chk68) mx_chk69) mx_chk70) mx_chk71) mx_chk72) mx_chk73) mx_chk74) mx_chk75) mx_chk76) mx_chk77) mx_chk78) mx_chk79
set_option maxRecDepth 100000 in
theorem mx_chkA_2 : ∀ k, k < 120 → mx_chkA k := lt_s (lt_s (lt_s (lt_s (lt_s (lt_s (lt_s (lt_s (lt_s (lt_s (lt_s (lt_s (lt_s (lt_s (lt_s (lt_s (lt_s (lt_s (lt_s (lt_s (lt_s (lt_s (lt_s (lt_s (lt_s (lt_s (lt_s (lt_s (lt_s (lt_s (lt_s (lt_s (lt_s (lt_s (lt_s (lt_s (lt_s (lt_s (lt_s (lt_s (mx_chkA_1) mx_chk80) mx_chk81) mx_chk82) mx_chk83) mx_chk84) mx_chk85) mx_chk86) mx_chk87) mx_chk88) mx_chk89) mx_chk90) mx_chk91) mx_chk92) mx_chk93) mx_chk94) mx_chk95) mx_chk96) mx_chk97) mx_chk98) mx_chk99) mx_chk100) mx_chk101) mx_chk102) mx_chk103) mx_chk104) mx_chk105) mx_chk106) mx_chk107) mx_chk108) mx_chk109) mx_chk110) mx_chk111) mx_chk112) mx_chk113) mx_chk114) mx_chk115) mx_chk116) mx_chk117) mx_chk118) mx_chk119
set_option maxRecDepth 100000 in
theorem mx_chkA_3 : ∀ k, k < 160 → mx_chkA k := lt_s (lt_s (lt_s (lt_s (lt_s (lt_s (lt_s (lt_s (lt_s (lt_s (lt_s (lt_s (lt_s (lt_s (lt_s (lt_s (lt_s (lt_s (lt_s (lt_s (lt_s (lt_s (lt_s (lt_s (lt_s (lt_s (lt_s (lt_s (lt_s (lt_s (lt_s (lt_s (lt_s (lt_s (lt_s (lt_s (lt_s (lt_s (lt_s (lt_s (mx_chkA_2) mx_chk120) mx_chk121) mx_chk122) mx_chk123) mx_chk124) mx_chk125) mx_chk126) mx_chk127) mx_chk128) mx_chk129) mx_chk130) mx_chk131) mx_chk132) mx_chk133) mx_chk134) mx_chk135) mx_chk136) mx_chk137) mx_chk138) mx_chk139) mx_chk140) mx_chk141) mx_chk142) mx_chk143) mx_chk144) mx_chk145) mx_chk146) mx_chk147) mx_chk148) mx_chk149) mx_chk150) mx_chk151) mx_chk152) mx_chk153) mx_chk154) mx_chk155) mx_chk156) mx_chk157) mx_chk158) mx_chk159
set_option maxRecDepth 100000 in
theorem mx_chkA_4 : ∀ k, k < 200 → mx_chkA k := lt_s (lt_s (lt_s (lt_s (lt_s (lt_s (lt_s (lt_s (lt_s (lt_s (lt_s (lt_s (lt_s (lt_s (lt_s (lt_s (lt_s (lt_s (lt_s (lt_s (lt_s (lt_s (lt_s (lt_s (lt_s (lt_s (lt_s (lt_s (lt_s (lt_s (lt_s (lt_s (lt_s (lt_s (lt_s (lt_s (lt_s (lt_s (lt_s (lt_s (mx_chkA_3) mx_chk160) mx_chk161) mx_chk162) mx_chk163) mx_chk164) mx_chk165) mx_chk166) mx_chk167) mx_chk168) mx_chk169) mx_chk170) mx_chk171) mx_chk172) mx_chk173) mx_chk174) mx_chk175) mx_chk176) mx_chk177) mx_chk178) mx_chk179) mx_chk180) mx_chk181) mx_chk182) mx_chk183) mx_chk184) mx_chk185) mx_chk186) mx_chk187) mx_chk188) mx_chk189) mx_chk190) mx_chk191) mx_chk192) mx_chk193) mx_chk194) mx_chk195) mx_chk196) mx_chk197) mx_chk198) mx_chk199
set_option maxRecDepth 100000 in
theorem mx_chkA_5 : ∀ k, k < 215 → mx_chkA k := lt_s (lt_s (lt_s (lt_s (lt_s (lt_s (lt_s (lt_s (lt_s (lt_s (lt_s (lt_s (lt_s (lt_s (lt_s (mx_chkA_4) mx_chk200) mx_chk201) mx_chk202) mx_chk203) mx_chk204) mx_chk205) mx_chk206) mx_chk207) mx_chk208) mx_chk209) mx_chk210) mx_chk211) mx_chk212) mx_chk213) mx_chk214
theorem mx_chk_lt : ∀ k, k < 215 → mx_chkA k := mx_chkA_5
end
section
/-! ===== one step, a run ===== -/
def mx_ok8 (st : List Value) : Bool := decide (mx_cats st ≤ 8)
def mx_vin (i : Int32) (n : Nat) : Bool := decide (¬ (i < 0 ∨ n ≤ i.toNatClampNeg))
def mx_slen (b : Nat) : Option Nat := if mx_big < b ∧ b ≤ mx_big + mx_byt.length then some ((mx_byt.getD (b - mx_big - 1) []).length) else none
def mx_nat (j pc : Nat) (L : mx_L) (st : List Value) (h : mx_H) : Option mx_R := match j with
  | 20 => match st with
    | .int y :: .int x :: r => if mx_ok8 r = true then mx_go (pc + 3, L, .int (if x < y then y else x) :: r, h) else none
    | _ => none
  | 21 => match st with
    | .int y :: .int x :: r => if mx_ok8 r = true then mx_go (pc + 3, L, .int (if y < x then y else x) :: r, h) else none
    | _ => none
  | 22 => match st with
    | .int x :: r => if mx_ok8 r = true then mx_go (pc + 3, L, .int (if 0 ≤ x then x else 0 - x) :: r, h) else none
    | _ => none
  | 23 => match st with
    | .int n :: .int dp :: .ref b :: .int sp :: .ref a :: r => match h.2.2 a, h.2.2 b with
      | .inl (0, n0, .inl f), .inl (0, n1, .inl g) => if mx_ok8 r = true ∧ a < mx_big ∧ b < mx_big ∧ ¬ sp < 0 ∧ ¬ dp < 0 ∧ ¬ n < 0 ∧ sp.toNatClampNeg + n.toNatClampNeg ≤ n0 ∧ dp.toNatClampNeg + n.toNatClampNeg ≤ n1 then
          mx_go (pc + 3, L, r, mx_set h b (.inl (0, n1, .inl (va_cpy f g sp.toNatClampNeg dp.toNatClampNeg n.toNatClampNeg)))) else none
      | _, _ => none
    | _ => none
  | 24 => match st with
    | .ref b :: r => match h.2.2 b with
      | .inl (0, n, .inl f) => if mx_ok8 r = true ∧ b < mx_big ∧ h.1 < mx_big then mx_go (pc + 3, L, .ref h.1 :: r, mx_new h n (.inl (0, n, .inl f))) else none
      | _ => none
    | _ => none
  | 25 => match st with
    | .ref b :: r => match mx_slen b with
      | some n => if mx_ok8 r = true then mx_go (pc + 3, L, .int (Int32.ofNat n) :: r, h) else none
      | none => none
    | _ => none
  | 26 => match st with
    | .int i :: .ref b :: r => match mx_slen b with
      | some n => if mx_ok8 r = true ∧ mx_vin i n = true then mx_go (pc + 3, L, .int ((mx_byt.getD (b - mx_big - 1) []).getD i.toNatClampNeg 0) :: r, h) else none
      | none => none
    | _ => none
  | 27 => match st with
    | .ref _ :: r => if mx_ok8 r = true then mx_go (pc + 3, L, r, h) else none
    | _ => none
  | _ => none
def mx_cal (a : Nat) (vs : List Value) (pc : Nat) (r : List Value) : Option mx_R :=
  if mx_ok8 r = true ∧ (mx_pl vs).length ≤ mx_ml a then some (.inr (.inl (a, vs, pc, r))) else none
def mx_inv (a : Nat) (v : Int) (pc : Nat) (L : mx_L) (st : List Value) (h : mx_H) : Option mx_R := match v.toNat with
  | 1 => if (st.take (mx_np a)).length = mx_np a then match st.drop (mx_np a) with
      | .ref b :: r => match h.2.2 b with
        | .inr (ci, _) => if ci = mx_mc a then mx_cal a (.ref b :: (st.take (mx_np a)).reverse) (pc + 3) r else none
        | _ => none
      | _ => none
    else none
  | 3 => if (st.take (mx_np a)).length = mx_np a then mx_cal a (st.take (mx_np a)).reverse (pc + 3) (st.drop (mx_np a)) else none
  | 4 => if (st.take (mx_np a)).length = mx_np a then mx_cal a (st.take (mx_np a)).reverse (pc + 3) (st.drop (mx_np a)) else none
  | 5 => if (st.take (mx_np a)).length = mx_np a then match st.drop (mx_np a) with
      | .ref b :: r => mx_cal a (.ref b :: (st.take (mx_np a)).reverse) (pc + 3) r
      | _ => none
    else none
  | 6 => if (st.take (mx_np a)).length = mx_np a then match st.drop (mx_np a) with
      | .ref b :: r => mx_cal a (.ref b :: (st.take (mx_np a)).reverse) (pc + 3) r
      | _ => none
    else none
  | j => mx_nat j pc L st h
def mx_ald (t pc : Nat) (L : mx_L) (st : List Value) (h : mx_H) : Option mx_R := match st with
  | .int i :: .ref b :: r => match h.2.2 b with
    | .inl (u, n, .inl f) => if u = t ∧ mx_vin i n = true then mx_go (pc + 1, L, .int (f i.toNatClampNeg) :: r, h) else none
    | _ => none
  | _ => none
def mx_ast (t : Nat) (ty : FieldType) (pc : Nat) (L : mx_L) (st : List Value) (h : mx_H) : Option mx_R := match st with
  | .int x :: .int i :: .ref b :: r => match h.2.2 b with
    | .inl (u, n, .inl f) => if u = t ∧ b < mx_big ∧ mx_vin i n = true then mx_go (pc + 1, L, r, mx_set h b (.inl (u, n, .inl (upd f i.toNatClampNeg (vp_nar ty x))))) else none
    | _ => none
  | _ => none
def mx_nwa (t pc : Nat) (c : mx_C) (L : mx_L) (st : List Value) (h : mx_H) : Option mx_R := match st with
  | .int n :: r => if ¬ n < 0 ∧ n.toNatClampNeg ≤ 100000 ∧ h.1 < mx_big then mx_go (pc, L, .ref h.1 :: r, mx_new h n.toNatClampNeg (.inl (t, n.toNatClampNeg, c))) else none
  | _ => none
def mx_if (b : Bool) (a pc : Nat) (L : mx_L) (r : List Value) (h : mx_H) : Option mx_R := if b = true then mx_go (a, L, r, h) else mx_go (pc + 3, L, r, h)
def mx_jmp (t : Option Nat) (L : mx_L) (r : List Value) (h : mx_H) : Option mx_R := match t with
  | some a => mx_go (a, L, r, h)
  | none => none
def mx_rv (v : Option Value) : Option mx_R := some (.inr (.inr v))
def mx_ri (t : Option FieldType) (x : Int32) : Bool := match t with
  | some .int => true
  | some .boolean => decide (x = 0 ∨ x = 1)
  | _ => false
def mx_ro (t : Option FieldType) : Bool := match t with
  | some (.object _) => true
  | _ => false
def mx_do (k : Nat) (ins : Jvm.ClassFile.Instr) (a : Nat) (v : Int) (pc : Nat) (L : mx_L) (st : List Value) (h : mx_H) : Option mx_R := match ins with
  | .iload i => mx_psh (mx_ld L i 0) (pc + 2) L st h
  | .iload_n i => mx_psh (mx_ld L (i : Nat) 0) (pc + 1) L st h
  | .lload i => mx_psh (mx_ld L i 1) (pc + 2) L st h
  | .lload_n i => mx_psh (mx_ld L (i : Nat) 1) (pc + 1) L st h
  | .aload i => mx_psh (mx_ld L i 2) (pc + 2) L st h
  | .aload_n i => mx_psh (mx_ld L (i : Nat) 2) (pc + 1) L st h
  | .istore i => mx_sto 0 i (pc + 2) L st h
  | .istore_n i => mx_sto 0 (i : Nat) (pc + 1) L st h
  | .lstore i => mx_sto 1 i (pc + 2) L st h
  | .lstore_n i => mx_sto 1 (i : Nat) (pc + 1) L st h
  | .astore i => mx_sto 2 i (pc + 2) L st h
  | .astore_n i => mx_sto 2 (i : Nat) (pc + 1) L st h
  | .iinc i n => match mx_ld L i 0 with
    | some (.int x) => mx_go (pc + 3, mx_store L i (.int (x + Int32.ofInt n)), st, h)
    | _ => none
  | .goto _ => mx_go (a, L, st, h)
  | .ifCond c _ => match st with
    | .int x :: r => mx_if (mx_cmp c x 0) a pc L r h
    | _ => none
  | .if_icmp c _ => match st with
    | .int y :: .int x :: r => mx_if (mx_cmp c x y) a pc L r h
    | _ => none
  | .ifnull _ => match st with
    | .null :: r => mx_go (a, L, r, h)
    | .ref _ :: r => mx_go (pc + 3, L, r, h)
    | _ => none
  | .ifnonnull _ => match st with
    | .null :: r => mx_go (pc + 3, L, r, h)
    | .ref _ :: r => mx_go (a, L, r, h)
    | _ => none
  | .tableswitch d lo hi offs => match st with
    | .int x :: r => mx_jmp (mx_tsw d lo hi offs pc x) L r h
    | _ => none
  | .lookupswitch d ps => match st with
    | .int x :: r => mx_jmp (mx_tg pc (Op.lookupswitch.offset ps.toList d x.toInt)) L r h
    | _ => none
  | .getfield _ => match st with
    | .ref b :: r => match h.2.2 b with
      | .inr (ci, fs) => if ci = a / 100 then mx_psh (fs[a % 100]?) (pc + 3) L r h else none
      | _ => none
    | _ => none
  | .putfield _ => match st with
    | w :: .ref b :: r => match h.2.2 b with
      | .inr (ci, fs) => if ci = a / 100 ∧ a % 100 < fs.length ∧ mx_fit (mx_tyf a) w = true then mx_go (pc + 3, L, r, mx_set h b (.inr (ci, fs.set (a % 100) w))) else none
      | _ => none
    | _ => none
  | .iaload => mx_ald 0 pc L st h
  | .baload => mx_ald 1 pc L st h
  | .caload => mx_ald 2 pc L st h
  | .iastore => mx_ast 0 .int pc L st h
  | .bastore => mx_ast 1 .boolean pc L st h
  | .castore => mx_ast 2 .char pc L st h
  | .aaload => match st with
    | .int i :: .ref b :: r => match h.2.2 b with
      | .inl (u, n, .inr g) => if 3 ≤ u ∧ u ≤ 5 ∧ b < mx_big ∧ mx_vin i n = true then mx_go (pc + 1, L, va_rf (g i.toNatClampNeg) :: r, h) else none
      | _ => none
    | _ => none
  | .aastore => match st with
    | .ref w :: .int i :: .ref b :: r => match h.2.2 b, h.2.2 w with
      | .inl (u, n, .inr g), .inr (ci, _) => if 3 ≤ u ∧ u ≤ 5 ∧ ci = mx_el u ∧ b < mx_big ∧ mx_vin i n = true then mx_go (pc + 1, L, r, mx_set h b (.inl (u, n, .inr (va_up g i.toNatClampNeg (some w))))) else none
      | _, _ => none
    | _ => none
  | .arraylength => match st with
    | .ref b :: r => match h.2.2 b with
      | .inl (u, n, _) => if u ≤ 5 then mx_go (pc + 1, L, .int (Int32.ofNat n) :: r, h) else none
      | _ => none
    | _ => none
  | .newarray ty => match ty with
    | .int => mx_nwa 0 (pc + 2) (.inl fun _ => 0) L st h
    | .boolean => mx_nwa 1 (pc + 2) (.inl fun _ => 0) L st h
    | .char => mx_nwa 2 (pc + 2) (.inl fun _ => 0) L st h
    | _ => none
  | .anewarray _ => if 3 ≤ a ∧ a ≤ 5 then mx_nwa a (pc + 3) (.inr fun _ => none) L st h else none
  | .new _ => if h.1 < mx_big then mx_go (pc + 3, L, .ref h.1 :: st, mx_new h (mx_nf a) (.inr (a, mx_defs a))) else none
  | .checkcast _ => match st with
    | .ref b :: r => match h.2.2 b with
      | .inl (u, _, _) => if u = 0 ∧ b < mx_big then mx_go (pc + 3, L, .ref b :: r, h) else none
      | _ => none
    | _ => none
  | .ldc _ => if a = 0 then mx_go (pc + 2, L, .int (Int32.ofInt v) :: st, h) else mx_go (pc + 2, L, .ref (mx_big + a) :: st, h)
  | .ldc_w _ => mx_go (pc + 3, L, .int (Int32.ofInt v) :: st, h)
  | .ldc2_w _ => mx_go (pc + 3, L, .long (Int64.ofInt v) :: st, h)
  | .invokevirtual _ => mx_inv a v pc L st h
  | .invokestatic _ => mx_inv a v pc L st h
  | .invokespecial _ => mx_inv a v pc L st h
  | .ireturn => match st with
    | [.int x] => if mx_ri (mx_mr k) x = true then mx_rv (some (.int x)) else none
    | _ => none
  | .lreturn => match st with
    | [.long x] => if mx_mr k = some .long then mx_rv (some (.long x)) else none
    | _ => none
  | .areturn => match st with
    | [.ref b] => if mx_ro (mx_mr k) = true then mx_rv (some (.ref b)) else none
    | [.null] => if mx_ro (mx_mr k) = true then mx_rv (some .null) else none
    | _ => none
  | .return_ => match st with
    | [] => if mx_mr k = none then mx_rv none else none
    | _ => none
  | ins => match mx_sk ins st with
    | some r => mx_go (pc + mx_len ins, L, r, h)
    | none => none
def mx_stp (k : Nat) (s : mx_S) : Option mx_R := match mx_tb k s.1 with
  | none => none
  | some e => mx_do k e.1 e.2.1 e.2.2 s.1 s.2.1 s.2.2.1 s.2.2.2
def mx_run : Nat → Nat → Nat → mx_S → Option (Option Value × mx_H)
  | 0, _, _, _ => none
  | n + 1, d, k, s => match mx_stp k s with
    | none => none
    | some (.inl s') => mx_run n d k s'
    | some (.inr (.inr v)) => some (v, s.2.2.2)
    | some (.inr (.inl (a, vs, pc, r))) => match d with
      | 0 => none
      | e + 1 => match mx_run n e a (0, mx_ent (mx_ml a) vs, [], s.2.2.2) with
        | none => none
        | some (v, h) => mx_run n (e + 1) k (pc, s.2.1, v.toList ++ r, h)
/-- more steps, more depth: the same -/
theorem mx_run_mono : ∀ (n n' d d' k : Nat) (s : mx_S) (x : Option Value × mx_H), n ≤ n' → d ≤ d' → mx_run n d k s = some x → mx_run n' d' k s = some x := by
  intro n
  induction n with
  | zero => intro n' d d' k s x _ _ h; simp [mx_run] at h
  | succ n ih =>
    intro n' d d' k s x hn hd h
    obtain ⟨n', rfl⟩ : ∃ j, n' = j + 1 := ⟨n' - 1, by omega⟩
    have hn : n ≤ n' := by omega
    rw [mx_run] at h ⊢
    cases hs : mx_stp k s with
    | none => rw [hs] at h; simp at h
    | some z =>
      rw [hs] at h
      obtain s' | ⟨a, vs, pc, r⟩ | v := z
      · exact ih _ _ _ _ _ _ hn hd h
      · cases d with
        | zero => simp at h
        | succ d =>
          obtain ⟨d', rfl⟩ : ∃ j, d' = j + 1 := ⟨d' - 1, by omega⟩
          dsimp only at h ⊢
          cases h1 : mx_run n d a (0, mx_ent (mx_ml a) vs, [], s.2.2.2) with
          | none => rw [h1] at h; simp at h
          | some y =>
            rw [h1] at h
            rw [ih n' d d' a _ _ hn (by omega) h1]
            exact ih _ _ _ _ _ _ hn hd h
      · exact h
/-- from there the method ends, and Q holds of its answer and of the heap -/
def wq (d k pc : Nat) (L : mx_L) (st : List Value) (h : mx_H) (Q : Option Value → mx_H → Prop) : Prop := ∃ (n : Nat) (r : Option Value) (h' : mx_H), mx_run n d k (pc, L, st, h) = some (r, h') ∧ Q r h'
/-- a whole call -/
def wc (d k : Nat) (vs : List Value) (h : mx_H) (Q : Option Value → mx_H → Prop) : Prop := wq d k 0 (mx_ent (mx_ml k) vs) [] h Q
theorem wq.mono {d d' k pc : Nat} {L : mx_L} {st : List Value} {h : mx_H} {Q Q' : Option Value → mx_H → Prop} (hq : wq d k pc L st h Q) (hd : d ≤ d') (hQ : ∀ r h', Q r h' → Q' r h') : wq d' k pc L st h Q' := by
  obtain ⟨n, r, h', h1, h2⟩ := hq
  exact ⟨n, r, h', mx_run_mono n n d d' k _ _ (Nat.le_refl n) hd h1, hQ _ _ h2⟩
theorem wq.go {d k pc pc' : Nat} {L L' : mx_L} {st st' : List Value} {h h' : mx_H} {Q : Option Value → mx_H → Prop} (hs : mx_stp k (pc, L, st, h) = some (.inl (pc', L', st', h'))) (kk : wq d k pc' L' st' h' Q) : wq d k pc L st h Q := by
  obtain ⟨n, r, h1, e1, e2⟩ := kk
  refine ⟨n + 1, r, h1, ?_, e2⟩
  rw [mx_run, hs]
  exact e1
theorem wq.ret {d k pc : Nat} {L : mx_L} {st : List Value} {h : mx_H} {Q : Option Value → mx_H → Prop} {v : Option Value} (hs : mx_stp k (pc, L, st, h) = some (.inr (.inr v))) (hq : Q v h) : wq d k pc L st h Q := by
  refine ⟨1, v, h, ?_, hq⟩
  rw [mx_run, hs]
theorem wq.call {d k pc pc' a : Nat} {L : mx_L} {st r vs : List Value} {h : mx_H} {Q : Option Value → mx_H → Prop} (hs : mx_stp k (pc, L, st, h) = some (.inr (.inl (a, vs, pc', r)))) (hd : 1 ≤ d) (kk : wc (d - 1) a vs h (fun v h1 => wq d k pc' L (v.toList ++ r) h1 Q)) : wq d k pc L st h Q := by
  obtain ⟨e, rfl⟩ : ∃ j, d = j + 1 := ⟨d - 1, by omega⟩
  obtain ⟨n1, v, h1, e1, n2, w, h2, e2, e3⟩ := kk
  rw [Nat.add_sub_cancel] at e1
  refine ⟨n1 + n2 + 1, w, h2, ?_, e3⟩
  rw [mx_run, hs]
  dsimp only
  rw [mx_run_mono n1 (n1 + n2) _ _ _ _ _ (by omega) (Nat.le_refl _) e1]
  exact mx_run_mono n2 (n1 + n2) _ _ _ _ _ (by omega) (Nat.le_refl _) e2
end
section
/-! ===== the small machine's things in the machine: addresses, cells, locals ===== -/
def mx_ad (sa : Nat → Nat) (base i : Nat) : Nat := if i < mx_big then base + i else sa (i - mx_big)
theorem mx_ad_lt {sa : Nat → Nat} {base i : Nat} (h : i < mx_big) : mx_ad sa base i = base + i := by unfold mx_ad; rw [if_pos h]
theorem mx_ad_big {sa : Nat → Nat} {base i : Nat} : mx_ad sa base (mx_big + i) = sa i := by
  unfold mx_ad
  rw [if_neg (by omega), Nat.add_sub_cancel_left]
def mx_cv (ad : Nat → Nat) (v : Value) : Value := match v with
  | .ref i => .ref (ad i)
  | w => w
theorem mx_cv_cat (ad : Nat → Nat) (v : Value) : (mx_cv ad v).category = v.category := by cases v <;> rfl
theorem mx_cv_rf (ad : Nat → Nat) (r : Option Nat) : mx_cv ad (va_rf r) = va_rf (r.map ad) := by cases r <;> rfl
theorem mx_cats_cv (ad : Nat → Nat) (st : List Value) : ((st.map (mx_cv ad)).map fun v => v.category).sum = mx_cats st := by
  unfold mx_cats
  rw [List.map_map]
  congr 1
  apply List.map_congr_left
  intro v _
  exact mx_cv_cat ad v
theorem mx_ok8_le {st : List Value} (ad : Nat → Nat) (h : mx_ok8 st = true) : ((st.map (mx_cv ad)).map fun v => v.category).sum ≤ 8 := by
  rw [mx_cats_cv]
  simpa [mx_ok8] using h
def mx_ce (tc : Nat → ClassId) (ad : Nat → Nat) (e : mx_E) : va_E := match e with
  | .inl (t, n, .inl f) => .inl (tc t, n, .inl f)
  | .inl (t, n, .inr g) => .inl (tc t, n, .inr (.inr (.inr (.inr (fun j => (g j).map ad)))))
  | .inr (ci, fs) => .inr (ci, fs.map (mx_cv ad))
def mx_wl (tc : Nat → ClassId) (sa : Nat → Nat) (base : Nat) (h : mx_H) : va_W := (List.range h.1).map (fun i => (base + i, mx_ce tc (mx_ad sa base) (h.2.2 i)))
theorem mx_wl_get {tc : Nat → ClassId} {sa : Nat → Nat} {base : Nat} {h : mx_H} {i : Nat} (hi : i < h.1) : (mx_wl tc sa base h)[i]? = some (base + i, mx_ce tc (mx_ad sa base) (h.2.2 i)) := by
  unfold mx_wl
  rw [List.getElem?_map, List.getElem?_range hi]
  rfl
theorem mx_wl_len {tc : Nat → ClassId} {sa : Nat → Nat} {base : Nat} {h : mx_H} : (mx_wl tc sa base h).length = h.1 := by simp [mx_wl]
theorem mx_wl_set {tc : Nat → ClassId} {sa : Nat → Nat} {base : Nat} {h : mx_H} {b : Nat} (e : mx_E) (hb : b < h.1) : (mx_wl tc sa base h).set b (base + b, mx_ce tc (mx_ad sa base) e) = mx_wl tc sa base (mx_set h b e) := by
  apply List.ext_getElem?
  intro i
  by_cases hi : i < h.1
  · rw [mx_wl_get (h := mx_set h b e) (show i < (mx_set h b e).1 from hi)]
    by_cases hib : b = i
    · subst hib
      rw [List.getElem?_set_self (by rw [mx_wl_len]; exact hb)]
      simp [mx_set]
    · rw [List.getElem?_set_ne hib, mx_wl_get hi]
      have hib2 : ¬ i = b := fun q => hib q.symm
      simp [mx_set, hib2]
  · rw [List.getElem?_eq_none (by simp only [List.length_set, mx_wl_len]; omega), List.getElem?_eq_none (by rw [mx_wl_len]; show (mx_set h b e).1 ≤ i; simp only [mx_set]; omega)]
theorem mx_wl_new {tc : Nat → ClassId} {sa : Nat → Nat} {base : Nat} {h : mx_H} (n : Nat) (e : mx_E) : mx_wl tc sa base h ++ [(base + h.1, mx_ce tc (mx_ad sa base) e)] = mx_wl tc sa base (mx_new h n e) := by
  unfold mx_wl
  show _ = List.map _ (List.range (h.1 + 1))
  rw [List.range_succ, List.map_append]
  congr 1
  · apply List.map_congr_left
    intro i hi
    have hi2 : ¬ i = h.1 := by have := List.mem_range.mp hi; omega
    simp [mx_new, hi2]
  · simp [mx_new]
def mx_A (base : Nat) : Nat → Prop := fun q => base ≤ q
theorem mx_wl_D {tc : Nat → ClassId} {sa : Nat → Nat} {base : Nat} {h : mx_H} : va_D (mx_A base) (mx_wl tc sa base h) := by
  have key : ∀ (i : Nat) (x : Nat × va_E), (mx_wl tc sa base h)[i]? = some x → x.1 = base + i := by
    intro i x hx
    have hi : i < h.1 := by
      have := (List.getElem?_eq_some_iff.mp hx).1
      rwa [mx_wl_len] at this
    rw [mx_wl_get hi] at hx
    cases hx
    rfl
  refine ⟨fun i j x y hx hy hxy => ?_, fun i x hx => ?_⟩
  · have h1 := key i x hx
    have h2 := key j y hy
    omega
  · have h1 := key i x hx
    show base ≤ x.1
    omega
def mx_tys (tc : Nat → ClassId) : List (ClassId × FieldType) := [(tc 0, .int), (tc 1, .boolean), (tc 2, .char), (tc 3, .object RX2), (tc 4, .object RX6), (tc 5, .object RX5)]
theorem mx_tys_el {tc : Nat → ClassId} {u : Nat} (h1 : 3 ≤ u) (h2 : u ≤ 5) : ∃ r : vw_C, mx_cl[mx_el u]? = some r ∧ (mx_tys tc)[u]? = some (tc u, .object r.1) := by
  rcases (show u = 3 ∨ u = 4 ∨ u = 5 by omega) with rfl | rfl | rfl
  · exact ⟨_, rfl, rfl⟩
  · exact ⟨_, rfl, rfl⟩
  · exact ⟨_, rfl, rfl⟩
def mx_LR (ad : Nat → Nat) (ls : Array Slot) (nL : Nat) (L : mx_L) : Prop := ls.size = nL ∧ L.length = nL ∧ lv_wf ls ∧ ∀ (j : Nat) (v : Value), L[j]? = some (some v) → ls[j]? = some (.val (mx_cv ad v))
def mx_al (ad : Nat → Nat) (L : mx_L) : List (Nat × Value) := (List.range L.length).filterMap (fun j => match L[j]? with
  | some (some v) => some (j, mx_cv ad v)
  | _ => none)
theorem mx_al_mem {ad : Nat → Nat} {L : mx_L} {j : Nat} {w : Value} : (j, w) ∈ mx_al ad L ↔ ∃ v, L[j]? = some (some v) ∧ w = mx_cv ad v := by
  unfold mx_al
  rw [List.mem_filterMap]
  constructor
  · rintro ⟨i, -, hi⟩
    split at hi
    · next v hv =>
      cases hi
      exact ⟨v, hv, rfl⟩
    · cases hi
  · rintro ⟨v, hv, rfl⟩
    refine ⟨j, List.mem_range.mpr (List.getElem?_eq_some_iff.mp hv).1, ?_⟩
    rw [hv]
theorem mx_LR.has {ad : Nat → Nat} {ls : Array Slot} {nL : Nat} {L : mx_L} (h : mx_LR ad ls nL L) : lv_has ls nL (mx_al ad L) := by
  refine ⟨h.1, h.2.2.1, ?_⟩
  rintro ⟨j, w⟩ hq
  obtain ⟨v, hv, rfl⟩ := mx_al_mem.mp hq
  exact h.2.2.2 j v hv
theorem mx_kill_len (L : mx_L) (i : Nat) : (mx_kill L i).length = L.length := by
  unfold mx_kill
  split
  · rfl
  · split
    · split <;> simp
    · rfl
theorem mx_store_len (L : mx_L) (i : Nat) (v : Value) : (mx_store L i v).length = L.length := by
  unfold mx_store
  split <;> simp [mx_kill_len]
theorem mx_kill_get {L : mx_L} {i j : Nat} {w : Value} (h : (mx_kill L i)[j]? = some (some w)) : L[j]? = some (some w) ∧ ¬ (j + 1 = i ∧ w.category = 2) := by
  cases i with
  | zero => exact ⟨h, by omega⟩
  | succ i =>
    unfold mx_kill at h
    dsimp only at h
    split at h
    · next u hu =>
      split at h
      · next hc =>
        by_cases hij : i = j
        · subst hij
          rw [List.getElem?_set_self (List.getElem?_eq_some_iff.mp hu).1] at h
          cases h
        · rw [List.getElem?_set_ne hij] at h
          exact ⟨h, by omega⟩
      · next hc =>
        refine ⟨h, ?_⟩
        rintro ⟨e1, e2⟩
        have hij : i = j := by omega
        subst hij
        rw [hu] at h
        cases h
        exact hc e2
    · next hn =>
      refine ⟨h, ?_⟩
      rintro ⟨e1, e2⟩
      have hij : i = j := by omega
      subst hij
      exact hn _ h
theorem mx_store1_get {L : mx_L} {i j : Nat} {v w : Value} (hc : ¬ v.category = 2) (h : (mx_store L i v)[j]? = some (some w)) : (j = i ∧ w = v) ∨ (¬ j = i ∧ L[j]? = some (some w) ∧ ¬ (j + 1 = i ∧ w.category = 2)) := by
  unfold mx_store at h
  rw [if_neg hc] at h
  by_cases hij : i = j
  · subst hij
    have hl := (List.getElem?_eq_some_iff.mp h).1
    rw [List.length_set] at hl
    rw [List.getElem?_set_self hl] at h
    cases h
    exact Or.inl ⟨rfl, rfl⟩
  · rw [List.getElem?_set_ne hij] at h
    exact Or.inr ⟨fun q => hij q.symm, mx_kill_get h⟩
theorem mx_store2_get {L : mx_L} {i j : Nat} {v w : Value} (hc : v.category = 2) (h : (mx_store L i v)[j]? = some (some w)) : (j = i ∧ w = v) ∨ (¬ j = i ∧ ¬ j = i + 1 ∧ L[j]? = some (some w) ∧ ¬ (j + 1 = i ∧ w.category = 2)) := by
  unfold mx_store at h
  rw [if_pos hc] at h
  by_cases hij1 : i + 1 = j
  · subst hij1
    have hl := (List.getElem?_eq_some_iff.mp h).1
    rw [List.length_set] at hl
    rw [List.getElem?_set_self hl] at h
    cases h
  · rw [List.getElem?_set_ne hij1] at h
    by_cases hij : i = j
    · subst hij
      have hl := (List.getElem?_eq_some_iff.mp h).1
      rw [List.length_set] at hl
      rw [List.getElem?_set_self hl] at h
      cases h
      exact Or.inl ⟨rfl, rfl⟩
    · rw [List.getElem?_set_ne hij] at h
      exact Or.inr ⟨fun q => hij q.symm, fun q => hij1 q.symm, mx_kill_get h⟩
theorem mx_LR.store1 {ad : Nat → Nat} {ls ls' : Array Slot} {nL i : Nat} {L : mx_L} {v : Value} (h : mx_LR ad ls nL L) (hc : ¬ v.category = 2) (h' : lv_has ls' nL ((i, mx_cv ad v) :: (mx_al ad L).filter (fun q => !(q.1 == i) && !(q.1 + 1 == i && q.2.category == 2)))) : mx_LR ad ls' nL (mx_store L i v) := by
  refine ⟨h'.1, (mx_store_len L i v).trans h.2.1, h'.2.1, fun j w hw => ?_⟩
  rcases mx_store1_get hc hw with ⟨rfl, rfl⟩ | ⟨h1, h2, h3⟩
  · exact h'.2.2 _ List.mem_cons_self
  · refine h'.2.2 (j, mx_cv ad w) (List.mem_cons_of_mem _ (List.mem_filter.mpr ⟨mx_al_mem.mpr ⟨w, h2, rfl⟩, ?_⟩))
    simp only [mx_cv_cat, Bool.and_eq_true, Bool.not_eq_true', beq_eq_false_iff_ne, ne_eq, Bool.and_eq_false_iff]
    refine ⟨h1, ?_⟩
    by_cases hz : j + 1 = i
    · exact Or.inr (fun z => h3 ⟨hz, z⟩)
    · exact Or.inl hz
theorem mx_LR.store2 {ad : Nat → Nat} {ls ls' : Array Slot} {nL i : Nat} {L : mx_L} {v : Value} (h : mx_LR ad ls nL L) (hc : v.category = 2) (h' : lv_has ls' nL ((i, mx_cv ad v) :: (mx_al ad L).filter (fun q => !(q.1 == i) && (!(q.1 == i + 1) && !(q.1 + 1 == i && q.2.category == 2))))) : mx_LR ad ls' nL (mx_store L i v) := by
  refine ⟨h'.1, (mx_store_len L i v).trans h.2.1, h'.2.1, fun j w hw => ?_⟩
  rcases mx_store2_get hc hw with ⟨rfl, rfl⟩ | ⟨h1, h0, h2, h3⟩
  · exact h'.2.2 _ List.mem_cons_self
  · refine h'.2.2 (j, mx_cv ad w) (List.mem_cons_of_mem _ (List.mem_filter.mpr ⟨mx_al_mem.mpr ⟨w, h2, rfl⟩, ?_⟩))
    simp only [mx_cv_cat, Bool.and_eq_true, Bool.not_eq_true', beq_eq_false_iff_ne, ne_eq, Bool.and_eq_false_iff]
    refine ⟨h1, h0, ?_⟩
    by_cases hz : j + 1 = i
    · exact Or.inr (fun z => h3 ⟨hz, z⟩)
    · exact Or.inl hz
theorem mx_pl_len (ad : Nat → Nat) : ∀ vs : List Value, (lg_sl (vs.map (mx_cv ad))).length = (mx_pl vs).length
  | [] => rfl
  | v :: t => by
    have ih := mx_pl_len ad t
    simp only [lg_sl, List.map_cons, List.flatMap_cons, List.length_append, mx_pl, mx_cv_cat] at ih ⊢
    split <;> simp_all <;> omega
theorem mx_pl_args (ad : Nat → Nat) : ∀ (vs : List Value) (i j : Nat) (v : Value), (mx_pl vs)[j]? = some (some v) → (i + j, mx_cv ad v) ∈ lv_args i (vs.map (mx_cv ad))
  | [], i, j, v, h => by simp [mx_pl] at h
  | w :: t, i, j, v, h => by
    simp only [mx_pl] at h
    simp only [List.map_cons, lv_args, mx_cv_cat]
    by_cases hc : w.category = 2
    · rw [if_pos hc] at h
      rw [if_pos hc]
      match j, h with
      | 0, h => simp at h; subst h; exact List.mem_cons_self
      | 1, h => simp at h
      | j + 2, h =>
        have h2 := mx_pl_args ad t (i + 2) j v (by simpa using h)
        rw [show i + (j + 2) = i + 2 + j by omega]
        exact List.mem_cons_of_mem _ h2
    · rw [if_neg hc] at h
      rw [if_neg hc]
      match j, h with
      | 0, h => simp at h; subst h; exact List.mem_cons_self
      | j + 1, h =>
        have h2 := mx_pl_args ad t (i + 1) j v (by simpa using h)
        rw [show i + (j + 1) = i + 1 + j by omega]
        exact List.mem_cons_of_mem _ h2
theorem mx_LR.entry {ad : Nat → Nat} {n : Nat} {vs : List Value} (h : (mx_pl vs).length ≤ n) : mx_LR ad ((lg_sl (vs.map (mx_cv ad)) ++ List.replicate (n - (lg_sl (vs.map (mx_cv ad))).length) Slot.unset).toArray) n (mx_ent n vs) := by
  have hl := lv_entry (vs.map (mx_cv ad)) (n := n) (by rw [mx_pl_len]; exact h)
  refine ⟨hl.1, by simp [mx_ent]; omega, hl.2.1, fun j v hv => ?_⟩
  have hj : (mx_pl vs)[j]? = some (some v) := by
    unfold mx_ent at hv
    by_cases hlt : j < (mx_pl vs).length
    · rwa [List.getElem?_append_left hlt] at hv
    · rw [List.getElem?_append_right (by omega)] at hv
      have := List.eq_of_mem_replicate (List.mem_of_getElem? hv)
      cases this
  have hm := mx_pl_args ad vs 0 j v hj
  rw [Nat.zero_add] at hm
  exact hl.2.2 _ hm
theorem mx_ld_some {L : mx_L} {i t : Nat} {w : Value} (h : mx_ld L i t = some w) : L[i]? = some (some w) ∧ mx_tag w = t := by
  unfold mx_ld at h
  split at h
  · next v hv =>
    split at h
    · next ht =>
      cases h
      exact ⟨hv, ht⟩
    · cases h
  · cases h
theorem mx_fit_ok {ty : FieldType} {w : Value} (ad : Nat → Nat) (h : mx_fit ty w = true) : narrow ty (mx_cv ad w) = mx_cv ad w ∧ fits ty (mx_cv ad w) = true := by
  cases ty <;> cases w <;> simp [mx_fit] at h <;> first
    | exact ⟨rfl, rfl⟩
    | (rcases h with rfl | rfl <;> exact ⟨rfl, rfl⟩)
end
section
/-! ===== what holds in the machine while the small machine runs ===== -/
def mx_KK (dC : Nat → ClassId) (dI : Nat → Nat → Nat) (tc : Nat → ClassId) (sa : Nat → Nat) (U : State) : Prop :=
  va_K (dC, dI) mx_cl (mx_tys tc) U ∧ (∀ q ∈ mx_nst, va_Nw (.methodLinkNest q.1 q.2.1 q.2.2 "BeachIsRelaid") U) ∧ (∀ (j : Nat) (q : String × Nat × String), mx_strs[j]? = some q → vk_R q.1 q.2.1 q.2.2 (sa (j + 1)) U) ∧ (va_AO RX2 U ∧ va_AO RX6 U ∧ va_AO RX5 U) ∧ va_Nw (.castable "[I" "java/lang/Cloneable") U
theorem mx_KK.warm {dC : Nat → ClassId} {dI : Nat → Nat → Nat} {tc : Nat → ClassId} {sa : Nat → Nat} {s U : State} (hW : s.WarmedH U.vm) (h : mx_KK dC dI tc sa s) : mx_KK dC dI tc sa U :=
  ⟨va_K.moved hW.alike h.1, fun q hq => va_Nw.warmM hW (h.2.1 q hq), fun j q hq => vk_R.warm hW (h.2.2.1 j q hq), ⟨va_AO.moved hW.alike h.2.2.2.1.1, va_AO.moved hW.alike h.2.2.2.1.2.1, va_AO.moved hW.alike h.2.2.2.1.2.2⟩, va_Nw.warmC hW h.2.2.2.2⟩
theorem mx_KK.same {dC : Nat → ClassId} {dI : Nat → Nat → Nat} {tc : Nat → ClassId} {sa : Nat → Nat} {s U : State} (hv : s.vm = U.vm) (h : mx_KK dC dI tc sa s) : mx_KK dC dI tc sa U := by
  have ha : s.vm.Alike U.vm := by rw [hv]; exact Vm.Alike.refl _
  exact ⟨va_K.moved ha h.1, fun q hq => va_Nw.same rfl hv (h.2.1 q hq), fun j q hq => vk_R.same hv.symm (h.2.2.1 j q hq), ⟨va_AO.moved ha h.2.2.2.1.1, va_AO.moved ha h.2.2.2.1.2.1, va_AO.moved ha h.2.2.2.1.2.2⟩, va_Nw.same rfl hv h.2.2.2.2⟩
def mx_slens : List Nat := mx_byt.map List.length
/-- what lies outside: the script, the String constants -/
def mx_EX (sa : Nat → Nat) (base Ls : Nat) (xs : Nat → Int32) (av : Nat → Nat) (U : State) (H : Heap) : Prop :=
  sa 0 < base ∧ va_X (sa 0) Ls xs U H ∧ vk_S mx_byt.length mx_slens mx_byt (fun j => sa (j + 1)) av (mx_A base) U H ∧ va_Z "java/lang/String" "COMPACT_STRINGS" "Z" (.int 1) (mx_A base) U H ∧ va_Zq "jdk/internal/util/Preconditions" "SIOOBE_FORMATTER" "Ljava/util/function/BiFunction;" (mx_A base) U H
theorem mx_Zk {C n d : String} {v : Value} {A : Nat → Prop} {U : State} {H H1 : Heap} (h : va_Z C n d v A U H) (hq : ∀ q : Nat, q < H.size → ¬ A q → H1[q]? = H[q]?) : va_Z C n d v A U H1 := by
  obtain ⟨cf, kf, fi, f, a, cell, g1, g2, g3, g4, g5, g6, g7, g8⟩ := h
  exact ⟨cf, kf, fi, f, a, cell, g1, g2, g3, g4, by rw [hq a (Array.getElem?_eq_some_iff.mp g5).1 g8]; exact g5, g6, g7, g8⟩
theorem mx_EX.kept {sa : Nat → Nat} {base Ls : Nat} {xs : Nat → Int32} {av : Nat → Nat} {U : State} {H H1 : Heap} (h : mx_EX sa base Ls xs av U H) (hq : ∀ q : Nat, q < H.size → ¬ mx_A base q → H1[q]? = H[q]?) : mx_EX sa base Ls xs av U H1 := by
  obtain ⟨h1, h2, h3, h4, h5⟩ := h
  refine ⟨h1, h2.kept (hq _ ?_ ?_), h3.kept hq, mx_Zk h4 hq, h5.imp (fun z => mx_Zk z hq) (fun ⟨t, z⟩ => ⟨t, mx_Zk z hq⟩)⟩
  · obtain ⟨scr, g, -⟩ := h2
    exact (Array.getElem?_eq_some_iff.mp g).1
  · show ¬ base ≤ sa 0
    omega
def mx_Rp (dC : Nat → ClassId) (dI : Nat → Nat → Nat) (tc : Nat → ClassId) (sa : Nat → Nat) (base Ls : Nat) (xs : Nat → Int32) (h : mx_H) (H : Heap) : Prop :=
  va_P (dC, dI) mx_cl (mx_wl tc sa base h) H ∧ (∀ i, h.1 ≤ i → i ≠ mx_big → h.2.2 i = mx_nil) ∧ h.2.2 mx_big = .inl (0, Ls, .inl xs) ∧ h.1 ≤ mx_big
def mx_Cx (dC : Nat → ClassId) (dI : Nat → Nat → Nat) (tc : Nat → ClassId) (sa : Nat → Nat) (base Ls : Nat) (xs : Nat → Int32) (av : Nat → Nat) (k : Nat) (p : Program) (R : Room) (s : State) (m : MethodId) (args : Array Value) (meth : Method) (c : Code) (c0 : Nat) : Prop :=
  p.tables.exec = Jvm.exec ∧ c.code = mx_mb k ∧ c.maxLocals = mx_ml k ∧ s.vm.findClass (mx_cn (mx_mc k)) = some m.cls ∧ (∀ w ∈ mx_ts, w.before args s = true) ∧ ((mx_my k).name = "<init>" → meth.name = "<init>") ∧ mx_KK dC dI tc sa s ∧ mx_EX sa base Ls xs av s s.heap ∧ s.heap.size = base + c0 ∧ 10 ≤ R.frames ∧ 400 ≤ R.locals
def mx_At (dC : Nat → ClassId) (dI : Nat → Nat → Nat) (tc : Nat → ClassId) (sa : Nat → Nat) (base Ls : Nat) (xs : Nat → Int32) (k : Nat) (s : State) (c0 s0 : Nat) (L : mx_L) (h : mx_H) (H : Heap) (locs : List Loc) (ls : Array Slot) (cells slots : Nat) : Prop :=
  mx_Rp dC dI tc sa base Ls xs h H ∧ va_S (mx_A base) s.heap H locs ∧ mx_LR (mx_ad sa base) ls (mx_ml k) L ∧ cells + c0 = h.1 ∧ slots + s0 = h.2.1
theorem mx_uws : ∀ (c : Nat) (r : vw_C), mx_cl[c]? = some r → ∀ w ∈ u_ws r.1 r.2.1 r.2.2, w ∈ mx_ts := by
  have key : ∀ (r : vw_C) (is : List Nat), u_ws r.1 r.2.1 r.2.2 = is.filterMap (fun i => lw_tbl[i]?) → (u_ws r.1 r.2.1 r.2.2).all goodWord = true → ∀ w ∈ u_ws r.1 r.2.1 r.2.2, w ∈ mx_ts := by
    intro r is h1 h2 w hw
    refine List.mem_filter.mpr ⟨?_, List.all_eq_true.mp h2 w hw⟩
    rw [h1] at hw
    obtain ⟨i, -, hi⟩ := List.mem_filterMap.mp hw
    exact List.mem_of_getElem? hi
  intro c r hr
  have hlt : c < 10 := (List.getElem?_eq_some_iff.mp hr).1
  match c, hlt, hr with
  | 0, _, hr => cases hr; exact key (RX0, TX0, 6) [161, 163, 165, 167, 169, 171] (by decide +kernel) (by decide +kernel)
  | 1, _, hr => cases hr; exact key (RX1, TX1, 2) [248, 250] (by decide +kernel) (by decide +kernel)
  | 2, _, hr => cases hr; exact key (RX2, TX2, 4) [135, 137, 139, 141] (by decide +kernel) (by decide +kernel)
  | 3, _, hr => cases hr; exact key (RX3, TX3, 10) [192, 194, 196, 198, 200, 202, 204, 206, 208, 210] (by decide +kernel) (by decide +kernel)
  | 4, _, hr => cases hr; exact key (RX4, TX4, 5) [227, 229, 231, 233, 235] (by decide +kernel) (by decide +kernel)
  | 5, _, hr => cases hr; exact key (RX5, TX5, 3) [297, 299, 301] (by decide +kernel) (by decide +kernel)
  | 6, _, hr => cases hr; exact key (RX6, TX6, 2) [485, 487] (by decide +kernel) (by decide +kernel)
  | 7, _, hr => cases hr; exact key (RX7, TX7, 7) [268, 270, 272, 274, 276, 278, 280] (by decide +kernel) (by decide +kernel)
  | 8, _, hr => cases hr; exact key (RX8, TX8, 9) [508, 510, 512, 514, 516, 518, 520, 522, 524] (by decide +kernel) (by decide +kernel)
  | 9, _, hr => cases hr; exact key (RX9, TX9, 36) [1000, 1002, 1004, 1006, 1008, 1010, 1012, 1014, 1016, 1018, 1020, 1022, 1024, 1026, 1028, 1030, 1032, 1034, 1036, 1038, 1040, 1042, 1044, 1046, 1048, 1050, 1052, 1054, 1056, 1058, 1060, 1062, 1064, 1066, 1068, 1070] (by decide +kernel) (by decide +kernel)
theorem mx_tyok : ∀ (c : Nat) (r : vw_C), mx_cl[c]? = some r → (∀ j, j < r.2.2 → parseFieldDescriptor (r.2.1 j).2.2.1 = some ((mx_tyl.getD c (fun _ => .int)) j)) ∧ (∀ a, a < r.2.2 → ∀ b, b < r.2.2 → a ≠ b → (r.2.1 a).2.1 ≠ (r.2.1 b).2.1) ∧ (∀ j, j < r.2.2 → defaultValue ((mx_tyl.getD c (fun _ => .int)) j) = vp_V (mx_defs c) j) ∧ mx_nf c = r.2.2 := by
  intro c r hr
  have hlt : c < 10 := (List.getElem?_eq_some_iff.mp hr).1
  match c, hlt, hr with
  | 0, _, hr => cases hr; exact ⟨tyX0_ok, nmX0, by decide +kernel, by decide +kernel⟩
  | 1, _, hr => cases hr; exact ⟨tyX1_ok, nmX1, by decide +kernel, by decide +kernel⟩
  | 2, _, hr => cases hr; exact ⟨tyX2_ok, nmX2, by decide +kernel, by decide +kernel⟩
  | 3, _, hr => cases hr; exact ⟨tyX3_ok, nmX3, by decide +kernel, by decide +kernel⟩
  | 4, _, hr => cases hr; exact ⟨tyX4_ok, nmX4, by decide +kernel, by decide +kernel⟩
  | 5, _, hr => cases hr; exact ⟨tyX5_ok, nmX5, by decide +kernel, by decide +kernel⟩
  | 6, _, hr => cases hr; exact ⟨tyX6_ok, nmX6, by decide +kernel, by decide +kernel⟩
  | 7, _, hr => cases hr; exact ⟨tyX7_ok, nmX7, by decide +kernel, by decide +kernel⟩
  | 8, _, hr => cases hr; exact ⟨tyX8_ok, nmX8, by decide +kernel, by decide +kernel⟩
  | 9, _, hr => cases hr; exact ⟨tyX9_ok, nmX9, by decide +kernel, by decide +kernel⟩
theorem mx_defs_cv (ad : Nat → Nat) (c : Nat) : (mx_defs c).map (mx_cv ad) = mx_defs c := by
  unfold mx_defs
  rw [List.map_map]
  apply List.map_congr_left
  intro i _
  show mx_cv ad (mx_def _) = mx_def _
  unfold mx_def
  split <;> rfl
section MXB
variable {p : Program} {l : Launch} {e : Env} {R : Room} {s : State} {m : MethodId} {args : Array Value} {below : List Frame} {meth : Method} {c : Code} {H : Heap} {locs : List Loc} {cells slots : Nat} {Q : State → Prop}
/-- the heap is no greater than what was counted -/
theorem mx_bound {g : JFrame} (kk : H.size ≤ s.heap.size + cells → W p l e R s m args below meth c H locs cells slots Q g) : W p l e R s m args below meth c H locs cells slots Q g := by
  intro T hT X
  have h1 := X.same.2.2.1
  exact kk (by rw [← hT]; exact h1) T hT X
end MXB
theorem mx_fresh {D : va_G} {cl : List vw_C} {tc : Nat → ClassId} {sa : Nat → Nat} {base q n : Nat} {h : mx_H} {x : va_E} {H : Heap} (hP : va_P D cl (mx_wl tc sa base h ++ [(q, x)]) H) (hD : va_D (mx_A base) (mx_wl tc sa base h ++ [(q, x)])) (hH : H.size ≤ n) (hn : n = base + h.1 + 1) : q = base + h.1 := by
  have hg : (mx_wl tc sa base h ++ [(q, x)])[h.1]? = some (q, x) := by
    rw [List.getElem?_append_right (by rw [mx_wl_len]; exact Nat.le_refl _), mx_wl_len, Nat.sub_self]
    rfl
  have h1 : q < H.size := (hP h.1 _ hg).lt
  have h2 : base ≤ q := hD.2 h.1 _ hg
  by_cases hlt : q < base + h.1
  · have hi : q - base < h.1 := by omega
    have hg2 : (mx_wl tc sa base h ++ [(q, x)])[q - base]? = some (base + (q - base), mx_ce tc (mx_ad sa base) (h.2.2 (q - base))) := by
      rw [List.getElem?_append_left (by rw [mx_wl_len]; exact hi)]
      exact mx_wl_get hi
    have := hD.1 _ _ _ _ hg hg2 (by show q = base + (q - base); omega)
    omega
  · omega
end
section
/-! ===== each step of the small machine is a step of the machine ===== -/
section MXS
variable {p : Program} {l : Launch} {e : Env} {R : Room} {s : State} {m : MethodId} {args : Array Value} {below : List Frame} {meth : Method} {c : Code} {H : Heap} {locs : List Loc} {cells slots : Nat} {Q : State → Prop}
variable {dC : Nat → ClassId} {dI : Nat → Nat → Nat} {tc : Nat → ClassId} {sa : Nat → Nat} {base Ls : Nat} {xs : Nat → Int32} {av : Nat → Nat} {k pc c0 s0 a : Nat} {ls : Array Slot} {L : mx_L} {h : mx_H} {st r : List Value} {s' : mx_S} {cc : ByteArray}
theorem mx_s_sk {ins : Jvm.ClassFile.Instr} {st' : List Value} {ad : Nat → Nat} (hx : p.tables.exec = Jvm.exec) (hb : c.code = cc) (hd : decode cc pc = .ok (ins, mx_len ins)) (hs : mx_sk ins st = some st')
    (kk : W p l e R s m args below meth c H locs cells slots Q (F0 m (pc + mx_len ins) ls (st'.map (mx_cv ad)))) : W p l e R s m args below meth c H locs cells slots Q (F0 m pc ls (st.map (mx_cv ad))) := by
  unfold mx_sk at hs
  split at hs
  · cases hs; exact lv_iconst hx hb hd rfl kk
  · cases hs; exact lv_bipush hx hb hd rfl kk
  · cases hs; exact lv_sipush hx hb hd rfl kk
  · cases hs; exact lv_lconst hx hb hd rfl kk
  · cases hs; exact lv_null hx hb hd kk
  · split at hs
    · cases hs; exact lv_iadd hx hb hd kk
    · cases hs
  · split at hs
    · cases hs; exact lv_isub hx hb hd kk
    · cases hs
  · split at hs
    · cases hs; exact lv_imul hx hb hd kk
    · cases hs
  · split at hs
    · cases hs; exact lv_iand hx hb hd kk
    · cases hs
  · split at hs
    · cases hs; exact lv_ior hx hb hd kk
    · cases hs
  · split at hs
    · split at hs
      · cases hs
      · next hne => cases hs; exact lv_idiv hx hb hd hne kk
    · cases hs
  · split at hs
    · split at hs
      · cases hs
      · next hne => cases hs; exact lv_irem hx hb hd hne kk
    · cases hs
  · split at hs
    · cases hs; exact lv_ineg hx hb hd kk
    · cases hs
  · split at hs
    · cases hs; exact lv_ishl hx hb hd kk
    · cases hs
  · split at hs
    · cases hs; exact lv_ishr hx hb hd kk
    · cases hs
  · split at hs
    · cases hs; exact lv_iushr hx hb hd rfl kk
    · cases hs
  · split at hs
    · cases hs; exact lv_ladd hx hb hd kk
    · cases hs
  · split at hs
    · cases hs; exact lv_lsub hx hb hd kk
    · cases hs
  · split at hs
    · cases hs; exact lv_land hx hb hd kk
    · cases hs
  · split at hs
    · cases hs; exact lv_lor hx hb hd kk
    · cases hs
  · split at hs
    · cases hs; exact lv_lxor hx hb hd kk
    · cases hs
  · split at hs
    · split at hs
      · cases hs
      · next hne => cases hs; exact lv_ldiv hx hb hd hne kk
    · cases hs
  · split at hs
    · split at hs
      · cases hs
      · next hne => cases hs; exact lv_lrem hx hb hd hne kk
    · cases hs
  · split at hs
    · cases hs; exact lv_lshl hx hb hd rfl kk
    · cases hs
  · split at hs
    · cases hs; exact lv_lshr hx hb hd rfl kk
    · cases hs
  · split at hs
    · cases hs; exact lv_lushr hx hb hd rfl kk
    · cases hs
  · split at hs
    · cases hs; exact W.lcmp hx hb hd kk
    · cases hs
  · split at hs
    · cases hs; exact lv_i2l hx hb hd rfl kk
    · cases hs
  · split at hs
    · cases hs; exact lv_l2i hx hb hd rfl kk
    · cases hs
  · split at hs
    · cases hs; exact lv_i2b hx hb hd rfl kk
    · cases hs
  · split at hs
    · cases hs; exact lv_i2s hx hb hd rfl kk
    · cases hs
  · split at hs
    · cases hs; exact lv_i2c hx hb hd rfl kk
    · cases hs
  · split at hs
    · split at hs
      · next hc => cases hs; exact lv_dup hx hb hd (by rw [mx_cv_cat]; exact hc) kk
      · cases hs
    · cases hs
  · split at hs
    · split at hs
      · next hc => cases hs; exact lv_pop hx hb hd (by rw [mx_cv_cat]; exact hc) kk
      · cases hs
    · cases hs
  · split at hs
    · split at hs
      · next hc => cases hs; exact lv_dup2_11 hx hb hd (by rw [mx_cv_cat]; exact hc.1) (by rw [mx_cv_cat]; exact hc.2) kk
      · cases hs
    · cases hs
  · cases hs
/-- what every step owes, of the state behind it -/
def mx_K (p : Program) (l : Launch) (e : Env) (R : Room) (s : State) (m : MethodId) (args : Array Value) (below : List Frame) (meth : Method) (c : Code) (Q : State → Prop) (dC : Nat → ClassId) (dI : Nat → Nat → Nat) (tc : Nat → ClassId) (sa : Nat → Nat) (base Ls : Nat) (xs : Nat → Int32) (k c0 s0 : Nat) (s' : mx_S) : Prop :=
  ∀ (H : Heap) (locs : List Loc) (ls : Array Slot) (cells slots : Nat), mx_At dC dI tc sa base Ls xs k s c0 s0 s'.2.1 s'.2.2.2 H locs ls cells slots → W p l e R s m args below meth c H locs cells slots Q (F0 m s'.1 ls (s'.2.2.1.map (mx_cv (mx_ad sa base))))
theorem mx_tag0 {w : Value} (h : mx_tag w = 0) : ∃ x, w = .int x := by cases w <;> simp [mx_tag] at h; exact ⟨_, rfl⟩
theorem mx_tag1 {w : Value} (h : mx_tag w = 1) : ∃ x, w = .long x := by cases w <;> simp [mx_tag] at h; exact ⟨_, rfl⟩
theorem mx_tag2 {w : Value} (h : mx_tag w = 2) : w = .null ∨ ∃ x, w = .ref x := by cases w <;> simp [mx_tag] at h; exact Or.inl rfl; exact Or.inr ⟨_, rfl⟩
theorem mx_s_load (hx : p.tables.exec = Jvm.exec) (hb : c.code = cc) (ins : Jvm.ClassFile.Instr) {i t n : Nat} (hcase : (t = 0 ∧ ((ins = .iload i ∧ n = 2) ∨ (n = 1 ∧ ∃ j : Fin 4, ins = .iload_n j ∧ (j : Nat) = i))) ∨ (t = 1 ∧ ((ins = .lload i ∧ n = 2) ∨ (n = 1 ∧ ∃ j : Fin 4, ins = .lload_n j ∧ (j : Nat) = i))) ∨ (t = 2 ∧ ((ins = .aload i ∧ n = 2) ∨ (n = 1 ∧ ∃ j : Fin 4, ins = .aload_n j ∧ (j : Nat) = i))))
    (hd : decode cc pc = .ok (ins, n)) (X : mx_At dC dI tc sa base Ls xs k s c0 s0 L h H locs ls cells slots) (hs : mx_psh (mx_ld L i t) (pc + n) L st h = some (.inl s')) (kk : mx_K p l e R s m args below meth c Q dC dI tc sa base Ls xs k c0 s0 s') :
    W p l e R s m args below meth c H locs cells slots Q (F0 m pc ls (st.map (mx_cv (mx_ad sa base)))) := by
  unfold mx_psh at hs
  split at hs
  · next w hw =>
    cases hs
    obtain ⟨h1, h2⟩ := mx_ld_some hw
    have k1 := kk H locs ls cells slots X
    have hl := X.2.2.1.2.2.2 i w h1
    rcases hcase with ⟨rfl, hc⟩ | ⟨rfl, hc⟩ | ⟨rfl, hc⟩
    · obtain ⟨x, rfl⟩ := mx_tag0 h2
      rcases hc with ⟨rfl, rfl⟩ | ⟨rfl, j, rfl, hj⟩
      · exact lv_iload hx hb hd hl k1
      · exact lv_iload_n hx hb hd hj hl k1
    · obtain ⟨x, rfl⟩ := mx_tag1 h2
      rcases hc with ⟨rfl, rfl⟩ | ⟨rfl, j, rfl, hj⟩
      · exact lv_lload hx hb hd hl k1
      · exact lv_lload_n hx hb hd hj hl k1
    · rcases mx_tag2 h2 with rfl | ⟨x, rfl⟩
      · rcases hc with ⟨rfl, rfl⟩ | ⟨rfl, j, rfl, hj⟩
        · exact lv_aloadN hx hb hd hl k1
        · exact lv_aload_nN hx hb hd hj hl k1
      · rcases hc with ⟨rfl, rfl⟩ | ⟨rfl, j, rfl, hj⟩
        · exact lv_aload hx hb hd hl k1
        · exact lv_aload_n hx hb hd hj hl k1
  · cases hs
theorem mx_s_store (hx : p.tables.exec = Jvm.exec) (hb : c.code = cc) (ins : Jvm.ClassFile.Instr) {i t n : Nat} (hcase : (t = 0 ∧ ((ins = .istore i ∧ n = 2) ∨ (n = 1 ∧ ∃ j : Fin 4, ins = .istore_n j ∧ (j : Nat) = i))) ∨ (t = 1 ∧ ((ins = .lstore i ∧ n = 2) ∨ (n = 1 ∧ ∃ j : Fin 4, ins = .lstore_n j ∧ (j : Nat) = i))) ∨ (t = 2 ∧ ((ins = .astore i ∧ n = 2) ∨ (n = 1 ∧ ∃ j : Fin 4, ins = .astore_n j ∧ (j : Nat) = i))))
    (hd : decode cc pc = .ok (ins, n)) (X : mx_At dC dI tc sa base Ls xs k s c0 s0 L h H locs ls cells slots) (hs : mx_sto t i (pc + n) L st h = some (.inl s')) (kk : mx_K p l e R s m args below meth c Q dC dI tc sa base Ls xs k c0 s0 s') :
    W p l e R s m args below meth c H locs cells slots Q (F0 m pc ls (st.map (mx_cv (mx_ad sa base)))) := by
  unfold mx_sto at hs
  split at hs
  · next v r =>
    by_cases hc0 : mx_tag v = t ∧ i + (if t = 1 then 1 else 0) < L.length
    · rw [if_pos hc0] at hs
      obtain ⟨h2, h3⟩ := hc0
      cases hs
      have hA := X.2.2.1.has
      have hlen := X.2.2.1.2.1
      have key : ∀ ls' : Array Slot, mx_LR (mx_ad sa base) ls' (mx_ml k) (mx_store L i v) → W p l e R s m args below meth c H locs cells slots Q (F0 m (pc + n) ls' (r.map (mx_cv (mx_ad sa base)))) := fun ls' hl => kk H locs ls' cells slots ⟨X.1, X.2.1, hl, X.2.2.2⟩
      rcases hcase with ⟨rfl, hc⟩ | ⟨rfl, hc⟩ | ⟨rfl, hc⟩
      · obtain ⟨x, rfl⟩ := mx_tag0 h2
        have hi : i < mx_ml k := by simpa [hlen] using h3
        rcases hc with ⟨rfl, rfl⟩ | ⟨rfl, j, rfl, hj⟩
        · exact lv_istore hx hb hd hA hi rfl (fun ls' hl => key ls' (X.2.2.1.store1 (by simp [Value.category]) hl))
        · exact lv_istore_n hx hb hd hj hA hi rfl (fun ls' hl => key ls' (X.2.2.1.store1 (by simp [Value.category]) hl))
      · obtain ⟨x, rfl⟩ := mx_tag1 h2
        have hi : i + 1 < mx_ml k := by simpa [hlen] using h3
        rcases hc with ⟨rfl, rfl⟩ | ⟨rfl, j, rfl, hj⟩
        · exact lv_lstore hx hb hd hA hi rfl (fun ls' hl => key ls' (X.2.2.1.store2 rfl hl))
        · exact lv_lstore_n hx hb hd hj hA hi rfl (fun ls' hl => key ls' (X.2.2.1.store2 rfl hl))
      · have hi : i < mx_ml k := by simpa [hlen] using h3
        rcases mx_tag2 h2 with rfl | ⟨x, rfl⟩
        · rcases hc with ⟨rfl, rfl⟩ | ⟨rfl, j, rfl, hj⟩
          · exact lv_astoreN hx hb hd hA hi rfl (fun ls' hl => key ls' (X.2.2.1.store1 (by simp [Value.category]) hl))
          · exact lv_astore_nN hx hb hd hj hA hi rfl (fun ls' hl => key ls' (X.2.2.1.store1 (by simp [Value.category]) hl))
        · rcases hc with ⟨rfl, rfl⟩ | ⟨rfl, j, rfl, hj⟩
          · exact lv_astore hx hb hd hA hi rfl (fun ls' hl => key ls' (X.2.2.1.store1 (by simp [Value.category]) hl))
          · exact lv_astore_n hx hb hd hj hA hi rfl (fun ls' hl => key ls' (X.2.2.1.store1 (by simp [Value.category]) hl))
    · rw [if_neg hc0] at hs
      cases hs
  · cases hs
theorem mx_s_iinc (hx : p.tables.exec = Jvm.exec) (hb : c.code = cc) {i : Nat} {n : Int} {x : Int32} (hd : decode cc pc = .ok (.iinc i n, 3)) (X : mx_At dC dI tc sa base Ls xs k s c0 s0 L h H locs ls cells slots) (hs : mx_ld L i 0 = some (.int x))
    (kk : mx_K p l e R s m args below meth c Q dC dI tc sa base Ls xs k c0 s0 (pc + 3, mx_store L i (.int (x + Int32.ofInt n)), st, h)) :
    W p l e R s m args below meth c H locs cells slots Q (F0 m pc ls (st.map (mx_cv (mx_ad sa base)))) := by
  obtain ⟨h1, -⟩ := mx_ld_some hs
  obtain ⟨j, hj⟩ := List.getElem?_of_mem (mx_al_mem (ad := mx_ad sa base).mpr ⟨_, h1, rfl⟩)
  have hi : i < mx_ml k := by have := (List.getElem?_eq_some_iff.mp h1).1; rw [X.2.2.1.2.1] at this; exact this
  exact lv_iinc (k := j) hx hb hd X.2.2.1.has hj rfl hi rfl (fun ls' hl => kk H locs ls' cells slots ⟨X.1, X.2.1, X.2.2.1.store1 (v := .int (x + Int32.ofInt n)) (by simp [Value.category]) hl, X.2.2.2⟩)
theorem mx_s_if (hx : p.tables.exec = Jvm.exec) (hb : c.code = cc) {co : Jvm.ClassFile.Cond} {o : Int} {x : Int32} (hd : decode cc pc = .ok (.ifCond co o, 3)) (ht : (pc : Int) + o = (a : Int)) (X : mx_At dC dI tc sa base Ls xs k s c0 s0 L h H locs ls cells slots) (hs : mx_if (mx_cmp co x 0) a pc L r h = some (.inl s')) (kk : mx_K p l e R s m args below meth c Q dC dI tc sa base Ls xs k c0 s0 s') :
    W p l e R s m args below meth c H locs cells slots Q (F0 m pc ls ((Value.int x :: r).map (mx_cv (mx_ad sa base)))) := by
  have kt : mx_cmp co x 0 = true → W p l e R s m args below meth c H locs cells slots Q (F0 m a ls (r.map (mx_cv (mx_ad sa base)))) := fun hc => by
    unfold mx_if at hs
    rw [if_pos hc] at hs
    cases hs
    exact kk H locs ls cells slots X
  have kf : ¬ mx_cmp co x 0 = true → W p l e R s m args below meth c H locs cells slots Q (F0 m (pc + 3) ls (r.map (mx_cv (mx_ad sa base)))) := fun hc => by
    unfold mx_if at hs
    rw [if_neg hc] at hs
    cases hs
    exact kk H locs ls cells slots X
  cases co
  · exact lv_if_eq hx hb hd ht (fun q => kt (by simpa [mx_cmp] using q)) (fun q => kf (by simpa [mx_cmp] using q))
  · exact lv_if_ne hx hb hd ht (fun q => kt (by simpa [mx_cmp] using q)) (fun q => kf (by simpa [mx_cmp] using q))
  · exact lv_if_lt hx hb hd ht (fun q => kt (by simpa [mx_cmp] using q)) (fun q => kf (by simpa [mx_cmp] using q))
  · exact lv_if_ge hx hb hd ht (fun q => kt (by simpa [mx_cmp] using q)) (fun q => kf (by simpa [mx_cmp] using q))
  · exact lv_if_gt hx hb hd ht (fun q => kt (by simpa [mx_cmp] using q)) (fun q => kf (by simpa [mx_cmp] using q))
  · exact lv_if_le hx hb hd ht (fun q => kt (by simpa [mx_cmp] using q)) (fun q => kf (by simpa [mx_cmp] using q))
theorem mx_s_icmp (hx : p.tables.exec = Jvm.exec) (hb : c.code = cc) {co : Jvm.ClassFile.Cond} {o : Int} {x y : Int32} (hd : decode cc pc = .ok (.if_icmp co o, 3)) (ht : (pc : Int) + o = (a : Int)) (X : mx_At dC dI tc sa base Ls xs k s c0 s0 L h H locs ls cells slots) (hs : mx_if (mx_cmp co x y) a pc L r h = some (.inl s')) (kk : mx_K p l e R s m args below meth c Q dC dI tc sa base Ls xs k c0 s0 s') :
    W p l e R s m args below meth c H locs cells slots Q (F0 m pc ls ((Value.int y :: Value.int x :: r).map (mx_cv (mx_ad sa base)))) := by
  have kt : mx_cmp co x y = true → W p l e R s m args below meth c H locs cells slots Q (F0 m a ls (r.map (mx_cv (mx_ad sa base)))) := fun hc => by
    unfold mx_if at hs
    rw [if_pos hc] at hs
    cases hs
    exact kk H locs ls cells slots X
  have kf : ¬ mx_cmp co x y = true → W p l e R s m args below meth c H locs cells slots Q (F0 m (pc + 3) ls (r.map (mx_cv (mx_ad sa base)))) := fun hc => by
    unfold mx_if at hs
    rw [if_neg hc] at hs
    cases hs
    exact kk H locs ls cells slots X
  cases co
  · exact lv_icmp_eq hx hb hd ht (fun q => kt (by simpa [mx_cmp] using q)) (fun q => kf (by simpa [mx_cmp] using q))
  · exact lv_icmp_ne hx hb hd ht (fun q => kt (by simpa [mx_cmp] using q)) (fun q => kf (by simpa [mx_cmp] using q))
  · exact lv_icmp_lt hx hb hd ht (fun q => kt (by simpa [mx_cmp] using q)) (fun q => kf (by simpa [mx_cmp] using q))
  · exact lv_icmp_ge hx hb hd ht (fun q => kt (by simpa [mx_cmp] using q)) (fun q => kf (by simpa [mx_cmp] using q))
  · exact lv_icmp_gt hx hb hd ht (fun q => kt (by simpa [mx_cmp] using q)) (fun q => kf (by simpa [mx_cmp] using q))
  · exact lv_icmp_le hx hb hd ht (fun q => kt (by simpa [mx_cmp] using q)) (fun q => kf (by simpa [mx_cmp] using q))
theorem mx_tg_some {pc t : Nat} {o : Int} (h : mx_tg pc o = some t) : (pc : Int) + o = (t : Int) := by
  unfold mx_tg at h
  split at h
  · cases h
    omega
  · cases h
theorem mx_s_tsw (hx : p.tables.exec = Jvm.exec) (hb : c.code = cc) {d lo hi : Int} {offs : Array Int} {n : Nat} {x : Int32} (hd : decode cc pc = .ok (.tableswitch d lo hi offs, n)) (X : mx_At dC dI tc sa base Ls xs k s c0 s0 L h H locs ls cells slots) (hs : mx_jmp (mx_tsw d lo hi offs pc x) L r h = some (.inl s')) (kk : mx_K p l e R s m args below meth c Q dC dI tc sa base Ls xs k c0 s0 s') :
    W p l e R s m args below meth c H locs cells slots Q (F0 m pc ls ((Value.int x :: r).map (mx_cv (mx_ad sa base)))) := by
  unfold mx_jmp at hs
  split at hs
  · next t ht =>
    cases hs
    have k1 := kk H locs ls cells slots X
    unfold mx_tsw at ht
    split at ht
    · next ho => exact lv_tableOut hx hb hd ho (mx_tg_some ht) k1
    · next ho =>
      split at ht
      · next o hoo => exact lv_tableIn hx hb hd (fun q => ho (Or.inl q)) (fun q => ho (Or.inr q)) hoo (mx_tg_some ht) k1
      · cases ht
  · cases hs
theorem mx_s_lsw (hx : p.tables.exec = Jvm.exec) (hb : c.code = cc) {d : Int} {ps : Array (Int × Int)} {n : Nat} {x : Int32} (hd : decode cc pc = .ok (.lookupswitch d ps, n)) (hsort : (ps.toList.zip (ps.toList.drop 1)).all (fun (a, next) => a.1 < next.1) = true) (X : mx_At dC dI tc sa base Ls xs k s c0 s0 L h H locs ls cells slots) (hs : mx_jmp (mx_tg pc (Op.lookupswitch.offset ps.toList d x.toInt)) L r h = some (.inl s')) (kk : mx_K p l e R s m args below meth c Q dC dI tc sa base Ls xs k c0 s0 s') :
    W p l e R s m args below meth c H locs cells slots Q (F0 m pc ls ((Value.int x :: r).map (mx_cv (mx_ad sa base)))) := by
  unfold mx_jmp at hs
  split at hs
  · next t ht =>
    cases hs
    exact lv_lookup hx hb hd hsort rfl (mx_tg_some ht) (kk H locs ls cells slots X)
  · cases hs
theorem mx_here {sa : Nat → Nat} {base Ls b : Nat} {xs : Nat → Int32} {ci : Nat} {fs : List Value} {H : Heap} (X : mx_Rp dC dI tc sa base Ls xs h H) (hb : h.2.2 b = .inr (ci, fs)) (hc : ci ≠ 99) : b < h.1 ∧ b < mx_big := by
  obtain ⟨-, h2, h3, h4⟩ := X
  by_cases hlt : b < h.1
  · exact ⟨hlt, by omega⟩
  · exfalso
    by_cases hbig : b = mx_big
    · subst hbig
      rw [h3] at hb
      cases hb
    · rw [h2 b (by omega) hbig] at hb
      cases hb
      exact hc rfl
theorem mx_hereA {sa : Nat → Nat} {base Ls b t n : Nat} {xs : Nat → Int32} {f : mx_C} {H : Heap} (X : mx_Rp dC dI tc sa base Ls xs h H) (hb : h.2.2 b = .inl (t, n, f)) : (b < h.1 ∧ b < mx_big) ∨ (b = mx_big ∧ t = 0 ∧ n = Ls ∧ f = .inl xs) := by
  obtain ⟨-, h2, h3, h4⟩ := X
  by_cases hlt : b < h.1
  · exact Or.inl ⟨hlt, by omega⟩
  · by_cases hbig : b = mx_big
    · subst hbig
      rw [h3] at hb
      cases hb
      exact Or.inr ⟨rfl, rfl, rfl, rfl⟩
    · rw [h2 b (by omega) hbig] at hb
      cases hb
theorem mx_Rp.set {b : Nat} {e : mx_E} {H1 : Heap} (X : mx_Rp dC dI tc sa base Ls xs h H) (hb : b < h.1) (hP : va_P (dC, dI) mx_cl ((mx_wl tc sa base h).set b (base + b, mx_ce tc (mx_ad sa base) e)) H1) : mx_Rp dC dI tc sa base Ls xs (mx_set h b e) H1 := by
  obtain ⟨-, h2, h3, h4⟩ := X
  rw [mx_wl_set e hb] at hP
  refine ⟨hP, fun i hi hne => ?_, ?_, h4⟩
  · have hib : ¬ i = b := by
      have : h.1 ≤ i := hi
      omega
    simp only [mx_set, if_neg hib]
    exact h2 i hi hne
  · have hib : ¬ mx_big = b := by omega
    simp only [mx_set, if_neg hib]
    exact h3
theorem mx_Rp.new {q n : Nat} {e : mx_E} {H1 : Heap} (X : mx_Rp dC dI tc sa base Ls xs h H) (hq : q = base + h.1) (hb : h.1 < mx_big) (hP : va_P (dC, dI) mx_cl (mx_wl tc sa base h ++ [(q, mx_ce tc (mx_ad sa base) e)]) H1) : mx_Rp dC dI tc sa base Ls xs (mx_new h n e) H1 := by
  obtain ⟨-, h2, h3, h4⟩ := X
  subst hq
  rw [mx_wl_new n e] at hP
  refine ⟨hP, fun i hi hne => ?_, ?_, hb⟩
  · have hib : ¬ i = h.1 := by
      have : h.1 + 1 ≤ i := hi
      omega
    simp only [mx_new, if_neg hib]
    exact h2 i (by have : h.1 + 1 ≤ i := hi; omega) hne
  · have hib : ¬ mx_big = h.1 := by omega
    simp only [mx_new, if_neg hib]
    exact h3
end MXS
end
section
/-! ===== steps on the heap ===== -/
set_option maxRecDepth 100000 in
theorem mx_aI : Cond.arrayClass .int ∈ mx_ts := mx_in 144 rfl rfl
set_option maxRecDepth 100000 in
theorem mx_aZ : Cond.arrayClass .boolean ∈ mx_ts := mx_in 1074 rfl rfl
set_option maxRecDepth 100000 in
theorem mx_aC : Cond.arrayClass .char ∈ mx_ts := mx_in 1073 rfl rfl
section MXH
variable {p : Program} {l : Launch} {e : Env} {R : Room} {s : State} {m : MethodId} {args : Array Value} {below : List Frame} {meth : Method} {c : Code} {H : Heap} {locs : List Loc} {cells slots : Nat} {Q : State → Prop}
variable {dC : Nat → ClassId} {dI : Nat → Nat → Nat} {tc : Nat → ClassId} {sa : Nat → Nat} {base Ls : Nat} {xs : Nat → Int32} {av : Nat → Nat} {k pc c0 s0 a : Nat} {ls : Array Slot} {L : mx_L} {h : mx_H} {st r : List Value} {s' : mx_S}
theorem mx_link {c : Nat} {q : Nat × Nat × Nat × Int} (hc : c < 13) (h : (mx_lk c).contains q = true) : mx_okL c q := mx_okl c hc q (by simpa using h)
theorem mx_s_getf (C : mx_Cx dC dI tc sa base Ls xs av k p R s m args meth c c0) (hk : mx_mc k < 13) {i b ci : Nat} {fs : List Value} (hd : decode (mx_mb k) pc = .ok (.getfield i, 3)) (hl : mx_has k (i, 0, a, 0) = true) (X : mx_At dC dI tc sa base Ls xs k s c0 s0 L h H locs ls cells slots) (hh : h.2.2 b = .inr (ci, fs)) (hci : ci = a / 100) (hs : mx_psh (fs[a % 100]?) (pc + 3) L r h = some (.inl s'))
    (kk : mx_K p l e R s m args below meth c Q dC dI tc sa base Ls xs k c0 s0 s') : W p l e R s m args below meth c H locs cells slots Q (F0 m pc ls ((Value.ref b :: r).map (mx_cv (mx_ad sa base)))) := by
  obtain ⟨hx, hb, hml, hown, hts, hin, hK, hE, hsz, hfr, hlo⟩ := C
  obtain ⟨⟨C, T, N⟩, g1, g2, -, g3⟩ := mx_link hk hl
  unfold mx_psh at hs
  split at hs
  · next w hw =>
    cases hs
    have hc99 : ci ≠ 99 := by
      have := (List.getElem?_eq_some_iff.mp g1).1
      have h10 : mx_cl.length = 10 := rfl
      omega
    obtain ⟨hb1, hb2⟩ := mx_here X.1 hh hc99
    have hg := mx_wl_get (tc := tc) (sa := sa) (base := base) hb1
    rw [hh] at hg
    subst hci
    have kz := kk H locs ls cells slots X
    show W p l e R s m args below meth c H locs cells slots Q (F0 m pc ls (Value.ref (mx_ad sa base b) :: r.map (mx_cv (mx_ad sa base))))
    rw [mx_ad_lt hb2]
    exact va_get hx hb hts (mx_uws _ _ g1) hown hK.1 X.1.1 b hg g1 (a % 100) g2 (hts _ g3) (fun _ z => z) (v := mx_cv (mx_ad sa base) w) (by rw [List.getElem?_map, hw]; rfl) hd kz
  · cases hs
theorem mx_s_putf (C : mx_Cx dC dI tc sa base Ls xs av k p R s m args meth c c0) (hk : mx_mc k < 13) {i b ci : Nat} {fs : List Value} {w : Value} (hd : decode (mx_mb k) pc = .ok (.putfield i, 3)) (hl : mx_has k (i, 0, a, 0) = true) (hfin : (!(mx_fin a) || (decide ((mx_my k).name = "<init>") && decide (a / 100 = mx_mc k))) = true) (X : mx_At dC dI tc sa base Ls xs k s c0 s0 L h H locs ls cells slots) (hh : h.2.2 b = .inr (ci, fs)) (hci : ci = a / 100) (hlen : a % 100 < fs.length) (hfit : mx_fit (mx_tyf a) w = true)
    (kk : mx_K p l e R s m args below meth c Q dC dI tc sa base Ls xs k c0 s0 (pc + 3, L, r, mx_set h b (.inr (ci, fs.set (a % 100) w)))) : W p l e R s m args below meth c H locs cells slots Q (F0 m pc ls ((w :: Value.ref b :: r).map (mx_cv (mx_ad sa base)))) := by
  obtain ⟨hx, hb, hml, hown, hts, hin, hK, hE, hsz, hfr, hlo⟩ := C
  obtain ⟨⟨C, T, N⟩, g1, g2, g0, g3⟩ := mx_link hk hl
  have hc99 : ci ≠ 99 := by
    have := (List.getElem?_eq_some_iff.mp g1).1
    have h10 : mx_cl.length = 10 := rfl
    omega
  obtain ⟨hb1, hb2⟩ := mx_here X.1 hh hc99
  have hg := mx_wl_get (tc := tc) (sa := sa) (base := base) hb1
  rw [hh] at hg
  subst hci
  obtain ⟨t1, t2, -, -⟩ := mx_tyok _ _ g1
  obtain ⟨f1, f2⟩ := mx_fit_ok (mx_ad sa base) hfit
  have k1 : ∀ (H1 : Heap) (locs1 : List Loc), va_P (dC, dI) mx_cl ((mx_wl tc sa base h).set b (base + b, .inr (a / 100, (fs.map (mx_cv (mx_ad sa base))).set (a % 100) (mx_cv (mx_ad sa base) w)))) H1 → va_D (mx_A base) ((mx_wl tc sa base h).set b (base + b, .inr (a / 100, (fs.map (mx_cv (mx_ad sa base))).set (a % 100) (mx_cv (mx_ad sa base) w)))) → va_S (mx_A base) s.heap H1 locs1 → W p l e R s m args below meth c H1 locs1 cells slots Q (F0 m (pc + 3) ls (r.map (mx_cv (mx_ad sa base)))) := by
    intro H1 locs1 hP1 _ hS1
    rw [← List.map_set] at hP1
    exact kk H1 locs1 ls cells slots ⟨X.1.set hb1 hP1, hS1, X.2.2⟩
  show W p l e R s m args below meth c H locs cells slots Q (F0 m pc ls (mx_cv (mx_ad sa base) w :: Value.ref (mx_ad sa base b) :: r.map (mx_cv (mx_ad sa base))))
  rw [mx_ad_lt hb2]
  have hfe : mx_fin a = (T (a % 100)).2.2.2 := by
    unfold mx_fin
    rw [g1]
  have hty : parseFieldDescriptor (T (a % 100)).2.2.1 = some (mx_tyf a) := t1 _ g2
  cases hf : mx_fin a with
  | false =>
    exact va_put hx hb hts (mx_uws _ _ g1) _ t1 t2 hown hK.1 X.1.1 mx_wl_D X.2.1 b hg g1 (a % 100) g2 (hts _ g3) (fun _ z => z) (by rw [← hfe]; exact hf) hty f1 f2 (by rw [List.length_map]; exact hlen) hd k1
  | true =>
    rw [hf] at hfin
    simp only [Bool.not_true, Bool.false_or, Bool.and_eq_true, decide_eq_true_eq] at hfin
    refine va_putF hx hb hts (mx_uws _ _ g1) _ t1 t2 hown hK.1 X.1.1 mx_wl_D X.2.1 b hg g1 (a % 100) g2 (hts _ g3) (fun _ z => z) (by rw [← hfe]; exact hf) (hin hfin.1) ?_ hty f1 f2 (by rw [List.length_map]; exact hlen) hd k1
    rw [← g0, ← hfin.2]
    have h10 : a / 100 < 10 := (List.getElem?_eq_some_iff.mp g1).1
    have hcn : ∀ (c : Nat) (q : vw_C), mx_cl[c]? = some q → q.1 = mx_cn c := by
      intro c q hq
      have hlt : c < 10 := (List.getElem?_eq_some_iff.mp hq).1
      match c, hlt, hq with
      | 0, _, hq => cases hq; rfl
      | 1, _, hq => cases hq; rfl
      | 2, _, hq => cases hq; rfl
      | 3, _, hq => cases hq; rfl
      | 4, _, hq => cases hq; rfl
      | 5, _, hq => cases hq; rfl
      | 6, _, hq => cases hq; rfl
      | 7, _, hq => cases hq; rfl
      | 8, _, hq => cases hq; rfl
      | 9, _, hq => cases hq; rfl
    exact hcn _ _ g1
theorem mx_vin_in {i : Int32} {n : Nat} (h : mx_vin i n = true) : vp_in i n := by
  unfold mx_vin at h
  have h2 : ¬ (i < 0 ∨ n ≤ i.toNatClampNeg) := of_decide_eq_true h
  exact h2
theorem mx_s_ald (C : mx_Cx dC dI tc sa base Ls xs av k p R s m args meth c c0) {ins : Jvm.ClassFile.Instr} {t : Nat} (hcase : (ins = .iaload ∧ t = 0) ∨ (ins = .baload ∧ t = 1) ∨ (ins = .caload ∧ t = 2)) (hd : decode (mx_mb k) pc = .ok (ins, 1)) (X : mx_At dC dI tc sa base Ls xs k s c0 s0 L h H locs ls cells slots) (hs : mx_ald t pc L st h = some (.inl s'))
    (kk : mx_K p l e R s m args below meth c Q dC dI tc sa base Ls xs k c0 s0 s') : W p l e R s m args below meth c H locs cells slots Q (F0 m pc ls (st.map (mx_cv (mx_ad sa base)))) := by
  obtain ⟨hx, hb, hml, hown, hts, hin, hK, hE, hsz, hfr, hlo⟩ := C
  unfold mx_ald at hs
  split at hs
  · next i b r =>
    split at hs
    · next u n f hh =>
      split at hs
      · next hc =>
        obtain ⟨rfl, hv⟩ := hc
        cases hs
        have kz := kk H locs ls cells slots X
        have hv2 := mx_vin_in hv
        show W p l e R s m args below meth c H locs cells slots Q (F0 m pc ls (Value.int i :: Value.ref (mx_ad sa base b) :: r.map (mx_cv (mx_ad sa base))))
        rcases mx_hereA X.1 hh with ⟨hb1, hb2⟩ | ⟨rfl, rfl, rfl, hf⟩
        · have hg := mx_wl_get (tc := tc) (sa := sa) (base := base) hb1
          rw [hh] at hg
          rw [mx_ad_lt hb2]
          rcases hcase with ⟨rfl, rfl⟩ | ⟨rfl, rfl⟩ | ⟨rfl, rfl⟩
          · exact va_iald hx hb hK.1 X.1.1 b 0 hg rfl hv2 hd kz
          · exact va_zald hx hb hK.1 X.1.1 b 1 hg rfl hv2 hd kz
          · exact va_cald hx hb hK.1 X.1.1 b 2 hg rfl hv2 hd kz
        · cases hf
          rw [show mx_ad sa base mx_big = sa 0 from mx_ad_big (i := 0)]
          rcases hcase with ⟨rfl, -⟩ | ⟨-, h0⟩ | ⟨-, h0⟩
          · have hlt : sa 0 < s.heap.size := by
              obtain ⟨scr, g, -⟩ := hE.2.1
              exact (Array.getElem?_eq_some_iff.mp g).1
            exact va_sld hx hb hE.2.1 hlt (show ¬ base ≤ sa 0 from by have := hE.1; omega) X.2.1 hv2 hd kz
          · cases h0
          · cases h0
      · cases hs
    · cases hs
  · cases hs
theorem mx_s_ast (C : mx_Cx dC dI tc sa base Ls xs av k p R s m args meth c c0) {ins : Jvm.ClassFile.Instr} {t : Nat} {ty : FieldType} (hcase : (ins = .iastore ∧ t = 0 ∧ ty = .int) ∨ (ins = .bastore ∧ t = 1 ∧ ty = .boolean) ∨ (ins = .castore ∧ t = 2 ∧ ty = .char)) (hd : decode (mx_mb k) pc = .ok (ins, 1)) (X : mx_At dC dI tc sa base Ls xs k s c0 s0 L h H locs ls cells slots) (hs : mx_ast t ty pc L st h = some (.inl s'))
    (kk : mx_K p l e R s m args below meth c Q dC dI tc sa base Ls xs k c0 s0 s') : W p l e R s m args below meth c H locs cells slots Q (F0 m pc ls (st.map (mx_cv (mx_ad sa base)))) := by
  obtain ⟨hx, hb, hml, hown, hts, hin, hK, hE, hsz, hfr, hlo⟩ := C
  unfold mx_ast at hs
  split at hs
  · next x i b r =>
    split at hs
    · next u n f hh =>
      split at hs
      · next hc =>
        obtain ⟨rfl, hb2, hv⟩ := hc
        cases hs
        have hv2 := mx_vin_in hv
        show W p l e R s m args below meth c H locs cells slots Q (F0 m pc ls (Value.int x :: Value.int i :: Value.ref (mx_ad sa base b) :: r.map (mx_cv (mx_ad sa base))))
        rcases mx_hereA X.1 hh with ⟨hb1, -⟩ | ⟨rfl, -⟩
        · have hg := mx_wl_get (tc := tc) (sa := sa) (base := base) hb1
          rw [hh] at hg
          rw [mx_ad_lt hb2]
          rcases hcase with ⟨rfl, rfl, rfl⟩ | ⟨rfl, rfl, rfl⟩ | ⟨rfl, rfl, rfl⟩
          · exact va_iast hx hb hK.1 X.1.1 mx_wl_D X.2.1 b 0 hg rfl hv2 hd (fun H1 locs1 hP1 _ hS1 => kk H1 locs1 ls cells slots ⟨X.1.set hb1 hP1, hS1, X.2.2⟩)
          · exact va_zast hx hb hK.1 X.1.1 mx_wl_D X.2.1 b 1 hg rfl hv2 hd (fun H1 locs1 hP1 _ hS1 => kk H1 locs1 ls cells slots ⟨X.1.set hb1 hP1, hS1, X.2.2⟩)
          · exact va_cast hx hb hK.1 X.1.1 mx_wl_D X.2.1 b 2 hg rfl hv2 hd (fun H1 locs1 hP1 _ hS1 => kk H1 locs1 ls cells slots ⟨X.1.set hb1 hP1, hS1, X.2.2⟩)
        · exact absurd hb2 (Nat.lt_irrefl _)
      · cases hs
    · cases hs
  · cases hs
theorem mx_s_aald (C : mx_Cx dC dI tc sa base Ls xs av k p R s m args meth c c0) {b u n : Nat} {i : Int32} {g : Nat → Option Nat} (hd : decode (mx_mb k) pc = .ok (.aaload, 1)) (X : mx_At dC dI tc sa base Ls xs k s c0 s0 L h H locs ls cells slots) (hh : h.2.2 b = .inl (u, n, .inr g)) (h3 : 3 ≤ u) (h5 : u ≤ 5) (hb2 : b < mx_big) (hv : mx_vin i n = true)
    (kk : mx_K p l e R s m args below meth c Q dC dI tc sa base Ls xs k c0 s0 (pc + 1, L, va_rf (g i.toNatClampNeg) :: r, h)) : W p l e R s m args below meth c H locs cells slots Q (F0 m pc ls ((Value.int i :: Value.ref b :: r).map (mx_cv (mx_ad sa base)))) := by
  obtain ⟨hx, hb, hml, hown, hts, hin, hK, hE, hsz, hfr, hlo⟩ := C
  have kz := kk H locs ls cells slots X
  show W p l e R s m args below meth c H locs cells slots Q (F0 m pc ls (Value.int i :: Value.ref (mx_ad sa base b) :: r.map (mx_cv (mx_ad sa base))))
  rcases mx_hereA X.1 hh with ⟨hb1, -⟩ | ⟨rfl, -⟩
  · have hg := mx_wl_get (tc := tc) (sa := sa) (base := base) hb1
    rw [hh] at hg
    rw [mx_ad_lt hb2]
    obtain ⟨r0, -, ht⟩ := mx_tys_el (tc := tc) h3 h5
    refine va_aldq hx hb hK.1 X.1.1 b u hg ht (mx_vin_in hv) hd ?_
    have kz2 : W p l e R s m args below meth c H locs cells slots Q (F0 m (pc + 1) ls (mx_cv (mx_ad sa base) (va_rf (g i.toNatClampNeg)) :: r.map (mx_cv (mx_ad sa base)))) := kz
    rw [mx_cv_rf] at kz2
    exact kz2
  · omega
theorem mx_s_aast (C : mx_Cx dC dI tc sa base Ls xs av k p R s m args meth c c0) {b w u n ci : Nat} {fs : List Value} {i : Int32} {g : Nat → Option Nat} (hd : decode (mx_mb k) pc = .ok (.aastore, 1)) (X : mx_At dC dI tc sa base Ls xs k s c0 s0 L h H locs ls cells slots) (hh : h.2.2 b = .inl (u, n, .inr g)) (hw : h.2.2 w = .inr (ci, fs)) (h3 : 3 ≤ u) (h5 : u ≤ 5) (hci : ci = mx_el u) (hb2 : b < mx_big) (hv : mx_vin i n = true)
    (kk : mx_K p l e R s m args below meth c Q dC dI tc sa base Ls xs k c0 s0 (pc + 1, L, r, mx_set h b (.inl (u, n, .inr (va_up g i.toNatClampNeg (some w)))))) : W p l e R s m args below meth c H locs cells slots Q (F0 m pc ls ((Value.ref w :: Value.int i :: Value.ref b :: r).map (mx_cv (mx_ad sa base)))) := by
  obtain ⟨hx, hb, hml, hown, hts, hin, hK, hE, hsz, hfr, hlo⟩ := C
  show W p l e R s m args below meth c H locs cells slots Q (F0 m pc ls (Value.ref (mx_ad sa base w) :: Value.int i :: Value.ref (mx_ad sa base b) :: r.map (mx_cv (mx_ad sa base))))
  rcases mx_hereA X.1 hh with ⟨hb1, -⟩ | ⟨rfl, -⟩
  · obtain ⟨r0, hr0, ht⟩ := mx_tys_el (tc := tc) h3 h5
    have hc99 : ci ≠ 99 := by
      have := (List.getElem?_eq_some_iff.mp hr0).1
      have h10 : mx_cl.length = 10 := rfl
      omega
    obtain ⟨hw1, hw2⟩ := mx_here X.1 hw hc99
    have hg := mx_wl_get (tc := tc) (sa := sa) (base := base) hb1
    rw [hh] at hg
    have hgw := mx_wl_get (tc := tc) (sa := sa) (base := base) hw1
    rw [hw] at hgw
    subst hci
    rw [mx_ad_lt hb2, mx_ad_lt hw2]
    refine va_astq hx hb hK.1 X.1.1 mx_wl_D X.2.1 b u w (mx_el u) hg ht hgw hr0 (mx_vin_in hv) hd (fun H1 locs1 hP1 _ hS1 => kk H1 locs1 ls cells slots ⟨X.1.set hb1 ?_, hS1, X.2.2⟩)
    have he : va_up (fun j => (g j).map (mx_ad sa base)) i.toNatClampNeg (some (base + w)) = fun j => (va_up g i.toNatClampNeg (some w) j).map (mx_ad sa base) := by
      funext j
      unfold va_up
      split
      · simp [mx_ad_lt hw2]
      · rfl
    rw [he] at hP1
    exact hP1
  · omega
theorem mx_s_alen (C : mx_Cx dC dI tc sa base Ls xs av k p R s m args meth c c0) {b u n : Nat} {f : mx_C} (hd : decode (mx_mb k) pc = .ok (.arraylength, 1)) (X : mx_At dC dI tc sa base Ls xs k s c0 s0 L h H locs ls cells slots) (hh : h.2.2 b = .inl (u, n, f)) (h5 : u ≤ 5)
    (kk : mx_K p l e R s m args below meth c Q dC dI tc sa base Ls xs k c0 s0 (pc + 1, L, .int (Int32.ofNat n) :: r, h)) : W p l e R s m args below meth c H locs cells slots Q (F0 m pc ls ((Value.ref b :: r).map (mx_cv (mx_ad sa base)))) := by
  obtain ⟨hx, hb, hml, hown, hts, hin, hK, hE, hsz, hfr, hlo⟩ := C
  have kz := kk H locs ls cells slots X
  show W p l e R s m args below meth c H locs cells slots Q (F0 m pc ls (Value.ref (mx_ad sa base b) :: r.map (mx_cv (mx_ad sa base))))
  rcases mx_hereA X.1 hh with ⟨hb1, hb2⟩ | ⟨rfl, rfl, rfl, hf⟩
  · have hg := mx_wl_get (tc := tc) (sa := sa) (base := base) hb1
    rw [hh] at hg
    rw [mx_ad_lt hb2]
    obtain ⟨ty, ht⟩ : ∃ ty, (mx_tys tc)[u]? = some (tc u, ty) := by
      rcases (show u = 0 ∨ u = 1 ∨ u = 2 ∨ u = 3 ∨ u = 4 ∨ u = 5 by omega) with rfl | rfl | rfl | rfl | rfl | rfl <;> exact ⟨_, rfl⟩
    cases f with
    | inl f => exact va_alen hx hb hK.1 X.1.1 b u hg ht rfl hd kz
    | inr f => exact va_alen hx hb hK.1 X.1.1 b u hg ht rfl hd kz
  · cases hf
    rw [show mx_ad sa base mx_big = sa 0 from mx_ad_big (i := 0)]
    have hlt : sa 0 < s.heap.size := by
      obtain ⟨scr, g, -⟩ := hE.2.1
      exact (Array.getElem?_eq_some_iff.mp g).1
    exact va_slen hx hb hE.2.1 hlt (show ¬ base ≤ sa 0 from by have := hE.1; omega) X.2.1 hd kz
theorem mx_A_of {s : State} {base c0 : Nat} (hsz : s.heap.size = base + c0) : ∀ q : Nat, s.heap.size ≤ q → mx_A base q := fun q hq => by
  show base ≤ q
  omega
theorem mx_s_nwa (C : mx_Cx dC dI tc sa base Ls xs av k p R s m args meth c c0) {t : Nat} {at0 : ArrayType} {ty : FieldType} (hcase : (t = 0 ∧ at0 = .int ∧ ty = .int) ∨ (t = 1 ∧ at0 = .boolean ∧ ty = .boolean) ∨ (t = 2 ∧ at0 = .char ∧ ty = .char)) (hd : decode (mx_mb k) pc = .ok (.newarray at0, 2)) (X : mx_At dC dI tc sa base Ls xs k s c0 s0 L h H locs ls cells slots) (hs : mx_nwa t (pc + 2) (.inl fun _ => 0) L st h = some (.inl s')) (hrc : s'.2.2.2.1 ≤ c0 + R.cells) (hrs : s'.2.2.2.2.1 ≤ s0 + R.slots)
    (kk : mx_K p l e R s m args below meth c Q dC dI tc sa base Ls xs k c0 s0 s') : W p l e R s m args below meth c H locs cells slots Q (F0 m pc ls (st.map (mx_cv (mx_ad sa base)))) := by
  obtain ⟨hx, hb, hml, hown, hts, hin, hK, hE, hsz, hfr, hlo⟩ := C
  unfold mx_nwa at hs
  split at hs
  · next n r =>
    split at hs
    · next hc =>
      obtain ⟨hn, hN, hbig⟩ := hc
      cases hs
      have hrc2 : h.1 + 1 ≤ c0 + R.cells := hrc
      have hrs2 : h.2.1 + n.toNatClampNeg ≤ s0 + R.slots := hrs
      have e1 := X.2.2.2.1
      have e2 := X.2.2.2.2
      have hcl : cells + 1 ≤ R.cells := by omega
      have hsl : slots + n.toNatClampNeg ≤ R.slots := by omega
      have hbt : n.toNatClampNeg * componentBytes ty ≤ 536870912 := by
        rcases hcase with ⟨-, -, rfl⟩ | ⟨-, -, rfl⟩ | ⟨-, -, rfl⟩ <;> simp only [componentBytes] <;> omega
      have ht : (mx_tys tc)[t]? = some (tc t, ty) := by
        rcases hcase with ⟨rfl, -, rfl⟩ | ⟨rfl, -, rfl⟩ | ⟨rfl, -, rfl⟩ <;> rfl
      have harr : (Cond.arrayClass (newarray.typeOf at0)).before args s = true := by
        rcases hcase with ⟨rfl, rfl, rfl⟩ | ⟨rfl, rfl, rfl⟩ | ⟨rfl, rfl, rfl⟩
        · exact hts _ mx_aI
        · exact hts _ mx_aZ
        · exact hts _ mx_aC
      have hty : newarray.typeOf at0 = ty := by
        rcases hcase with ⟨rfl, rfl, rfl⟩ | ⟨rfl, rfl, rfl⟩ | ⟨rfl, rfl, rfl⟩ <;> rfl
      have hcell : ∀ cA : ClassId, vp_cell cA (n.toNatClampNeg, .inl fun _ => 0) = arrV cA n.toNatClampNeg (fun _ => defaultValue ty) := by
        intro cA
        rcases hcase with ⟨-, -, rfl⟩ | ⟨-, -, rfl⟩ | ⟨-, -, rfl⟩ <;> rfl
      have hprim : ∀ C, ty ≠ .object C := by
        intro C
        rcases hcase with ⟨-, -, rfl⟩ | ⟨-, -, rfl⟩ | ⟨-, -, rfl⟩ <;> intro z <;> cases z
      refine va_newa (a0 := (n.toNatClampNeg, .inl fun _ => 0)) hx hb harr hty hK.1 X.1.1 mx_wl_D X.2.1 (mx_A_of hsz) hcell hn rfl hbt hcl hsl hd (fun q cA H1 hK1 hP1 hD1 hS1 => mx_bound fun hbd => ?_)
      have hq : q = base + h.1 := mx_fresh hP1 hD1 hbd (by omega)
      have hcA : cA = tc t := by
        have z1 := (hK1.2 (mx_tys tc).length (cA, ty) (by rw [List.getElem?_append_right (Nat.le_refl _), Nat.sub_self]; rfl)).2
        have z2 := (hK.1.2 t (tc t, ty) ht).2
        rcases hcase with ⟨-, -, rfl⟩ | ⟨-, -, rfl⟩ | ⟨-, -, rfl⟩ <;> exact Option.some.inj (Eq.trans (Eq.symm z1) z2)
      subst hcA
      have k2 := kk H1 locs ls (cells + 1) (slots + n.toNatClampNeg) ⟨X.1.new (e := .inl (t, n.toNatClampNeg, .inl fun _ => 0)) hq hbig hP1, hS1, X.2.2.1, (by show cells + 1 + c0 = h.1 + 1; omega), (by show slots + n.toNatClampNeg + s0 = h.2.1 + n.toNatClampNeg; omega)⟩
      subst hq
      have k3 : W p l e R s m args below meth c H1 locs (cells + 1) (slots + n.toNatClampNeg) Q (F0 m (pc + 2) ls (Value.ref (mx_ad sa base h.1) :: r.map (mx_cv (mx_ad sa base)))) := k2
      rw [mx_ad_lt hbig] at k3
      exact k3
    · cases hs
  · cases hs
theorem mx_s_nwq (C : mx_Cx dC dI tc sa base Ls xs av k p R s m args meth c c0) (hk : mx_mc k < 13) {i : Nat} (hd : decode (mx_mb k) pc = .ok (.anewarray i, 3)) (hl : mx_has k (i, 8, a, 0) = true) (h3 : 3 ≤ a) (h5 : a ≤ 5) (X : mx_At dC dI tc sa base Ls xs k s c0 s0 L h H locs ls cells slots) (hs : mx_nwa a (pc + 3) (.inr fun _ => none) L st h = some (.inl s')) (hrc : s'.2.2.2.1 ≤ c0 + R.cells) (hrs : s'.2.2.2.2.1 ≤ s0 + R.slots)
    (kk : mx_K p l e R s m args below meth c Q dC dI tc sa base Ls xs k c0 s0 s') : W p l e R s m args below meth c H locs cells slots Q (F0 m pc ls (st.map (mx_cv (mx_ad sa base)))) := by
  obtain ⟨hx, hb, hml, hown, hts, hin, hK, hE, hsz, hfr, hlo⟩ := C
  obtain ⟨r0, g1, -, -, g2⟩ := mx_link hk hl
  obtain ⟨r1, g3, ht⟩ := mx_tys_el (tc := tc) h3 h5
  cases g1.symm.trans g3
  unfold mx_nwa at hs
  split at hs
  · next n r =>
    split at hs
    · next hc =>
      obtain ⟨hn, hN, hbig⟩ := hc
      cases hs
      have hrc2 : h.1 + 1 ≤ c0 + R.cells := hrc
      have hrs2 : h.2.1 + n.toNatClampNeg ≤ s0 + R.slots := hrs
      have e1 := X.2.2.2.1
      have e2 := X.2.2.2.2
      have hcl : cells + 1 ≤ R.cells := by omega
      have hsl : slots + n.toNatClampNeg ≤ R.slots := by omega
      have hover : va_AO r0.1 s := by
        rcases (show a = 3 ∨ a = 4 ∨ a = 5 by omega) with rfl | rfl | rfl <;> cases g1
        · exact hK.2.2.2.1.1
        · exact hK.2.2.2.1.2.1
        · exact hK.2.2.2.1.2.2
      refine va_newq hx hb hown (hts _ g2) hover hK.1 X.1.1 mx_wl_D X.2.1 (mx_A_of hsz) hn rfl (by omega) hcl hsl hd (fun q cA H1 hK1 hP1 hD1 hS1 => mx_bound fun hbd => ?_)
      have hq : q = base + h.1 := mx_fresh hP1 hD1 hbd (by omega)
      have hcA : cA = tc a := by
        obtain ⟨_, _, -, -, -, z1⟩ := (hK1.2 (mx_tys tc).length (cA, .object r0.1) (by rw [List.getElem?_append_right (Nat.le_refl _), Nat.sub_self]; rfl)).2
        obtain ⟨_, _, -, -, -, z2⟩ := (hK.1.2 a (tc a, .object r0.1) ht).2
        exact Option.some.inj (z1.symm.trans z2)
      subst hcA
      have k2 := kk H1 locs ls (cells + 1) (slots + n.toNatClampNeg) ⟨X.1.new (e := .inl (a, n.toNatClampNeg, .inr fun _ => none)) hq hbig hP1, hS1, X.2.2.1, (by show cells + 1 + c0 = h.1 + 1; omega), (by show slots + n.toNatClampNeg + s0 = h.2.1 + n.toNatClampNeg; omega)⟩
      subst hq
      have k3 : W p l e R s m args below meth c H1 locs (cells + 1) (slots + n.toNatClampNeg) Q (F0 m (pc + 3) ls (Value.ref (mx_ad sa base h.1) :: r.map (mx_cv (mx_ad sa base)))) := k2
      rw [mx_ad_lt hbig] at k3
      exact k3
    · cases hs
  · cases hs
theorem mx_s_new (C : mx_Cx dC dI tc sa base Ls xs av k p R s m args meth c c0) (hk : mx_mc k < 13) {i : Nat} (hd : decode (mx_mb k) pc = .ok (.new i, 3)) (hl : mx_has k (i, 7, a, 0) = true) (hbig : h.1 < mx_big) (X : mx_At dC dI tc sa base Ls xs k s c0 s0 L h H locs ls cells slots) (hrc : h.1 + 1 ≤ c0 + R.cells) (hrs : h.2.1 + mx_nf a ≤ s0 + R.slots)
    (kk : mx_K p l e R s m args below meth c Q dC dI tc sa base Ls xs k c0 s0 (pc + 3, L, .ref h.1 :: st, mx_new h (mx_nf a) (.inr (a, mx_defs a)))) : W p l e R s m args below meth c H locs cells slots Q (F0 m pc ls (st.map (mx_cv (mx_ad sa base)))) := by
  obtain ⟨hx, hb, hml, hown, hts, hin, hK, hE, hsz, hfr, hlo⟩ := C
  obtain ⟨⟨C, T, N⟩, g1, g2, g3, g4⟩ := mx_link hk hl
  obtain ⟨t1, t2, t3, t4⟩ := mx_tyok _ _ g1
  have e1 := X.2.2.2.1
  have e2 := X.2.2.2.2
  have t4' : mx_nf a = N := t4
  refine va_new hx hb hts (mx_uws _ _ g1) _ t1 hown (hts _ g2) (hts _ g3) (hts _ g4) hK.1 X.1.1 mx_wl_D X.2.1 (mx_A_of hsz) g1 t3 (by omega) (by omega) hd (fun q H1 hP1 hD1 hS1 => mx_bound fun hbd => ?_)
  have hq : q = base + h.1 := mx_fresh hP1 hD1 hbd (by omega)
  have hP2 : va_P (dC, dI) mx_cl (mx_wl tc sa base h ++ [(q, mx_ce tc (mx_ad sa base) (.inr (a, mx_defs a)))]) H1 := by
    show va_P (dC, dI) mx_cl (mx_wl tc sa base h ++ [(q, .inr (a, (mx_defs a).map (mx_cv (mx_ad sa base))))]) H1
    rw [mx_defs_cv]
    exact hP1
  have k2 := kk H1 locs ls (cells + 1) (slots + N) ⟨X.1.new hq hbig hP2, hS1, X.2.2.1, (by show cells + 1 + c0 = h.1 + 1; omega), (by show slots + N + s0 = h.2.1 + mx_nf a; omega)⟩
  subst hq
  have k3 : W p l e R s m args below meth c H1 locs (cells + 1) (slots + N) Q (F0 m (pc + 3) ls (Value.ref (mx_ad sa base h.1) :: st.map (mx_cv (mx_ad sa base)))) := k2
  rw [mx_ad_lt hbig] at k3
  exact k3
theorem mx_s_castI (C : mx_Cx dC dI tc sa base Ls xs av k p R s m args meth c c0) (hk : mx_mc k < 13) {i b n : Nat} {f : mx_C} (hd : decode (mx_mb k) pc = .ok (.checkcast i, 3)) (hl : mx_has k (i, 12, 0, 0) = true) (X : mx_At dC dI tc sa base Ls xs k s c0 s0 L h H locs ls cells slots) (hh : h.2.2 b = .inl (0, n, f)) (hb2 : b < mx_big)
    (kk : mx_K p l e R s m args below meth c Q dC dI tc sa base Ls xs k c0 s0 (pc + 3, L, .ref b :: r, h)) : W p l e R s m args below meth c H locs cells slots Q (F0 m pc ls ((Value.ref b :: r).map (mx_cv (mx_ad sa base)))) := by
  obtain ⟨hx, hb, hml, hown, hts, hin, hK, hE, hsz, hfr, hlo⟩ := C
  have g1 := mx_link hk hl
  have kz : W p l e R s m args below meth c H locs cells slots Q (F0 m (pc + 3) ls (Value.ref (mx_ad sa base b) :: r.map (mx_cv (mx_ad sa base)))) := kk H locs ls cells slots X
  show W p l e R s m args below meth c H locs cells slots Q (F0 m pc ls (Value.ref (mx_ad sa base b) :: r.map (mx_cv (mx_ad sa base))))
  rcases mx_hereA X.1 hh with ⟨hb1, -⟩ | ⟨rfl, -⟩
  · have hg := mx_wl_get (tc := tc) (sa := sa) (base := base) hb1
    rw [hh] at hg
    rw [mx_ad_lt hb2] at kz ⊢
    have hnm : s.vm.findClass "[I" = some (tc 0) := by
      have z := (hK.1.2 0 (tc 0, .int) rfl).2
      have z2 : s.vm.findClass ("[" ++ FieldType.int.toString) = some (tc 0) := z
      have ez : "[" ++ FieldType.int.toString = "[I" := by decide +kernel
      rw [ez] at z2
      exact z2
    cases f with
    | inl f => exact va_castA hx hb hown (hts _ g1) X.1.1 b hg hnm hd kz
    | inr f => exact va_castA hx hb hown (hts _ g1) X.1.1 b hg hnm hd kz
  · omega
end MXH
end
section
/-! ===== natives, constants ===== -/
set_option maxRecDepth 100000 in
theorem mx_wMax : Cond.static Lib.Math.max.name ∈ mx_ts ∧ Cond.initialized "java/lang/Math" ∈ mx_ts ∧ Cond.code Lib.Math.max.name Lib.Math.max.code 2 (some .int) ∈ mx_ts := ⟨mx_in 463 rfl rfl, mx_in 91 rfl rfl, mx_in 464 rfl rfl⟩
set_option maxRecDepth 100000 in
theorem mx_wMin : Cond.static Lib.Math.min.name ∈ mx_ts ∧ Cond.code Lib.Math.min.name Lib.Math.min.code 2 (some .int) ∈ mx_ts := ⟨mx_in 460 rfl rfl, mx_in 461 rfl rfl⟩
set_option maxRecDepth 100000 in
theorem mx_wAbs : Cond.static Lib.Math.abs.name ∈ mx_ts ∧ Cond.code Lib.Math.abs.name Lib.Math.abs.code 1 (some .int) ∈ mx_ts := ⟨mx_in 606 rfl rfl, mx_in 607 rfl rfl⟩
set_option maxRecDepth 100000 in
theorem mx_wCopy : Cond.native arraycopyName ∈ mx_ts ∧ Cond.static arraycopyName ∈ mx_ts ∧ Cond.initialized "java/lang/System" ∈ mx_ts := ⟨mx_in 467 rfl rfl, mx_in 466 rfl rfl, mx_in 92 rfl rfl⟩
set_option maxRecDepth 100000 in
theorem mx_wClone : Cond.sameMethod "[I" "java/lang/Object" "clone" "()Ljava/lang/Object;" ∈ mx_ts ∧ Cond.native ⟨"java/lang/Object", "clone", "()Ljava/lang/Object;"⟩ ∈ mx_ts ∧ Cond.instanceMethod ⟨"java/lang/Object", "clone", "()Ljava/lang/Object;"⟩ ∈ mx_ts ∧ Cond.selects "[I" ⟨"[I", "clone", "()Ljava/lang/Object;"⟩ ⟨"java/lang/Object", "clone", "()Ljava/lang/Object;"⟩ ∈ mx_ts := ⟨mx_in 471 rfl rfl, mx_in 472 rfl rfl, mx_in 473 rfl rfl, mx_in 474 rfl rfl⟩
set_option maxRecDepth 100000 in
theorem mx_wObj : Cond.instanceMethod objectInit ∈ mx_ts ∧ Cond.code objectInit ⟨#[0xb1]⟩ 1 none ∈ mx_ts := ⟨mx_in 103 rfl rfl, mx_in 104 rfl rfl⟩
section MXN
variable {p : Program} {l : Launch} {e : Env} {R : Room} {s : State} {m : MethodId} {args : Array Value} {below : List Frame} {meth : Method} {c : Code} {H : Heap} {locs : List Loc} {cells slots : Nat} {Q : State → Prop}
variable {dC : Nat → ClassId} {dI : Nat → Nat → Nat} {tc : Nat → ClassId} {sa : Nat → Nat} {base Ls : Nat} {xs : Nat → Int32} {av : Nat → Nat} {k pc c0 s0 a : Nat} {ls : Array Slot} {L : mx_L} {h : mx_H} {st r : List Value} {s' : mx_S}
theorem mx_ok8_locals {n : Nat} (sa : Nat → Nat) (base : Nat) (h : mx_ok8 r = true) (hlo : 400 ≤ R.locals) (hn : n ≤ 300) : ((r.map (mx_cv (mx_ad sa base))).map fun v => v.category).sum + n ≤ R.locals := by
  have := mx_ok8_le (mx_ad sa base) h
  omega
theorem mx_s_max (C : mx_Cx dC dI tc sa base Ls xs av k p R s m args meth c c0) (hk : mx_mc k < 13) {i : Nat} {x y : Int32} (hd : decode (mx_mb k) pc = .ok (.invokestatic i, 3)) (hl : mx_has k (i, 20, a, 0) = true) (X : mx_At dC dI tc sa base Ls xs k s c0 s0 L h H locs ls cells slots) (h8 : mx_ok8 r = true) (hrc : h.1 ≤ c0 + R.cells) (hrs : h.2.1 ≤ s0 + R.slots)
    (kk : mx_K p l e R s m args below meth c Q dC dI tc sa base Ls xs k c0 s0 (pc + 3, L, .int (if x < y then y else x) :: r, h)) : W p l e R s m args below meth c H locs cells slots Q (F0 m pc ls ((Value.int y :: Value.int x :: r).map (mx_cv (mx_ad sa base)))) := by
  obtain ⟨hx, hb, hml, hown, hts, hin, hK, hE, hsz, hfr, hlo⟩ := C
  have e1 := X.2.2.2.1
  have e2 := X.2.2.2.2
  exact va_mmax hx hb (hml.trans X.2.2.1.1.symm) hown (hts _ (mx_link hk hl)) (hts _ mx_wMax.1) (hts _ mx_wMax.2.1) (hts _ mx_wMax.2.2) (by omega) (mx_ok8_locals sa base h8 hlo (by omega)) (by omega) (by omega) hd (kk H locs ls cells slots X)
theorem mx_s_min (C : mx_Cx dC dI tc sa base Ls xs av k p R s m args meth c c0) (hk : mx_mc k < 13) {i : Nat} {x y : Int32} (hd : decode (mx_mb k) pc = .ok (.invokestatic i, 3)) (hl : mx_has k (i, 21, a, 0) = true) (X : mx_At dC dI tc sa base Ls xs k s c0 s0 L h H locs ls cells slots) (h8 : mx_ok8 r = true) (hrc : h.1 ≤ c0 + R.cells) (hrs : h.2.1 ≤ s0 + R.slots)
    (kk : mx_K p l e R s m args below meth c Q dC dI tc sa base Ls xs k c0 s0 (pc + 3, L, .int (if y < x then y else x) :: r, h)) : W p l e R s m args below meth c H locs cells slots Q (F0 m pc ls ((Value.int y :: Value.int x :: r).map (mx_cv (mx_ad sa base)))) := by
  obtain ⟨hx, hb, hml, hown, hts, hin, hK, hE, hsz, hfr, hlo⟩ := C
  have e1 := X.2.2.2.1
  have e2 := X.2.2.2.2
  exact va_mmin hx hb (hml.trans X.2.2.1.1.symm) hown (hts _ (mx_link hk hl)) (hts _ mx_wMin.1) (hts _ mx_wMax.2.1) (hts _ mx_wMin.2) (by omega) (mx_ok8_locals sa base h8 hlo (by omega)) (by omega) (by omega) hd (kk H locs ls cells slots X)
theorem mx_s_abs (C : mx_Cx dC dI tc sa base Ls xs av k p R s m args meth c c0) (hk : mx_mc k < 13) {i : Nat} {x : Int32} (hd : decode (mx_mb k) pc = .ok (.invokestatic i, 3)) (hl : mx_has k (i, 22, a, 0) = true) (X : mx_At dC dI tc sa base Ls xs k s c0 s0 L h H locs ls cells slots) (h8 : mx_ok8 r = true) (hrc : h.1 ≤ c0 + R.cells) (hrs : h.2.1 ≤ s0 + R.slots)
    (kk : mx_K p l e R s m args below meth c Q dC dI tc sa base Ls xs k c0 s0 (pc + 3, L, .int (if 0 ≤ x then x else 0 - x) :: r, h)) : W p l e R s m args below meth c H locs cells slots Q (F0 m pc ls ((Value.int x :: r).map (mx_cv (mx_ad sa base)))) := by
  obtain ⟨hx, hb, hml, hown, hts, hin, hK, hE, hsz, hfr, hlo⟩ := C
  have e1 := X.2.2.2.1
  have e2 := X.2.2.2.2
  exact va_mabs hx hb (hml.trans X.2.2.1.1.symm) hown (hts _ (mx_link hk hl)) (hts _ mx_wAbs.1) (hts _ mx_wMax.2.1) (hts _ mx_wAbs.2) (by omega) (mx_ok8_locals sa base h8 hlo (by omega)) (by omega) (by omega) hd (kk H locs ls cells slots X)
theorem mx_s_obj (C : mx_Cx dC dI tc sa base Ls xs av k p R s m args meth c c0) (hk : mx_mc k < 13) {i b : Nat} (hd : decode (mx_mb k) pc = .ok (.invokespecial i, 3)) (hl : mx_has k (i, 27, a, 0) = true) (X : mx_At dC dI tc sa base Ls xs k s c0 s0 L h H locs ls cells slots) (h8 : mx_ok8 r = true)
    (kk : mx_K p l e R s m args below meth c Q dC dI tc sa base Ls xs k c0 s0 (pc + 3, L, r, h)) : W p l e R s m args below meth c H locs cells slots Q (F0 m pc ls ((Value.ref b :: r).map (mx_cv (mx_ad sa base)))) := by
  obtain ⟨hx, hb, hml, hown, hts, hin, hK, hE, hsz, hfr, hlo⟩ := C
  exact W.objInit hx hb hown (hts _ (mx_link hk hl)) (hts _ mx_wObj.1) (hts _ mx_wObj.2) rfl (by rw [hml]; exact X.2.2.1.1) rfl hd (by omega) (by have := mx_ok8_locals (n := 12) sa base h8 hlo (by omega); show 2 * 0 + _ + 12 ≤ _; omega) (kk H locs ls cells slots X)
theorem mx_s_copy (C : mx_Cx dC dI tc sa base Ls xs av k p R s m args meth c c0) (hk : mx_mc k < 13) {i b d n0 n1 : Nat} {f g : Nat → Int32} {sp dp n : Int32} (hd : decode (mx_mb k) pc = .ok (.invokestatic i, 3)) (hl : mx_has k (i, 23, a, 0) = true) (X : mx_At dC dI tc sa base Ls xs k s c0 s0 L h H locs ls cells slots) (hh0 : h.2.2 d = .inl (0, n0, .inl f)) (hh1 : h.2.2 b = .inl (0, n1, .inl g))
    (hc : mx_ok8 r = true ∧ d < mx_big ∧ b < mx_big ∧ ¬ sp < 0 ∧ ¬ dp < 0 ∧ ¬ n < 0 ∧ sp.toNatClampNeg + n.toNatClampNeg ≤ n0 ∧ dp.toNatClampNeg + n.toNatClampNeg ≤ n1)
    (kk : mx_K p l e R s m args below meth c Q dC dI tc sa base Ls xs k c0 s0 (pc + 3, L, r, mx_set h b (.inl (0, n1, .inl (va_cpy f g sp.toNatClampNeg dp.toNatClampNeg n.toNatClampNeg))))) : W p l e R s m args below meth c H locs cells slots Q (F0 m pc ls ((Value.int n :: Value.int dp :: Value.ref b :: Value.int sp :: Value.ref d :: r).map (mx_cv (mx_ad sa base)))) := by
  obtain ⟨hx, hb, hml, hown, hts, hin, hK, hE, hsz, hfr, hlo⟩ := C
  obtain ⟨h8, hd2, hb2, c1, c2, c3, c4, c5⟩ := hc
  show W p l e R s m args below meth c H locs cells slots Q (F0 m pc ls (Value.int n :: Value.int dp :: Value.ref (mx_ad sa base b) :: Value.int sp :: Value.ref (mx_ad sa base d) :: r.map (mx_cv (mx_ad sa base))))
  rcases mx_hereA X.1 hh1 with ⟨hb1, -⟩ | ⟨rfl, -⟩
  · rcases mx_hereA X.1 hh0 with ⟨hd1, -⟩ | ⟨rfl, -⟩
    · have hg1 := mx_wl_get (tc := tc) (sa := sa) (base := base) hb1
      rw [hh1] at hg1
      have hg0 := mx_wl_get (tc := tc) (sa := sa) (base := base) hd1
      rw [hh0] at hg0
      rw [mx_ad_lt hb2, mx_ad_lt hd2]
      exact va_copyi hx hb (hml.trans X.2.2.1.1.symm) hown (hts _ (mx_link hk hl)) (hts _ mx_wCopy.1) (hts _ mx_wCopy.2.1) (hts _ mx_wCopy.2.2) hK.1 X.1.1 mx_wl_D X.2.1 d b 0 0 hg0 hg1 rfl rfl rfl c1 c2 c3 c4 c5 (fun _ _ => rfl) (by omega) (mx_ok8_locals sa base h8 hlo (by decide +kernel)) hd (fun H1 locs1 hP1 _ hS1 => kk H1 locs1 ls cells slots ⟨X.1.set hb1 hP1, hS1, X.2.2⟩)
    · exact absurd hd2 (Nat.lt_irrefl _)
  · exact absurd hb2 (Nat.lt_irrefl _)
theorem mx_s_clone (C : mx_Cx dC dI tc sa base Ls xs av k p R s m args meth c c0) (hk : mx_mc k < 13) {i b n : Nat} {f : Nat → Int32} (hd : decode (mx_mb k) pc = .ok (.invokevirtual i, 3)) (hl : mx_has k (i, 24, a, 0) = true) (X : mx_At dC dI tc sa base Ls xs k s c0 s0 L h H locs ls cells slots) (hh : h.2.2 b = .inl (0, n, .inl f)) (h8 : mx_ok8 r = true) (hb2 : b < mx_big) (hbig : h.1 < mx_big) (hrc : h.1 + 1 ≤ c0 + R.cells) (hrs : h.2.1 + n ≤ s0 + R.slots)
    (kk : mx_K p l e R s m args below meth c Q dC dI tc sa base Ls xs k c0 s0 (pc + 3, L, .ref h.1 :: r, mx_new h n (.inl (0, n, .inl f)))) : W p l e R s m args below meth c H locs cells slots Q (F0 m pc ls ((Value.ref b :: r).map (mx_cv (mx_ad sa base)))) := by
  obtain ⟨hx, hb, hml, hown, hts, hin, hK, hE, hsz, hfr, hlo⟩ := C
  have e1 := X.2.2.2.1
  have e2 := X.2.2.2.2
  show W p l e R s m args below meth c H locs cells slots Q (F0 m pc ls (Value.ref (mx_ad sa base b) :: r.map (mx_cv (mx_ad sa base))))
  rcases mx_hereA X.1 hh with ⟨hb1, -⟩ | ⟨rfl, -⟩
  · have hg := mx_wl_get (tc := tc) (sa := sa) (base := base) hb1
    rw [hh] at hg
    rw [mx_ad_lt hb2]
    have hnm : s.vm.findClass "[I" = some (tc 0) := by
      have z := (hK.1.2 0 (tc 0, .int) rfl).2
      have z2 : s.vm.findClass ("[" ++ FieldType.int.toString) = some (tc 0) := z
      have ez : "[" ++ FieldType.int.toString = "[I" := by decide +kernel
      rw [ez] at z2
      exact z2
    refine va_clone (x := (n, .inl f)) hx hb (hml.trans X.2.2.1.1.symm) hown (hts _ (mx_link hk hl)) (hts _ mx_wClone.1) (hts _ mx_wClone.2.1) (hts _ mx_wClone.2.2.1) (hts _ mx_wClone.2.2.2) hK.2.2.2.2 hK.1 X.1.1 mx_wl_D X.2.1 (mx_A_of hsz) b 0 hg rfl hnm (va_fit (fun _ _ => rfl)) (by omega) (mx_ok8_locals sa base h8 hlo (by omega)) (by omega) (show slots + n ≤ R.slots by omega) hd (fun q H1 hK1 hP1 hD1 hS1 => mx_bound fun hbd => ?_)
    have hq : q = base + h.1 := mx_fresh hP1 hD1 hbd (by omega)
    have k2 := kk H1 locs ls (cells + 1) (slots + n) ⟨X.1.new (e := .inl (0, n, .inl f)) hq hbig hP1, hS1, X.2.2.1, (by show cells + 1 + c0 = h.1 + 1; omega), (by show slots + n + s0 = h.2.1 + n; omega)⟩
    subst hq
    have k3 : W p l e R s m args below meth c H1 locs (cells + 1) (slots + n) Q (F0 m (pc + 3) ls (Value.ref (mx_ad sa base h.1) :: r.map (mx_cv (mx_ad sa base)))) := k2
    rw [mx_ad_lt hbig] at k3
    exact k3
  · exact absurd hb2 (Nat.lt_irrefl _)
theorem mx_s_ldcI (C : mx_Cx dC dI tc sa base Ls xs av k p R s m args meth c c0) (hk : mx_mc k < 13) {i : Nat} {v : Int} (hd : decode (mx_mb k) pc = .ok (.ldc i, 2)) (hl : mx_has k (i, 9, 0, v) = true) (X : mx_At dC dI tc sa base Ls xs k s c0 s0 L h H locs ls cells slots)
    (kk : mx_K p l e R s m args below meth c Q dC dI tc sa base Ls xs k c0 s0 (pc + 2, L, .int (Int32.ofInt v) :: st, h)) : W p l e R s m args below meth c H locs cells slots Q (F0 m pc ls (st.map (mx_cv (mx_ad sa base)))) := by
  obtain ⟨hx, hb, hml, hown, hts, hin, hK, hE, hsz, hfr, hlo⟩ := C
  exact lv_ldc hx hb hown (hts _ (mx_link hk hl)) hd (kk H locs ls cells slots X)
theorem mx_s_ldcW (C : mx_Cx dC dI tc sa base Ls xs av k p R s m args meth c c0) (hk : mx_mc k < 13) {i : Nat} {v : Int} (hd : decode (mx_mb k) pc = .ok (.ldc_w i, 3)) (hl : mx_has k (i, 9, 0, v) = true) (X : mx_At dC dI tc sa base Ls xs k s c0 s0 L h H locs ls cells slots)
    (kk : mx_K p l e R s m args below meth c Q dC dI tc sa base Ls xs k c0 s0 (pc + 3, L, .int (Int32.ofInt v) :: st, h)) : W p l e R s m args below meth c H locs cells slots Q (F0 m pc ls (st.map (mx_cv (mx_ad sa base)))) := by
  obtain ⟨hx, hb, hml, hown, hts, hin, hK, hE, hsz, hfr, hlo⟩ := C
  exact lv_ldcw hx hb hown (hts _ (mx_link hk hl)) hd (kk H locs ls cells slots X)
theorem mx_s_ldc2 (C : mx_Cx dC dI tc sa base Ls xs av k p R s m args meth c c0) (hk : mx_mc k < 13) {i : Nat} {v : Int} (hd : decode (mx_mb k) pc = .ok (.ldc2_w i, 3)) (hl : mx_has k (i, 10, 0, v) = true) (X : mx_At dC dI tc sa base Ls xs k s c0 s0 L h H locs ls cells slots)
    (kk : mx_K p l e R s m args below meth c Q dC dI tc sa base Ls xs k c0 s0 (pc + 3, L, .long (Int64.ofInt v) :: st, h)) : W p l e R s m args below meth c H locs cells slots Q (F0 m pc ls (st.map (mx_cv (mx_ad sa base)))) := by
  obtain ⟨hx, hb, hml, hown, hts, hin, hK, hE, hsz, hfr, hlo⟩ := C
  exact lv_ldc2 hx hb hown (hts _ (mx_link hk hl)) hd (kk H locs ls cells slots X)
theorem mx_s_ldcS (C : mx_Cx dC dI tc sa base Ls xs av k p R s m args meth c c0) (hk : mx_mc k < 13) {i : Nat} (ha : ¬ a = 0) (hd : decode (mx_mb k) pc = .ok (.ldc i, 2)) (hl : mx_has k (i, 11, a, 0) = true) (X : mx_At dC dI tc sa base Ls xs k s c0 s0 L h H locs ls cells slots)
    (kk : mx_K p l e R s m args below meth c Q dC dI tc sa base Ls xs k c0 s0 (pc + 2, L, .ref (mx_big + a) :: st, h)) : W p l e R s m args below meth c H locs cells slots Q (F0 m pc ls (st.map (mx_cv (mx_ad sa base)))) := by
  obtain ⟨hx, hb, hml, hown, hts, hin, hK, hE, hsz, hfr, hlo⟩ := C
  obtain ⟨q, g1, g2, g3, g4⟩ := mx_link hk hl
  have hR := hK.2.2.1 (a - 1) q g1
  rw [g3, g4, show a - 1 + 1 = a by omega] at hR
  have kz : W p l e R s m args below meth c H locs cells slots Q (F0 m (pc + 2) ls (Value.ref (mx_ad sa base (mx_big + a)) :: st.map (mx_cv (mx_ad sa base)))) := kk H locs ls cells slots X
  rw [mx_ad_big] at kz
  exact va_ldcS hx hb hown hR hd kz
end MXN
end
section
/-! ===== String constants: length, charAt ===== -/
def ms_ylen : MethodName := ⟨"java/lang/String", "length", "()I"⟩
set_option maxRecDepth 100000 in
theorem ms_wlen : Cond.code ms_ylen prog_16_method_54_code 1 (some .int) ∈ mx_ts ∧ Cond.initialized "java/lang/String" ∈ mx_ts ∧ Cond.instanceMethod ms_ylen ∈ mx_ts := ⟨mx_in 308 rfl rfl, mx_in 87 rfl rfl, mx_in 306 rfl rfl⟩
set_option maxRecDepth 100000 in
theorem ms_slen : Cond.selects "java/lang/String" ms_ylen ms_ylen ∈ mx_ts := mx_in 307 rfl rfl
def ms_wslen : List Cond := Cond.code ms_ylen prog_16_method_54_code 1 (some .int) :: mx_ts
theorem ms_glen : GoodIn mx_ts ms_wslen := by
  intro w hw
  rcases List.mem_cons.mp hw with rfl | hw
  · exact ⟨ms_wlen.1, good_of_word (List.mem_filter.mp ms_wlen.1).2⟩
  · exact ⟨hw, good_of_word (List.mem_filter.mp hw).2⟩
def ms_ycod : MethodName := ⟨"java/lang/String", "coder", "()B"⟩
set_option maxRecDepth 100000 in
theorem ms_wcod : Cond.code ms_ycod prog_16_method_152_code 1 (some .byte) ∈ mx_ts ∧ Cond.initialized "java/lang/String" ∈ mx_ts ∧ Cond.instanceMethod ms_ycod ∈ mx_ts := ⟨mx_in 312 rfl rfl, mx_in 87 rfl rfl, mx_in 310 rfl rfl⟩
set_option maxRecDepth 100000 in
theorem ms_scod : Cond.selects "java/lang/String" ms_ycod ms_ycod ∈ mx_ts := mx_in 311 rfl rfl
def ms_wscod : List Cond := Cond.code ms_ycod prog_16_method_152_code 1 (some .byte) :: mx_ts
theorem ms_gcod : GoodIn mx_ts ms_wscod := by
  intro w hw
  rcases List.mem_cons.mp hw with rfl | hw
  · exact ⟨ms_wcod.1, good_of_word (List.mem_filter.mp ms_wcod.1).2⟩
  · exact ⟨hw, good_of_word (List.mem_filter.mp hw).2⟩
def ms_ylat : MethodName := ⟨"java/lang/String", "isLatin1", "()Z"⟩
set_option maxRecDepth 100000 in
theorem ms_wlat : Cond.code ms_ylat prog_16_method_154_code 1 (some .boolean) ∈ mx_ts ∧ Cond.initialized "java/lang/String" ∈ mx_ts ∧ Cond.instanceMethod ms_ylat ∈ mx_ts := ⟨mx_in 322 rfl rfl, mx_in 87 rfl rfl, mx_in 320 rfl rfl⟩
set_option maxRecDepth 100000 in
theorem ms_slat : Cond.selects "java/lang/String" ms_ylat ms_ylat ∈ mx_ts := mx_in 321 rfl rfl
def ms_wslat : List Cond := Cond.code ms_ylat prog_16_method_154_code 1 (some .boolean) :: mx_ts
theorem ms_glat : GoodIn mx_ts ms_wslat := by
  intro w hw
  rcases List.mem_cons.mp hw with rfl | hw
  · exact ⟨ms_wlat.1, good_of_word (List.mem_filter.mp ms_wlat.1).2⟩
  · exact ⟨hw, good_of_word (List.mem_filter.mp hw).2⟩
def ms_ychr : MethodName := ⟨"java/lang/String", "charAt", "(I)C"⟩
set_option maxRecDepth 100000 in
theorem ms_wchr : Cond.code ms_ychr prog_16_method_56_code 2 (some .char) ∈ mx_ts ∧ Cond.initialized "java/lang/String" ∈ mx_ts ∧ Cond.instanceMethod ms_ychr ∈ mx_ts := ⟨mx_in 318 rfl rfl, mx_in 87 rfl rfl, mx_in 316 rfl rfl⟩
set_option maxRecDepth 100000 in
theorem ms_schr : Cond.selects "java/lang/String" ms_ychr ms_ychr ∈ mx_ts := mx_in 317 rfl rfl
def ms_wschr : List Cond := Cond.code ms_ychr prog_16_method_56_code 2 (some .char) :: mx_ts
theorem ms_gchr : GoodIn mx_ts ms_wschr := by
  intro w hw
  rcases List.mem_cons.mp hw with rfl | hw
  · exact ⟨ms_wchr.1, good_of_word (List.mem_filter.mp ms_wchr.1).2⟩
  · exact ⟨hw, good_of_word (List.mem_filter.mp hw).2⟩
def ms_ylch : MethodName := ⟨"java/lang/StringLatin1", "charAt", "([BI)C"⟩
set_option maxRecDepth 100000 in
theorem ms_wlch : Cond.code ms_ylch prog_17_method_2_code 2 (some .char) ∈ mx_ts ∧ Cond.initialized "java/lang/StringLatin1" ∈ mx_ts ∧ Cond.static ms_ylch ∈ mx_ts := ⟨mx_in 325 rfl rfl, mx_in 88 rfl rfl, mx_in 324 rfl rfl⟩
def ms_wslch : List Cond := Cond.code ms_ylch prog_17_method_2_code 2 (some .char) :: mx_ts
theorem ms_glch : GoodIn mx_ts ms_wslch := by
  intro w hw
  rcases List.mem_cons.mp hw with rfl | hw
  · exact ⟨ms_wlch.1, good_of_word (List.mem_filter.mp ms_wlch.1).2⟩
  · exact ⟨hw, good_of_word (List.mem_filter.mp hw).2⟩
def ms_ychk : MethodName := ⟨"java/lang/String", "checkIndex", "(II)V"⟩
set_option maxRecDepth 100000 in
theorem ms_wchk : Cond.code ms_ychk prog_16_method_155_code 2 none ∈ mx_ts ∧ Cond.initialized "java/lang/String" ∈ mx_ts ∧ Cond.static ms_ychk ∈ mx_ts := ⟨mx_in 328 rfl rfl, mx_in 87 rfl rfl, mx_in 327 rfl rfl⟩
def ms_wschk : List Cond := Cond.code ms_ychk prog_16_method_155_code 2 none :: mx_ts
theorem ms_gchk : GoodIn mx_ts ms_wschk := by
  intro w hw
  rcases List.mem_cons.mp hw with rfl | hw
  · exact ⟨ms_wchk.1, good_of_word (List.mem_filter.mp ms_wchk.1).2⟩
  · exact ⟨hw, good_of_word (List.mem_filter.mp hw).2⟩
def ms_ypre : MethodName := ⟨"jdk/internal/util/Preconditions", "checkIndex", "(IILjava/util/function/BiFunction;)I"⟩
set_option maxRecDepth 100000 in
theorem ms_wpre : Cond.code ms_ypre prog_20_method_11_code 3 (some .int) ∈ mx_ts ∧ Cond.initialized "jdk/internal/util/Preconditions" ∈ mx_ts ∧ Cond.static ms_ypre ∈ mx_ts := ⟨mx_in 333 rfl rfl, mx_in 89 rfl rfl, mx_in 332 rfl rfl⟩
def ms_wspre : List Cond := Cond.code ms_ypre prog_20_method_11_code 3 (some .int) :: mx_ts
theorem ms_gpre : GoodIn mx_ts ms_wspre := by
  intro w hw
  rcases List.mem_cons.mp hw with rfl | hw
  · exact ⟨ms_wpre.1, good_of_word (List.mem_filter.mp ms_wpre.1).2⟩
  · exact ⟨hw, good_of_word (List.mem_filter.mp hw).2⟩
set_option maxRecDepth 100000 in
theorem ms_llen_cod : Cond.methodLink "java/lang/String" 335 ms_ycod ∈ mx_ts := mx_in 309 rfl rfl
set_option maxRecDepth 100000 in
theorem ms_lchr_lat : Cond.methodLink "java/lang/String" 492 ms_ylat ∈ mx_ts := mx_in 319 rfl rfl
set_option maxRecDepth 100000 in
theorem ms_lchr_lch : Cond.methodLink "java/lang/String" 495 ms_ylch ∈ mx_ts := mx_in 323 rfl rfl
set_option maxRecDepth 100000 in
theorem ms_llch_chk : Cond.methodLink "java/lang/StringLatin1" 9 ms_ychk ∈ mx_ts := mx_in 326 rfl rfl
set_option maxRecDepth 100000 in
theorem ms_lchk_pre : Cond.methodLink "java/lang/String" 1059 ms_ypre ∈ mx_ts := mx_in 331 rfl rfl
set_option maxRecDepth 100000 in
theorem ms_fcom : Cond.fieldLink "java/lang/String" 38 "java/lang/String" "COMPACT_STRINGS" "Z" ∈ mx_ts := mx_in 313 rfl rfl
set_option maxRecDepth 100000 in
theorem ms_fval : Cond.fieldLink "java/lang/String" 9 "java/lang/String" "value" "[B" ∈ mx_ts := mx_in 1392 rfl rfl
set_option maxRecDepth 100000 in
theorem ms_fcod : Cond.fieldLink "java/lang/String" 15 "java/lang/String" "coder" "B" ∈ mx_ts := mx_in 1393 rfl rfl
set_option maxRecDepth 100000 in
theorem ms_fsio : Cond.fieldLink "java/lang/String" 1053 "jdk/internal/util/Preconditions" "SIOOBE_FORMATTER" "Ljava/util/function/BiFunction;" ∈ mx_ts := mx_in 329 rfl rfl
theorem ms_dlen_0 : decode prog_16_method_54_code 0 = .ok (.aload_n 0, 1) := by decide +kernel
theorem ms_dlen_1 : decode prog_16_method_54_code 1 = .ok (.getfield 9, 3) := by decide +kernel
theorem ms_dlen_4 : decode prog_16_method_54_code 4 = .ok (.arraylength, 1) := by decide +kernel
theorem ms_dlen_5 : decode prog_16_method_54_code 5 = .ok (.aload_n 0, 1) := by decide +kernel
theorem ms_dlen_6 : decode prog_16_method_54_code 6 = .ok (.invokevirtual 335, 3) := by decide +kernel
theorem ms_dlen_9 : decode prog_16_method_54_code 9 = .ok (.ishr, 1) := by decide +kernel
theorem ms_dlen_10 : decode prog_16_method_54_code 10 = .ok (.ireturn, 1) := by decide +kernel
theorem ms_dcod_0 : decode prog_16_method_152_code 0 = .ok (.getstatic 38, 3) := by decide +kernel
theorem ms_dcod_3 : decode prog_16_method_152_code 3 = .ok (.ifCond .eq 10, 3) := by decide +kernel
theorem ms_dcod_6 : decode prog_16_method_152_code 6 = .ok (.aload_n 0, 1) := by decide +kernel
theorem ms_dcod_7 : decode prog_16_method_152_code 7 = .ok (.getfield 15, 3) := by decide +kernel
theorem ms_dcod_10 : decode prog_16_method_152_code 10 = .ok (.goto 4, 3) := by decide +kernel
theorem ms_dcod_14 : decode prog_16_method_152_code 14 = .ok (.ireturn, 1) := by decide +kernel
theorem ms_dlat_0 : decode prog_16_method_154_code 0 = .ok (.getstatic 38, 3) := by decide +kernel
theorem ms_dlat_3 : decode prog_16_method_154_code 3 = .ok (.ifCond .eq 14, 3) := by decide +kernel
theorem ms_dlat_6 : decode prog_16_method_154_code 6 = .ok (.aload_n 0, 1) := by decide +kernel
theorem ms_dlat_7 : decode prog_16_method_154_code 7 = .ok (.getfield 15, 3) := by decide +kernel
theorem ms_dlat_10 : decode prog_16_method_154_code 10 = .ok (.ifCond .ne 7, 3) := by decide +kernel
theorem ms_dlat_13 : decode prog_16_method_154_code 13 = .ok (.iconst 1, 1) := by decide +kernel
theorem ms_dlat_14 : decode prog_16_method_154_code 14 = .ok (.goto 4, 3) := by decide +kernel
theorem ms_dlat_18 : decode prog_16_method_154_code 18 = .ok (.ireturn, 1) := by decide +kernel
theorem ms_dchr_0 : decode prog_16_method_56_code 0 = .ok (.aload_n 0, 1) := by decide +kernel
theorem ms_dchr_1 : decode prog_16_method_56_code 1 = .ok (.invokevirtual 492, 3) := by decide +kernel
theorem ms_dchr_4 : decode prog_16_method_56_code 4 = .ok (.ifCond .eq 12, 3) := by decide +kernel
theorem ms_dchr_7 : decode prog_16_method_56_code 7 = .ok (.aload_n 0, 1) := by decide +kernel
theorem ms_dchr_8 : decode prog_16_method_56_code 8 = .ok (.getfield 9, 3) := by decide +kernel
theorem ms_dchr_11 : decode prog_16_method_56_code 11 = .ok (.iload_n 1, 1) := by decide +kernel
theorem ms_dchr_12 : decode prog_16_method_56_code 12 = .ok (.invokestatic 495, 3) := by decide +kernel
theorem ms_dchr_15 : decode prog_16_method_56_code 15 = .ok (.ireturn, 1) := by decide +kernel
theorem ms_dlch_0 : decode prog_17_method_2_code 0 = .ok (.iload_n 1, 1) := by decide +kernel
theorem ms_dlch_1 : decode prog_17_method_2_code 1 = .ok (.aload_n 0, 1) := by decide +kernel
theorem ms_dlch_2 : decode prog_17_method_2_code 2 = .ok (.arraylength, 1) := by decide +kernel
theorem ms_dlch_3 : decode prog_17_method_2_code 3 = .ok (.invokestatic 9, 3) := by decide +kernel
theorem ms_dlch_6 : decode prog_17_method_2_code 6 = .ok (.aload_n 0, 1) := by decide +kernel
theorem ms_dlch_7 : decode prog_17_method_2_code 7 = .ok (.iload_n 1, 1) := by decide +kernel
theorem ms_dlch_8 : decode prog_17_method_2_code 8 = .ok (.baload, 1) := by decide +kernel
theorem ms_dlch_9 : decode prog_17_method_2_code 9 = .ok (.sipush 255, 3) := by decide +kernel
theorem ms_dlch_12 : decode prog_17_method_2_code 12 = .ok (.iand, 1) := by decide +kernel
theorem ms_dlch_13 : decode prog_17_method_2_code 13 = .ok (.i2c, 1) := by decide +kernel
theorem ms_dlch_14 : decode prog_17_method_2_code 14 = .ok (.ireturn, 1) := by decide +kernel
theorem ms_dchk_0 : decode prog_16_method_155_code 0 = .ok (.iload_n 0, 1) := by decide +kernel
theorem ms_dchk_1 : decode prog_16_method_155_code 1 = .ok (.iload_n 1, 1) := by decide +kernel
theorem ms_dchk_2 : decode prog_16_method_155_code 2 = .ok (.getstatic 1053, 3) := by decide +kernel
theorem ms_dchk_5 : decode prog_16_method_155_code 5 = .ok (.invokestatic 1059, 3) := by decide +kernel
theorem ms_dchk_8 : decode prog_16_method_155_code 8 = .ok (.pop, 1) := by decide +kernel
theorem ms_dchk_9 : decode prog_16_method_155_code 9 = .ok (.return_, 1) := by decide +kernel
theorem ms_dpre_0 : decode prog_20_method_11_code 0 = .ok (.iload_n 0, 1) := by decide +kernel
theorem ms_dpre_1 : decode prog_20_method_11_code 1 = .ok (.ifCond .lt 8, 3) := by decide +kernel
theorem ms_dpre_4 : decode prog_20_method_11_code 4 = .ok (.iload_n 0, 1) := by decide +kernel
theorem ms_dpre_5 : decode prog_20_method_11_code 5 = .ok (.iload_n 1, 1) := by decide +kernel
theorem ms_dpre_6 : decode prog_20_method_11_code 6 = .ok (.if_icmp .lt 10, 3) := by decide +kernel
theorem ms_dpre_16 : decode prog_20_method_11_code 16 = .ok (.iload_n 0, 1) := by decide +kernel
theorem ms_dpre_17 : decode prog_20_method_11_code 17 = .ok (.ireturn, 1) := by decide +kernel
set_option maxRecDepth 100000 in
theorem ms_tab : ∀ i, i < mx_byt.length → ∀ j, j < mx_slens.getD i 0 → (((mx_byt.getD i []).getD j 0 &&& 255).toUInt32 % 65536).toInt32 = (mx_byt.getD i []).getD j 0 ∧ narrow .char (.int ((mx_byt.getD i []).getD j 0)) = .int ((mx_byt.getD i []).getD j 0) ∧ mx_slens.getD i 0 = (mx_byt.getD i []).length ∧ mx_slens.getD i 0 < 2 ^ 31 := by decide +kernel
theorem ms_tab2 : ∀ i, i < mx_byt.length → mx_slens.getD i 0 = (mx_byt.getD i []).length ∧ mx_slens.getD i 0 < 2 ^ 31 ∧ (Int32.ofNat (mx_slens.getD i 0)) >>> ((0 : Int32) &&& 31) = Int32.ofNat (mx_slens.getD i 0) := by decide +kernel
section MSC
variable {p : Program} {l : Launch} {e : Env} {R : Room} {s : State} {m : MethodId} {args : Array Value} {below : List Frame} {meth : Method} {c : Code} {H : Heap} {locs : List Loc} {cells slots : Nat} {Q : State → Prop}
variable {sa : Nat → Nat} {base Ls : Nat} {xs : Nat → Int32} {av : Nat → Nat} {pc : Nat} {ls : Array Slot}
theorem ms_callp {rest st0 : List Value} {v0 : Option Value} {Qa : State → Outcome → State → Prop} (hr : va_Run p l e R s m args below meth c H locs cells slots 0 0 (F0 m pc ls st0) rest Qa (fun _ => False)) (hQ : ∀ (x t : State) (v : Option Value), Qa x (.returned v) t → v = v0 ∧ t.heap = x.heap) (kk : W p l e R s m args below meth c H locs cells slots Q (F0 m (pc + 3) ls (v0.toList ++ rest))) : W p l e R s m args below meth c H locs cells slots Q (F0 m pc ls st0) := by
  intro T hT X
  obtain ⟨v, x, t, T', L, h0, X', hL, e1, e2, hq, st⟩ := hr T hT X
  obtain ⟨hv, hh⟩ := hQ _ _ _ hq
  subst hv
  have hnil : L = [] := List.eq_nil_iff_forall_not_mem.mpr (fun q hq => hL q hq)
  subst hnil
  rw [List.append_nil] at X'
  obtain ⟨t2, a1, b1⟩ := kk T' (by rw [e1, hh, h0]) X'
  exact ⟨t2, st t2 a1, b1⟩
def ms_P (sa : Nat → Nat) (base Ls : Nat) (xs : Nat → Int32) (av : Nat → Nat) (vs : List Value) : Array Value → State → Prop := fun v U => v = vs.toArray ∧ mx_EX sa base Ls xs av U U.heap
def ms_Q (v0 : Option Value) : Array Value → State → Outcome → State → Prop := fun _ x o t => o = .returned v0 ∧ t.heap = x.heap
theorem ms_blind {vs : List Value} : FrameBlind (ms_P sa base Ls xs av vs) := by
  intro v U g mk q
  obtain ⟨q1, z1, z2, z3, z4, z5⟩ := q
  exact ⟨q1, z1, va_X.moved (u := U) (U := U.calling g mk v) (Vm.Alike.refl U.vm) z2, vk_S.moved (u := U) (U := U.calling g mk v) (Vm.Alike.refl U.vm) z3, va_Z.moved (u := U) (U := U.calling g mk v) (Vm.Alike.refl U.vm) z4, va_Zq.moved (u := U) (U := U.calling g mk v) (Vm.Alike.refl U.vm) z5⟩
theorem ms_EXw {s U : State} {H : Heap} (hW : s.WarmedH U.vm) (h : mx_EX sa base Ls xs av s H) : mx_EX sa base Ls xs av U H := by
  obtain ⟨h1, h2, h3, h4, h5⟩ := h
  exact ⟨h1, h2.moved hW.alike, h3.moved hW.alike, va_Z.moved hW.alike h4, va_Zq.moved hW.alike h5⟩
theorem ms_pre {vs : List Value} (hE : mx_EX sa base Ls xs av s H) : ∀ U : State, U.heap = H → s.WarmedH U.vm → ms_P sa base Ls xs av vs vs.toArray U := by
  intro U hU hW
  refine ⟨rfl, ?_⟩
  rw [hU]
  exact ms_EXw hW hE
theorem ms_ccod {i : Nat} (hi : i < mx_byt.length) : Met l ms_ycod ms_wscod { frames := 0, cells := 0, slots := 0, locals := 0 } (ms_P sa base Ls xs av [.ref (sa (i + 1))]) (ms_Q (some (.int 0))) 0 0 (fun _ => False) := by
  refine Met.ofW (cc := prog_16_method_152_code) (maxL := 1) (ret := (some .byte)) (by decide +kernel) rfl ?_
  intro p e s m args below meth c s₁ B hml hv
  obtain ⟨rfl, hE⟩ := hv
  have hx := B.exec
  have hb := B.bytes
  have hr := B.returns
  have hts0 := atoms_spec (ws := ms_wscod) B.pre
  have hts : ∀ w ∈ mx_ts, w.before _ s = true := fun w hw => hts0 w (List.mem_cons_of_mem _ hw)
  have hown : s.vm.findClass "java/lang/String" = some m.cls := findClass_of_methodNamed B.named
  have hlocks := B.notSynchronized
  have hS : va_S (mx_A base) s.heap s.heap [] := va_S.rf
  have hl := lv_entry ([.ref (sa (i + 1))]) (n := 1) (Nat.le_of_ble_eq_true rfl)
  rw [lg_entry_eq]
  generalize (lg_sl ([.ref (sa (i + 1))]) ++ List.replicate (1 - (lg_sl ([.ref (sa (i + 1))])).length) Slot.unset).toArray = ls at hl ⊢
  have hl : lv_has ls 1 [(0, .ref (sa (i + 1)))] := hl
  have hsz : ls.size = 1 := hl.1
  refine va_gets hx hb hE.2.2.2.1 hS hown (hts _ ms_fcom) (fun _ z => z) ms_dcod_0 ?_
  refine lv_if_eq (tgt := 13) hx hb ms_dcod_3 (by decide) (fun z => absurd z (by decide)) (fun _ => ?_)
  refine lv_aload_n hx hb ms_dcod_6 rfl (lv_at hl 0 rfl) ?_
  refine vk_getf hx hb (hE.2.2.1.1 i hi).2.1 hS hown (hts _ ms_fcod) (fun _ z => z) ms_dcod_7 ?_
  refine lv_goto (tgt := 14) hx hb ms_dcod_10 (by decide) ?_
  exact W.zret hx hb hr rfl (fun t ht hW => ⟨rfl, ht⟩) (fun q hq => by cases hq) ms_dcod_14
theorem ms_clat {i : Nat} (hi : i < mx_byt.length) : Met l ms_ylat ms_wslat { frames := 0, cells := 0, slots := 0, locals := 0 } (ms_P sa base Ls xs av [.ref (sa (i + 1))]) (ms_Q (some (.int 1))) 0 0 (fun _ => False) := by
  refine Met.ofW (cc := prog_16_method_154_code) (maxL := 1) (ret := (some .boolean)) (by decide +kernel) rfl ?_
  intro p e s m args below meth c s₁ B hml hv
  obtain ⟨rfl, hE⟩ := hv
  have hx := B.exec
  have hb := B.bytes
  have hr := B.returns
  have hts0 := atoms_spec (ws := ms_wslat) B.pre
  have hts : ∀ w ∈ mx_ts, w.before _ s = true := fun w hw => hts0 w (List.mem_cons_of_mem _ hw)
  have hown : s.vm.findClass "java/lang/String" = some m.cls := findClass_of_methodNamed B.named
  have hlocks := B.notSynchronized
  have hS : va_S (mx_A base) s.heap s.heap [] := va_S.rf
  have hl := lv_entry ([.ref (sa (i + 1))]) (n := 1) (Nat.le_of_ble_eq_true rfl)
  rw [lg_entry_eq]
  generalize (lg_sl ([.ref (sa (i + 1))]) ++ List.replicate (1 - (lg_sl ([.ref (sa (i + 1))])).length) Slot.unset).toArray = ls at hl ⊢
  have hl : lv_has ls 1 [(0, .ref (sa (i + 1)))] := hl
  have hsz : ls.size = 1 := hl.1
  refine va_gets hx hb hE.2.2.2.1 hS hown (hts _ ms_fcom) (fun _ z => z) ms_dlat_0 ?_
  refine lv_if_eq (tgt := 17) hx hb ms_dlat_3 (by decide) (fun z => absurd z (by decide)) (fun _ => ?_)
  refine lv_aload_n hx hb ms_dlat_6 rfl (lv_at hl 0 rfl) ?_
  refine vk_getf hx hb (hE.2.2.1.1 i hi).2.1 hS hown (hts _ ms_fcod) (fun _ z => z) ms_dlat_7 ?_
  refine lv_if_ne (tgt := 17) hx hb ms_dlat_10 (by decide) (fun z => absurd rfl z) (fun _ => ?_)
  refine lv_iconst (v := 1) hx hb ms_dlat_13 (by decide) ?_
  refine lv_goto (tgt := 18) hx hb ms_dlat_14 (by decide) ?_
  exact W.zret hx hb hr rfl (fun t ht hW => ⟨rfl, ht⟩) (fun q hq => by cases hq) ms_dlat_18
theorem ms_clen {i : Nat} (hi : i < mx_byt.length) : Met l ms_ylen ms_wslen { frames := 1, cells := 0, slots := 0, locals := 20 } (ms_P sa base Ls xs av [.ref (sa (i + 1))]) (ms_Q (some (.int (Int32.ofNat (mx_slens.getD i 0))))) 0 0 (fun _ => False) := by
  refine Met.ofW (cc := prog_16_method_54_code) (maxL := 1) (ret := (some .int)) (by decide +kernel) rfl ?_
  intro p e s m args below meth c s₁ B hml hv
  obtain ⟨rfl, hE⟩ := hv
  have hx := B.exec
  have hb := B.bytes
  have hr := B.returns
  have hts0 := atoms_spec (ws := ms_wslen) B.pre
  have hts : ∀ w ∈ mx_ts, w.before _ s = true := fun w hw => hts0 w (List.mem_cons_of_mem _ hw)
  have hown : s.vm.findClass "java/lang/String" = some m.cls := findClass_of_methodNamed B.named
  have hlocks := B.notSynchronized
  have hS : va_S (mx_A base) s.heap s.heap [] := va_S.rf
  have hl := lv_entry ([.ref (sa (i + 1))]) (n := 1) (Nat.le_of_ble_eq_true rfl)
  rw [lg_entry_eq]
  generalize (lg_sl ([.ref (sa (i + 1))]) ++ List.replicate (1 - (lg_sl ([.ref (sa (i + 1))])).length) Slot.unset).toArray = ls at hl ⊢
  have hl : lv_has ls 1 [(0, .ref (sa (i + 1)))] := hl
  have hsz : ls.size = 1 := hl.1
  refine lv_aload_n hx hb ms_dlen_0 rfl (lv_at hl 0 rfl) ?_
  refine vk_getf hx hb (hE.2.2.1.1 i hi).2.2.1 hS hown (hts _ ms_fval) (fun _ z => z) ms_dlen_1 ?_
  refine va_tlen hx hb (hE.2.2.1.1 i hi).2.2.2 hS rfl ms_dlen_4 ?_
  refine lv_aload_n hx hb ms_dlen_5 rfl (lv_at hl 0 rfl) ?_
  have hcb := callB_of (R := (headSpec ms_wslen { frames := 1, cells := 0, slots := 0, locals := 20 }).room) (rm := { frames := 0, cells := 0, slots := 0, locals := 0 }) (mc := 0) (ms := 0) (bytes := prog_16_method_152_code) (maxL := 1) (ret := (some .byte)) 0 hts ms_gcod rfl rfl rfl (hts _ ms_wcod.2.1) (hts _ ms_llen_cod) ⟨by decide +kernel, by decide +kernel, by decide +kernel⟩ ⟨by decide, by decide⟩
  refine ms_callp (v0 := some (.int 0)) (va_runV (As := []) (b := sa (i + 1)) (rest := [.int (Int32.ofNat (mx_slens.getD i 0))]) ⟨hx, hb, hml, hown, hts⟩ (ms_ccod (sa := sa) (base := base) (Ls := Ls) (xs := xs) (av := av) hi) ⟨hcb, hts _ ms_wcod.2.2, hts _ ms_scod⟩ ⟨ms_blind, vk_recv (adK := fun j => sa (j + 1)) (i := i) hE.2.2.1 hi hS, ms_pre hE⟩ rfl rfl hsz rfl (Nat.le_of_ble_eq_true rfl) ms_dlen_6 ⟨by decide, by decide⟩) (fun x t v z => ⟨Outcome.returned.inj z.1, z.2⟩) ?_
  refine lv_ishr hx hb ms_dlen_9 ?_
  rw [(ms_tab2 i hi).2.2]
  exact W.zret hx hb hr rfl (fun t ht hW => ⟨rfl, ht⟩) (fun q hq => by cases hq) ms_dlen_10
theorem ms_cpreN {j : Int32} {n : Nat} (hj : vp_in j n) (hn : n < 2 ^ 31) : Met l ms_ypre ms_wspre { frames := 0, cells := 0, slots := 0, locals := 0 } (ms_P sa base Ls xs av [.int j, .int (Int32.ofNat n), .null]) (ms_Q (some (.int j))) 0 0 (fun _ => False) := by
  refine Met.ofW (cc := prog_20_method_11_code) (maxL := 3) (ret := (some .int)) (by decide +kernel) rfl ?_
  intro p e s m args below meth c s₁ B hml hv
  obtain ⟨rfl, hE⟩ := hv
  have hx := B.exec
  have hb := B.bytes
  have hr := B.returns
  have hts0 := atoms_spec (ws := ms_wspre) B.pre
  have hts : ∀ w ∈ mx_ts, w.before _ s = true := fun w hw => hts0 w (List.mem_cons_of_mem _ hw)
  have hown : s.vm.findClass "jdk/internal/util/Preconditions" = some m.cls := findClass_of_methodNamed B.named
  have hlocks := B.notSynchronized
  have hS : va_S (mx_A base) s.heap s.heap [] := va_S.rf
  have hl := lv_entry ([.int j, .int (Int32.ofNat n), .null]) (n := 3) (Nat.le_of_ble_eq_true rfl)
  rw [lg_entry_eq]
  generalize (lg_sl ([.int j, .int (Int32.ofNat n), .null]) ++ List.replicate (3 - (lg_sl ([.int j, .int (Int32.ofNat n), .null])).length) Slot.unset).toArray = ls at hl ⊢
  have hl : lv_has ls 3 [(0, .int j), (1, .int (Int32.ofNat n)), (2, .null)] := hl
  have hsz : ls.size = 3 := hl.1
  have hj2 := vp_in_iff.mp hj
  refine lv_iload_n hx hb ms_dpre_0 rfl (lv_at hl 0 rfl) ?_
  refine lv_if_lt (tgt := 9) hx hb ms_dpre_1 (by decide) (fun z => ?_) (fun _ => ?_)
  · exact absurd (Int32.lt_iff_toInt_lt.mp z) (by rw [Int32.toInt_zero]; omega)
  · refine lv_iload_n hx hb ms_dpre_4 rfl (lv_at hl 0 rfl) ?_
    refine lv_iload_n hx hb ms_dpre_5 rfl (lv_at hl 1 rfl) ?_
    refine lv_icmp_lt (tgt := 16) hx hb ms_dpre_6 (by decide) (fun _ => ?_) (fun z => ?_)
    · refine lv_iload_n hx hb ms_dpre_16 rfl (lv_at hl 0 rfl) ?_
      exact W.zret hx hb hr rfl (fun t ht hW => ⟨rfl, ht⟩) (fun q hq => by cases hq) ms_dpre_17
    · exact absurd (Int32.lt_iff_toInt_lt.mpr (by rw [show (Int32.ofNat n).toInt = (n : Int) from nI_toInt hn]; exact hj2.2)) z
theorem ms_cpreR {j : Int32} {n t0 : Nat} (hj : vp_in j n) (hn : n < 2 ^ 31) : Met l ms_ypre ms_wspre { frames := 0, cells := 0, slots := 0, locals := 0 } (ms_P sa base Ls xs av [.int j, .int (Int32.ofNat n), .ref t0]) (ms_Q (some (.int j))) 0 0 (fun _ => False) := by
  refine Met.ofW (cc := prog_20_method_11_code) (maxL := 3) (ret := (some .int)) (by decide +kernel) rfl ?_
  intro p e s m args below meth c s₁ B hml hv
  obtain ⟨rfl, hE⟩ := hv
  have hx := B.exec
  have hb := B.bytes
  have hr := B.returns
  have hts0 := atoms_spec (ws := ms_wspre) B.pre
  have hts : ∀ w ∈ mx_ts, w.before _ s = true := fun w hw => hts0 w (List.mem_cons_of_mem _ hw)
  have hown : s.vm.findClass "jdk/internal/util/Preconditions" = some m.cls := findClass_of_methodNamed B.named
  have hlocks := B.notSynchronized
  have hS : va_S (mx_A base) s.heap s.heap [] := va_S.rf
  have hl := lv_entry ([.int j, .int (Int32.ofNat n), .ref t0]) (n := 3) (Nat.le_of_ble_eq_true rfl)
  rw [lg_entry_eq]
  generalize (lg_sl ([.int j, .int (Int32.ofNat n), .ref t0]) ++ List.replicate (3 - (lg_sl ([.int j, .int (Int32.ofNat n), .ref t0])).length) Slot.unset).toArray = ls at hl ⊢
  have hl : lv_has ls 3 [(0, .int j), (1, .int (Int32.ofNat n)), (2, .ref t0)] := hl
  have hsz : ls.size = 3 := hl.1
  have hj2 := vp_in_iff.mp hj
  refine lv_iload_n hx hb ms_dpre_0 rfl (lv_at hl 0 rfl) ?_
  refine lv_if_lt (tgt := 9) hx hb ms_dpre_1 (by decide) (fun z => ?_) (fun _ => ?_)
  · exact absurd (Int32.lt_iff_toInt_lt.mp z) (by rw [Int32.toInt_zero]; omega)
  · refine lv_iload_n hx hb ms_dpre_4 rfl (lv_at hl 0 rfl) ?_
    refine lv_iload_n hx hb ms_dpre_5 rfl (lv_at hl 1 rfl) ?_
    refine lv_icmp_lt (tgt := 16) hx hb ms_dpre_6 (by decide) (fun _ => ?_) (fun z => ?_)
    · refine lv_iload_n hx hb ms_dpre_16 rfl (lv_at hl 0 rfl) ?_
      exact W.zret hx hb hr rfl (fun t ht hW => ⟨rfl, ht⟩) (fun q hq => by cases hq) ms_dpre_17
    · exact absurd (Int32.lt_iff_toInt_lt.mpr (by rw [show (Int32.ofNat n).toInt = (n : Int) from nI_toInt hn]; exact hj2.2)) z
theorem ms_cpre {j : Int32} {n : Nat} {f : Value} (hf : f = .null ∨ ∃ t, f = .ref t) (hj : vp_in j n) (hn : n < 2 ^ 31) : Met l ms_ypre ms_wspre { frames := 0, cells := 0, slots := 0, locals := 0 } (ms_P sa base Ls xs av [.int j, .int (Int32.ofNat n), f]) (ms_Q (some (.int j))) 0 0 (fun _ => False) := by
  rcases hf with rfl | ⟨t, rfl⟩
  · exact ms_cpreN hj hn
  · exact ms_cpreR hj hn
theorem ms_cchk {j : Int32} {n : Nat} (hj : vp_in j n) (hn : n < 2 ^ 31) : Met l ms_ychk ms_wschk { frames := 1, cells := 0, slots := 0, locals := 22 } (ms_P sa base Ls xs av [.int j, .int (Int32.ofNat n)]) (ms_Q (none)) 0 0 (fun _ => False) := by
  refine Met.ofW (cc := prog_16_method_155_code) (maxL := 2) (ret := none) (by decide +kernel) rfl ?_
  intro p e s m args below meth c s₁ B hml hv
  obtain ⟨rfl, hE⟩ := hv
  have hx := B.exec
  have hb := B.bytes
  have hr := B.returns
  have hts0 := atoms_spec (ws := ms_wschk) B.pre
  have hts : ∀ w ∈ mx_ts, w.before _ s = true := fun w hw => hts0 w (List.mem_cons_of_mem _ hw)
  have hown : s.vm.findClass "java/lang/String" = some m.cls := findClass_of_methodNamed B.named
  have hlocks := B.notSynchronized
  have hS : va_S (mx_A base) s.heap s.heap [] := va_S.rf
  have hl := lv_entry ([.int j, .int (Int32.ofNat n)]) (n := 2) (Nat.le_of_ble_eq_true rfl)
  rw [lg_entry_eq]
  generalize (lg_sl ([.int j, .int (Int32.ofNat n)]) ++ List.replicate (2 - (lg_sl ([.int j, .int (Int32.ofNat n)])).length) Slot.unset).toArray = ls at hl ⊢
  have hl : lv_has ls 2 [(0, .int j), (1, .int (Int32.ofNat n))] := hl
  have hsz : ls.size = 2 := hl.1
  refine lv_iload_n hx hb ms_dchk_0 rfl (lv_at hl 0 rfl) ?_
  refine lv_iload_n hx hb ms_dchk_1 rfl (lv_at hl 1 rfl) ?_
  have hZ : ∃ f : Value, (f = .null ∨ ∃ t, f = .ref t) ∧ va_Z "jdk/internal/util/Preconditions" "SIOOBE_FORMATTER" "Ljava/util/function/BiFunction;" f (mx_A base) s s.heap := by
    rcases hE.2.2.2.2 with z | ⟨t, z⟩
    · exact ⟨.null, Or.inl rfl, z⟩
    · exact ⟨.ref t, Or.inr ⟨t, rfl⟩, z⟩
  obtain ⟨f, hf, hZ⟩ := hZ
  refine va_gets hx hb hZ hS hown (hts _ ms_fsio) (fun _ z => z) ms_dchk_2 ?_
  have hcb := callB_of (R := (headSpec ms_wschk { frames := 1, cells := 0, slots := 0, locals := 22 }).room) (rm := { frames := 0, cells := 0, slots := 0, locals := 0 }) (mc := 0) (ms := 0) (bytes := prog_20_method_11_code) (maxL := 3) (ret := (some .int)) 3 hts ms_gpre rfl rfl rfl (hts _ ms_wpre.2.1) (hts _ ms_lchk_pre) ⟨by decide +kernel, by decide +kernel, by decide +kernel⟩ ⟨by decide, by decide⟩
  refine ms_callp (v0 := some (.int j)) (va_runS (As := [.int j, .int (Int32.ofNat n), f]) (rest := []) ⟨hx, hb, hml, hown, hts⟩ (ms_cpre (sa := sa) (base := base) (Ls := Ls) (xs := xs) (av := av) hf hj hn) ⟨hcb, hts _ ms_wpre.2.2⟩ ⟨ms_blind, ms_pre hE⟩ rfl rfl hsz rfl (Nat.le_of_ble_eq_true rfl) ms_dchk_5 ⟨by decide, by decide⟩) (fun x t v z => ⟨Outcome.returned.inj z.1, z.2⟩) ?_
  refine lv_pop hx hb ms_dchk_8 rfl ?_
  exact W.vret hx hb hr (fun t ht hW => ⟨rfl, ht⟩) (fun q hq => by cases hq) ms_dchk_9
theorem ms_clch {i : Nat} {j : Int32} (hi : i < mx_byt.length) (hj : vp_in j (mx_slens.getD i 0)) : Met l ms_ylch ms_wslch { frames := 2, cells := 0, slots := 0, locals := 43 } (ms_P sa base Ls xs av [.ref (av i), .int j]) (ms_Q (some (.int ((mx_byt.getD i []).getD j.toNatClampNeg 0)))) 0 0 (fun _ => False) := by
  refine Met.ofW (cc := prog_17_method_2_code) (maxL := 2) (ret := (some .char)) (by decide +kernel) rfl ?_
  intro p e s m args below meth c s₁ B hml hv
  obtain ⟨rfl, hE⟩ := hv
  have hx := B.exec
  have hb := B.bytes
  have hr := B.returns
  have hts0 := atoms_spec (ws := ms_wslch) B.pre
  have hts : ∀ w ∈ mx_ts, w.before _ s = true := fun w hw => hts0 w (List.mem_cons_of_mem _ hw)
  have hown : s.vm.findClass "java/lang/StringLatin1" = some m.cls := findClass_of_methodNamed B.named
  have hlocks := B.notSynchronized
  have hS : va_S (mx_A base) s.heap s.heap [] := va_S.rf
  have hl := lv_entry ([.ref (av i), .int j]) (n := 2) (Nat.le_of_ble_eq_true rfl)
  rw [lg_entry_eq]
  generalize (lg_sl ([.ref (av i), .int j]) ++ List.replicate (2 - (lg_sl ([.ref (av i), .int j])).length) Slot.unset).toArray = ls at hl ⊢
  have hl : lv_has ls 2 [(0, .ref (av i)), (1, .int j)] := hl
  have hsz : ls.size = 2 := hl.1
  have hj2 : j.toNatClampNeg < mx_slens.getD i 0 := Nat.not_le.mp fun q => hj (Or.inr q)
  obtain ⟨t1, t2, t3, t4⟩ := ms_tab i hi _ hj2
  refine lv_iload_n hx hb ms_dlch_0 rfl (lv_at hl 1 rfl) ?_
  refine lv_aload_n hx hb ms_dlch_1 rfl (lv_at hl 0 rfl) ?_
  refine va_tlen hx hb (hE.2.2.1.1 i hi).2.2.2 hS rfl ms_dlch_2 ?_
  have hcb := callB_of (R := (headSpec ms_wslch { frames := 2, cells := 0, slots := 0, locals := 43 }).room) (rm := { frames := 1, cells := 0, slots := 0, locals := 22 }) (mc := 0) (ms := 0) (bytes := prog_16_method_155_code) (maxL := 2) (ret := none) 2 hts ms_gchk rfl rfl rfl (hts _ ms_wchk.2.1) (hts _ ms_llch_chk) ⟨by decide +kernel, by decide +kernel, by decide +kernel⟩ ⟨by decide, by decide⟩
  refine ms_callp (v0 := none) (va_runS (As := [.int j, .int (Int32.ofNat (mx_slens.getD i 0))]) (rest := []) ⟨hx, hb, hml, hown, hts⟩ (ms_cchk (sa := sa) (base := base) (Ls := Ls) (xs := xs) (av := av) hj t4) ⟨hcb, hts _ ms_wchk.2.2⟩ ⟨ms_blind, ms_pre hE⟩ rfl rfl hsz rfl (Nat.le_of_ble_eq_true rfl) ms_dlch_3 ⟨by decide, by decide⟩) (fun x t v z => ⟨Outcome.returned.inj z.1, z.2⟩) ?_
  refine lv_aload_n hx hb ms_dlch_6 rfl (lv_at hl 0 rfl) ?_
  refine lv_iload_n hx hb ms_dlch_7 rfl (lv_at hl 1 rfl) ?_
  refine va_tb hx hb (hE.2.2.1.1 i hi).2.2.2 hS hj rfl ms_dlch_8 ?_
  refine lv_sipush (v := 255) hx hb ms_dlch_9 (by decide) ?_
  refine lv_iand hx hb ms_dlch_12 ?_
  refine lv_i2c hx hb ms_dlch_13 t1 ?_
  exact W.zret hx hb hr t2 (fun t ht hW => ⟨rfl, ht⟩) (fun q hq => by cases hq) ms_dlch_14
theorem ms_cchr {i : Nat} {j : Int32} (hi : i < mx_byt.length) (hj : vp_in j (mx_slens.getD i 0)) : Met l ms_ychr ms_wschr { frames := 3, cells := 0, slots := 0, locals := 64 } (ms_P sa base Ls xs av [.ref (sa (i + 1)), .int j]) (ms_Q (some (.int ((mx_byt.getD i []).getD j.toNatClampNeg 0)))) 0 0 (fun _ => False) := by
  refine Met.ofW (cc := prog_16_method_56_code) (maxL := 2) (ret := (some .char)) (by decide +kernel) rfl ?_
  intro p e s m args below meth c s₁ B hml hv
  obtain ⟨rfl, hE⟩ := hv
  have hx := B.exec
  have hb := B.bytes
  have hr := B.returns
  have hts0 := atoms_spec (ws := ms_wschr) B.pre
  have hts : ∀ w ∈ mx_ts, w.before _ s = true := fun w hw => hts0 w (List.mem_cons_of_mem _ hw)
  have hown : s.vm.findClass "java/lang/String" = some m.cls := findClass_of_methodNamed B.named
  have hlocks := B.notSynchronized
  have hS : va_S (mx_A base) s.heap s.heap [] := va_S.rf
  have hl := lv_entry ([.ref (sa (i + 1)), .int j]) (n := 2) (Nat.le_of_ble_eq_true rfl)
  rw [lg_entry_eq]
  generalize (lg_sl ([.ref (sa (i + 1)), .int j]) ++ List.replicate (2 - (lg_sl ([.ref (sa (i + 1)), .int j])).length) Slot.unset).toArray = ls at hl ⊢
  have hl : lv_has ls 2 [(0, .ref (sa (i + 1))), (1, .int j)] := hl
  have hsz : ls.size = 2 := hl.1
  have hj2 : j.toNatClampNeg < mx_slens.getD i 0 := Nat.not_le.mp fun q => hj (Or.inr q)
  obtain ⟨t1, t2, t3, t4⟩ := ms_tab i hi _ hj2
  refine lv_aload_n hx hb ms_dchr_0 rfl (lv_at hl 0 rfl) ?_
  have hcb := callB_of (R := (headSpec ms_wschr { frames := 3, cells := 0, slots := 0, locals := 64 }).room) (rm := { frames := 0, cells := 0, slots := 0, locals := 0 }) (mc := 0) (ms := 0) (bytes := prog_16_method_154_code) (maxL := 1) (ret := (some .boolean)) 0 hts ms_glat rfl rfl rfl (hts _ ms_wlat.2.1) (hts _ ms_lchr_lat) ⟨by decide +kernel, by decide +kernel, by decide +kernel⟩ ⟨by decide, by decide⟩
  refine ms_callp (v0 := some (.int 1)) (va_runV (As := []) (b := sa (i + 1)) (rest := []) ⟨hx, hb, hml, hown, hts⟩ (ms_clat (sa := sa) (base := base) (Ls := Ls) (xs := xs) (av := av) hi) ⟨hcb, hts _ ms_wlat.2.2, hts _ ms_slat⟩ ⟨ms_blind, vk_recv (adK := fun j => sa (j + 1)) (i := i) hE.2.2.1 hi hS, ms_pre hE⟩ rfl rfl hsz rfl (Nat.le_of_ble_eq_true rfl) ms_dchr_1 ⟨by decide, by decide⟩) (fun x t v z => ⟨Outcome.returned.inj z.1, z.2⟩) ?_
  refine lv_if_eq (tgt := 16) hx hb ms_dchr_4 (by decide) (fun z => absurd z (by decide)) (fun _ => ?_)
  refine lv_aload_n hx hb ms_dchr_7 rfl (lv_at hl 0 rfl) ?_
  refine vk_getf hx hb (hE.2.2.1.1 i hi).2.2.1 hS hown (hts _ ms_fval) (fun _ z => z) ms_dchr_8 ?_
  refine lv_iload_n hx hb ms_dchr_11 rfl (lv_at hl 1 rfl) ?_
  have hcb2 := callB_of (R := (headSpec ms_wschr { frames := 3, cells := 0, slots := 0, locals := 64 }).room) (rm := { frames := 2, cells := 0, slots := 0, locals := 43 }) (mc := 0) (ms := 0) (bytes := prog_17_method_2_code) (maxL := 2) (ret := (some .char)) 2 hts ms_glch rfl rfl rfl (hts _ ms_wlch.2.1) (hts _ ms_lchr_lch) ⟨by decide +kernel, by decide +kernel, by decide +kernel⟩ ⟨by decide, by decide⟩
  refine ms_callp (v0 := some (.int ((mx_byt.getD i []).getD j.toNatClampNeg 0))) (va_runS (As := [.ref (av i), .int j]) (rest := []) ⟨hx, hb, hml, hown, hts⟩ (ms_clch (sa := sa) (base := base) (Ls := Ls) (xs := xs) (av := av) hi hj) ⟨hcb2, hts _ ms_wlch.2.2⟩ ⟨ms_blind, ms_pre hE⟩ rfl rfl hsz rfl (Nat.le_of_ble_eq_true rfl) ms_dchr_12 ⟨by decide, by decide⟩) (fun x t v z => ⟨Outcome.returned.inj z.1, z.2⟩) ?_
  exact W.zret hx hb hr t2 (fun t ht hW => ⟨rfl, ht⟩) (fun q hq => by cases hq) ms_dchr_15
end MSC
section MXZ
variable {p : Program} {l : Launch} {e : Env} {R : Room} {s : State} {m : MethodId} {args : Array Value} {below : List Frame} {meth : Method} {c : Code} {H : Heap} {locs : List Loc} {cells slots : Nat} {Q : State → Prop}
variable {dC : Nat → ClassId} {dI : Nat → Nat → Nat} {tc : Nat → ClassId} {sa : Nat → Nat} {base Ls : Nat} {xs : Nat → Int32} {av : Nat → Nat} {k pc c0 s0 a : Nat} {ls : Array Slot} {L : mx_L} {h : mx_H} {st r : List Value} {s' : mx_S}
theorem mx_s_slen (C : mx_Cx dC dI tc sa base Ls xs av k p R s m args meth c c0) (hk : mx_mc k < 13) {i b n : Nat} (hd : decode (mx_mb k) pc = .ok (.invokevirtual i, 3)) (hl : mx_has k (i, 25, a, 0) = true) (X : mx_At dC dI tc sa base Ls xs k s c0 s0 L h H locs ls cells slots) (hn : mx_slen b = some n) (h8 : mx_ok8 r = true) (hrc : h.1 ≤ c0 + R.cells) (hrs : h.2.1 ≤ s0 + R.slots)
    (kk : mx_K p l e R s m args below meth c Q dC dI tc sa base Ls xs k c0 s0 (pc + 3, L, .int (Int32.ofNat n) :: r, h)) : W p l e R s m args below meth c H locs cells slots Q (F0 m pc ls ((Value.ref b :: r).map (mx_cv (mx_ad sa base)))) := by
  obtain ⟨hx, hb, hml, hown, hts, hin, hK, hE, hsz, hfr, hlo⟩ := C
  have e1 := X.2.2.2.1
  have e2 := X.2.2.2.2
  have hE2 : mx_EX sa base Ls xs av s H := hE.kept (fun q z1 z2 => X.2.1.2.1 q z1 z2)
  obtain ⟨j, hj, rfl, hjn⟩ : ∃ j, j < mx_byt.length ∧ b = mx_big + (j + 1) ∧ n = mx_slens.getD j 0 := by
    unfold mx_slen at hn
    split at hn
    · next hc =>
      have hn2 := Option.some.inj hn
      refine ⟨b - mx_big - 1, by omega, by omega, ?_⟩
      rw [(ms_tab2 _ (by omega)).1, ← hn2]
    · cases hn
  have hrc3 := (hE.2.2.1.1 j hj).1.kept X.2.1.2.1
  have hrecv : ∃ cell : Cell, H[sa (j + 1)]? = some cell ∧ cell.vm.isStatics = false ∧ s.vm.findClass "java/lang/String" = some cell.cls := vk_recv (adK := fun j => sa (j + 1)) (i := j) hE.2.2.1 hj X.2.1
  have kz : W p l e R s m args below meth c H locs cells slots Q (F0 m (pc + 3) ls (Value.int (Int32.ofNat n) :: r.map (mx_cv (mx_ad sa base)))) := kk H locs ls cells slots X
  show W p l e R s m args below meth c H locs cells slots Q (F0 m pc ls (Value.ref (mx_ad sa base (mx_big + (j + 1))) :: r.map (mx_cv (mx_ad sa base))))
  rw [mx_ad_big]
  subst hjn
  have hcb := callB_of (R := R) (rm := { frames := 1, cells := 0, slots := 0, locals := 20 }) (mc := 0) (ms := 0) (bytes := prog_16_method_54_code) (maxL := 1) (ret := (some .int)) 0 hts ms_glen rfl rfl rfl (hts _ ms_wlen.2.1) (hts _ (mx_link hk hl)) ⟨by decide +kernel, by decide +kernel, by decide +kernel⟩ ⟨by show 1 + 1 ≤ R.frames; omega, by show 8 + (1 + 11) + 20 ≤ R.locals; omega⟩
  exact ms_callp (v0 := some (.int (Int32.ofNat (mx_slens.getD j 0)))) (va_runV (As := []) (b := sa (j + 1)) (rest := r.map (mx_cv (mx_ad sa base))) ⟨hx, hb, hml, hown, hts⟩ (ms_clen (sa := sa) (base := base) (Ls := Ls) (xs := xs) (av := av) hj) ⟨hcb, hts _ ms_wlen.2.2, hts _ ms_slen⟩ ⟨ms_blind, hrecv, ms_pre hE2⟩ rfl rfl X.2.2.1.1 rfl (by show 2 * 0 + _ ≤ 8; rw [Nat.mul_zero, Nat.zero_add]; exact mx_ok8_le _ h8) hd ⟨by omega, by omega⟩) (fun x t v z => ⟨Outcome.returned.inj z.1, z.2⟩) kz
theorem mx_s_schr (C : mx_Cx dC dI tc sa base Ls xs av k p R s m args meth c c0) (hk : mx_mc k < 13) {i b n : Nat} {x : Int32} (hd : decode (mx_mb k) pc = .ok (.invokevirtual i, 3)) (hl : mx_has k (i, 26, a, 0) = true) (X : mx_At dC dI tc sa base Ls xs k s c0 s0 L h H locs ls cells slots) (hn : mx_slen b = some n) (h8 : mx_ok8 r = true) (hv : mx_vin x n = true) (hrc : h.1 ≤ c0 + R.cells) (hrs : h.2.1 ≤ s0 + R.slots)
    (kk : mx_K p l e R s m args below meth c Q dC dI tc sa base Ls xs k c0 s0 (pc + 3, L, .int ((mx_byt.getD (b - mx_big - 1) []).getD x.toNatClampNeg 0) :: r, h)) : W p l e R s m args below meth c H locs cells slots Q (F0 m pc ls ((Value.int x :: Value.ref b :: r).map (mx_cv (mx_ad sa base)))) := by
  obtain ⟨hx, hb, hml, hown, hts, hin, hK, hE, hsz, hfr, hlo⟩ := C
  have e1 := X.2.2.2.1
  have e2 := X.2.2.2.2
  have hE2 : mx_EX sa base Ls xs av s H := hE.kept (fun q z1 z2 => X.2.1.2.1 q z1 z2)
  obtain ⟨j, hj, rfl, hjn⟩ : ∃ j, j < mx_byt.length ∧ b = mx_big + (j + 1) ∧ n = mx_slens.getD j 0 := by
    unfold mx_slen at hn
    split at hn
    · next hc =>
      have hn2 := Option.some.inj hn
      refine ⟨b - mx_big - 1, by omega, by omega, ?_⟩
      rw [(ms_tab2 _ (by omega)).1, ← hn2]
    · cases hn
  have hrc3 := (hE.2.2.1.1 j hj).1.kept X.2.1.2.1
  have hrecv : ∃ cell : Cell, H[sa (j + 1)]? = some cell ∧ cell.vm.isStatics = false ∧ s.vm.findClass "java/lang/String" = some cell.cls := vk_recv (adK := fun j => sa (j + 1)) (i := j) hE.2.2.1 hj X.2.1
  have hjb : mx_big + (j + 1) - mx_big - 1 = j := by omega
  rw [hjb] at kk
  have kz : W p l e R s m args below meth c H locs cells slots Q (F0 m (pc + 3) ls (Value.int ((mx_byt.getD j []).getD x.toNatClampNeg 0) :: r.map (mx_cv (mx_ad sa base)))) := kk H locs ls cells slots X
  show W p l e R s m args below meth c H locs cells slots Q (F0 m pc ls (Value.int x :: Value.ref (mx_ad sa base (mx_big + (j + 1))) :: r.map (mx_cv (mx_ad sa base))))
  rw [mx_ad_big]
  subst hjn
  have hcb := callB_of (R := R) (rm := { frames := 3, cells := 0, slots := 0, locals := 64 }) (mc := 0) (ms := 0) (bytes := prog_16_method_56_code) (maxL := 2) (ret := (some .char)) 1 hts ms_gchr rfl rfl rfl (hts _ ms_wchr.2.1) (hts _ (mx_link hk hl)) ⟨by decide +kernel, by decide +kernel, by decide +kernel⟩ ⟨by show 3 + 1 ≤ R.frames; omega, by show 8 + (2 + 11) + 64 ≤ R.locals; omega⟩
  exact ms_callp (v0 := some (.int ((mx_byt.getD j []).getD x.toNatClampNeg 0))) (va_runV (As := [.int x]) (b := sa (j + 1)) (rest := r.map (mx_cv (mx_ad sa base))) ⟨hx, hb, hml, hown, hts⟩ (ms_cchr (sa := sa) (base := base) (Ls := Ls) (xs := xs) (av := av) hj (mx_vin_in hv)) ⟨hcb, hts _ ms_wchr.2.2, hts _ ms_schr⟩ ⟨ms_blind, hrecv, ms_pre hE2⟩ rfl rfl X.2.2.1.1 rfl (by show 2 * 0 + _ ≤ 8; rw [Nat.mul_zero, Nat.zero_add]; exact mx_ok8_le _ h8) hd ⟨by omega, by omega⟩) (fun x t v z => ⟨Outcome.returned.inj z.1, z.2⟩) kz
end MXZ
end
section
/-! ===== the small machine's step, all of it ===== -/
theorem mx_mc_lt : ∀ k, k < 215 → mx_mc k < 13 := by decide +kernel
theorem mx_cal_ne {a pc : Nat} {vs r : List Value} {s' : mx_S} (h : mx_cal a vs pc r = some (.inl s')) : False := by
  unfold mx_cal at h
  split at h <;> cases h
/-- nothing is taken away -/
def mx_le (h h' : mx_H) : Prop := h.1 ≤ h'.1 ∧ h.2.1 ≤ h'.2.1
theorem mx_le_rf (h : mx_H) : mx_le h h := ⟨Nat.le_refl _, Nat.le_refl _⟩
theorem mx_le_new (h : mx_H) (k : Nat) (e : mx_E) : mx_le h (mx_new h k e) := ⟨Nat.le_succ _, Nat.le_add_right _ _⟩
theorem mx_le_set (h : mx_H) (k : Nat) (e : mx_E) : mx_le h (mx_set h k e) := ⟨Nat.le_refl _, Nat.le_refl _⟩
theorem mx_le_tr {a b c : mx_H} (h1 : mx_le a b) (h2 : mx_le b c) : mx_le a c := ⟨Nat.le_trans h1.1 h2.1, Nat.le_trans h1.2 h2.2⟩
theorem mx_psh_le {v : Option Value} {pc : Nat} {L : mx_L} {st : List Value} {h : mx_H} {s' : mx_S} (hs : mx_psh v pc L st h = some (.inl s')) : mx_le h s'.2.2.2 := by
  unfold mx_psh at hs
  split at hs <;> cases hs
  exact mx_le_rf _
theorem mx_sto_le {t i pc : Nat} {L : mx_L} {st : List Value} {h : mx_H} {s' : mx_S} (hs : mx_sto t i pc L st h = some (.inl s')) : mx_le h s'.2.2.2 := by
  unfold mx_sto at hs
  split at hs
  · next v r =>
    by_cases hc : mx_tag v = t ∧ i + (if t = 1 then 1 else 0) < L.length
    · rw [if_pos hc] at hs; cases hs; exact mx_le_rf _
    · rw [if_neg hc] at hs; cases hs
  · cases hs
theorem mx_nat_le {j pc : Nat} {L : mx_L} {st : List Value} {h : mx_H} {s' : mx_S} (hs : mx_nat j pc L st h = some (.inl s')) : mx_le h s'.2.2.2 := by
  unfold mx_nat at hs
  repeat' split at hs
  all_goals first | cases hs | skip
  all_goals first | exact mx_le_rf _ | exact mx_le_set _ _ _ | exact mx_le_new _ _ _
theorem mx_inv_le {a pc : Nat} {v : Int} {L : mx_L} {st : List Value} {h : mx_H} {s' : mx_S} (hs : mx_inv a v pc L st h = some (.inl s')) : mx_le h s'.2.2.2 := by
  unfold mx_inv at hs
  repeat' split at hs
  all_goals first | exact (mx_cal_ne hs).elim | exact mx_nat_le hs | cases hs
theorem mx_do_le {k a pc : Nat} {ins : Jvm.ClassFile.Instr} {v : Int} {L : mx_L} {st : List Value} {h : mx_H} {s' : mx_S} (hs : mx_do k ins a v pc L st h = some (.inl s')) : mx_le h s'.2.2.2 := by
  unfold mx_do at hs
  split at hs
  all_goals first | exact mx_psh_le hs | exact mx_sto_le hs | exact mx_inv_le hs | skip
  all_goals try simp only [mx_go, mx_if, mx_jmp, mx_ald, mx_ast, mx_nwa, mx_rv] at hs
  all_goals repeat' split at hs
  all_goals first | exact mx_psh_le hs | (cases hs <;> first | exact mx_le_rf _ | exact mx_le_set _ _ _ | exact mx_le_new _ _ _)
theorem mx_run_le : ∀ (n d k : Nat) (s : mx_S) (r : Option Value) (h' : mx_H), mx_run n d k s = some (r, h') → mx_le s.2.2.2 h' := by
  intro n
  induction n with
  | zero => intro d k s r h' h; simp [mx_run] at h
  | succ n ih =>
    intro d k s r h' h
    rw [mx_run] at h
    cases hs : mx_stp k s with
    | none => rw [hs] at h; simp at h
    | some z =>
      rw [hs] at h
      obtain s' | ⟨a, vs, pc, w⟩ | v := z
      · have h1 : mx_le s.2.2.2 s'.2.2.2 := by
          unfold mx_stp at hs
          split at hs
          · cases hs
          · exact mx_do_le hs
        exact mx_le_tr h1 (ih _ _ _ _ _ h)
      · cases d with
        | zero => simp at h
        | succ d =>
          dsimp only at h
          cases h1 : mx_run n d a (0, mx_ent (mx_ml a) vs, [], s.2.2.2) with
          | none => rw [h1] at h; simp at h
          | some y =>
            rw [h1] at h
            obtain ⟨v1, g1⟩ := y
            have z1 := ih _ _ _ _ _ h1
            have z2 := ih _ _ _ _ _ h
            exact mx_le_tr z1 z2
      · simp only [Option.some.injEq, Prod.mk.injEq] at h
        rw [← h.2]
        exact mx_le_rf _
section MXT
variable {p : Program} {l : Launch} {e : Env} {R : Room} {s : State} {m : MethodId} {args : Array Value} {below : List Frame} {meth : Method} {c : Code} {H : Heap} {locs : List Loc} {cells slots : Nat} {Q : State → Prop}
variable {dC : Nat → ClassId} {dI : Nat → Nat → Nat} {tc : Nat → ClassId} {sa : Nat → Nat} {base Ls : Nat} {xs : Nat → Int32} {av : Nat → Nat} {k pc c0 s0 a : Nat} {ls : Array Slot} {L : mx_L} {h : mx_H} {st r : List Value} {s' : mx_S}
theorem mx_s_nat (C : mx_Cx dC dI tc sa base Ls xs av k p R s m args meth c c0) (hk : mx_mc k < 13) {i j : Nat} {ins : Jvm.ClassFile.Instr} (hcase : (ins = .invokevirtual i ∧ (j = 24 ∨ j = 25 ∨ j = 26)) ∨ (ins = .invokestatic i ∧ (j = 20 ∨ j = 21 ∨ j = 22 ∨ j = 23)) ∨ (ins = .invokespecial i ∧ j = 27)) (hd : decode (mx_mb k) pc = .ok (ins, 3)) (hl : mx_has k (i, j, a, 0) = true) (X : mx_At dC dI tc sa base Ls xs k s c0 s0 L h H locs ls cells slots) (hs : mx_nat j pc L st h = some (.inl s')) (hrc : s'.2.2.2.1 ≤ c0 + R.cells) (hrs : s'.2.2.2.2.1 ≤ s0 + R.slots)
    (kk : mx_K p l e R s m args below meth c Q dC dI tc sa base Ls xs k c0 s0 s') : W p l e R s m args below meth c H locs cells slots Q (F0 m pc ls (st.map (mx_cv (mx_ad sa base)))) := by
  rcases hcase with ⟨rfl, rfl | rfl | rfl⟩ | ⟨rfl, rfl | rfl | rfl | rfl⟩ | ⟨rfl, rfl⟩
  · simp only [mx_nat] at hs
    split at hs
    · split at hs
      · next n f hh =>
        split at hs
        · next hc =>
          cases hs
          exact mx_s_clone C hk hd hl X hh hc.1 hc.2.1 hc.2.2 hrc hrs kk
        · cases hs
      · cases hs
    · cases hs
  · simp only [mx_nat] at hs
    split at hs
    · split at hs
      · next n hn =>
        split at hs
        · next hc =>
          cases hs
          exact mx_s_slen C hk hd hl X hn hc hrc hrs kk
        · cases hs
      · cases hs
    · cases hs
  · simp only [mx_nat] at hs
    split at hs
    · split at hs
      · next n hn =>
        split at hs
        · next hc =>
          cases hs
          exact mx_s_schr C hk hd hl X hn hc.1 hc.2 hrc hrs kk
        · cases hs
      · cases hs
    · cases hs
  · simp only [mx_nat] at hs
    split at hs
    · split at hs
      · next hc =>
        cases hs
        exact mx_s_max C hk hd hl X hc hrc hrs kk
      · cases hs
    · cases hs
  · simp only [mx_nat] at hs
    split at hs
    · split at hs
      · next hc =>
        cases hs
        exact mx_s_min C hk hd hl X hc hrc hrs kk
      · cases hs
    · cases hs
  · simp only [mx_nat] at hs
    split at hs
    · split at hs
      · next hc =>
        cases hs
        exact mx_s_abs C hk hd hl X hc hrc hrs kk
      · cases hs
    · cases hs
  · simp only [mx_nat] at hs
    split at hs
    · split at hs
      · next h0 h1 =>
        split at hs
        · next hc =>
          cases hs
          exact mx_s_copy C hk hd hl X h0 h1 hc kk
        · cases hs
      · cases hs
    · cases hs
  · simp only [mx_nat] at hs
    split at hs
    · split at hs
      · next hc =>
        cases hs
        exact mx_s_obj C hk hd hl X hc kk
      · cases hs
    · cases hs
theorem mx_s_all (C : mx_Cx dC dI tc sa base Ls xs av k p R s m args meth c c0) (hk : k < 215) (X : mx_At dC dI tc sa base Ls xs k s c0 s0 L h H locs ls cells slots) (hs : mx_stp k (pc, L, st, h) = some (.inl s')) (hrc : s'.2.2.2.1 ≤ c0 + R.cells) (hrs : s'.2.2.2.2.1 ≤ s0 + R.slots)
    (kk : mx_K p l e R s m args below meth c Q dC dI tc sa base Ls xs k c0 s0 s') : W p l e R s m args below meth c H locs cells slots Q (F0 m pc ls (st.map (mx_cv (mx_ad sa base)))) := by
  have hmc := mx_mc_lt k hk
  unfold mx_stp at hs
  split at hs
  · cases hs
  · next e0 he0 =>
    have hc := mx_tb_chk (mx_chk_lt k hk) he0
    obtain ⟨ins, a, v⟩ := e0
    simp only [mx_chk, Bool.and_eq_true, decide_eq_true_eq] at hc
    obtain ⟨hd, hl⟩ := hc
    dsimp only at hs hd hl
    have hx := C.1
    have hb := C.2.1
    unfold mx_do at hs
    split at hs
    · exact mx_s_load hx hb _ (Or.inl ⟨rfl, Or.inl ⟨rfl, rfl⟩⟩) hd X hs kk
    · exact mx_s_load hx hb _ (Or.inl ⟨rfl, Or.inr ⟨rfl, _, rfl, rfl⟩⟩) hd X hs kk
    · exact mx_s_load hx hb _ (Or.inr (Or.inl ⟨rfl, Or.inl ⟨rfl, rfl⟩⟩)) hd X hs kk
    · exact mx_s_load hx hb _ (Or.inr (Or.inl ⟨rfl, Or.inr ⟨rfl, _, rfl, rfl⟩⟩)) hd X hs kk
    · exact mx_s_load hx hb _ (Or.inr (Or.inr ⟨rfl, Or.inl ⟨rfl, rfl⟩⟩)) hd X hs kk
    · exact mx_s_load hx hb _ (Or.inr (Or.inr ⟨rfl, Or.inr ⟨rfl, _, rfl, rfl⟩⟩)) hd X hs kk
    · exact mx_s_store hx hb _ (Or.inl ⟨rfl, Or.inl ⟨rfl, rfl⟩⟩) hd X hs kk
    · exact mx_s_store hx hb _ (Or.inl ⟨rfl, Or.inr ⟨rfl, _, rfl, rfl⟩⟩) hd X hs kk
    · exact mx_s_store hx hb _ (Or.inr (Or.inl ⟨rfl, Or.inl ⟨rfl, rfl⟩⟩)) hd X hs kk
    · exact mx_s_store hx hb _ (Or.inr (Or.inl ⟨rfl, Or.inr ⟨rfl, _, rfl, rfl⟩⟩)) hd X hs kk
    · exact mx_s_store hx hb _ (Or.inr (Or.inr ⟨rfl, Or.inl ⟨rfl, rfl⟩⟩)) hd X hs kk
    · exact mx_s_store hx hb _ (Or.inr (Or.inr ⟨rfl, Or.inr ⟨rfl, _, rfl, rfl⟩⟩)) hd X hs kk
    · split at hs
      · next x hx0 =>
        cases hs
        exact mx_s_iinc hx hb hd X hx0 kk
      · cases hs
    · cases hs
      have hl2 : (pc : Int) + _ = (a : Int) := of_decide_eq_true hl
      exact lv_goto hx hb hd hl2 (kk H locs ls cells slots X)
    · split at hs
      · have hl2 : (pc : Int) + _ = (a : Int) := of_decide_eq_true hl
        exact mx_s_if hx hb hd hl2 X hs kk
      · cases hs
    · split at hs
      · have hl2 : (pc : Int) + _ = (a : Int) := of_decide_eq_true hl
        exact mx_s_icmp hx hb hd hl2 X hs kk
      · cases hs
    · have hl2 : (pc : Int) + _ = (a : Int) := of_decide_eq_true hl
      split at hs
      · cases hs
        exact lv_ifnullN hx hb hd hl2 (kk H locs ls cells slots X)
      · cases hs
        exact lv_ifnull hx hb hd (kk H locs ls cells slots X)
      · cases hs
    · have hl2 : (pc : Int) + _ = (a : Int) := of_decide_eq_true hl
      split at hs
      · cases hs
        exact lv_ifnonnullN hx hb hd (kk H locs ls cells slots X)
      · cases hs
        exact lv_ifnonnull hx hb hd hl2 (kk H locs ls cells slots X)
      · cases hs
    · split at hs
      · exact mx_s_tsw hx hb hd X hs kk
      · cases hs
    · split at hs
      · exact mx_s_lsw hx hb hd hl X hs kk
      · cases hs
    · split at hs
      · split at hs
        · next hh =>
          split at hs
          · next hci => exact mx_s_getf C hmc hd hl X hh hci hs kk
          · cases hs
        · cases hs
      · cases hs
    · have hl2 := Bool.and_eq_true_iff.mp hl
      split at hs
      · split at hs
        · next hh =>
          split at hs
          · next hci =>
            cases hs
            exact mx_s_putf C hmc hd hl2.1 hl2.2 X hh hci.1 hci.2.1 hci.2.2 kk
          · cases hs
        · cases hs
      · cases hs
    · exact mx_s_ald C (Or.inl ⟨rfl, rfl⟩) hd X hs kk
    · exact mx_s_ald C (Or.inr (Or.inl ⟨rfl, rfl⟩)) hd X hs kk
    · exact mx_s_ald C (Or.inr (Or.inr ⟨rfl, rfl⟩)) hd X hs kk
    · exact mx_s_ast C (Or.inl ⟨rfl, rfl, rfl⟩) hd X hs kk
    · exact mx_s_ast C (Or.inr (Or.inl ⟨rfl, rfl, rfl⟩)) hd X hs kk
    · exact mx_s_ast C (Or.inr (Or.inr ⟨rfl, rfl, rfl⟩)) hd X hs kk
    · split at hs
      · split at hs
        · next hh =>
          split at hs
          · next hc =>
            cases hs
            exact mx_s_aald C hd X hh hc.1 hc.2.1 hc.2.2.1 hc.2.2.2 kk
          · cases hs
        · cases hs
      · cases hs
    · split at hs
      · split at hs
        · next hh hw =>
          split at hs
          · next hc =>
            cases hs
            exact mx_s_aast C hd X hh hw hc.1 hc.2.1 hc.2.2.1 hc.2.2.2.1 hc.2.2.2.2 kk
          · cases hs
        · cases hs
      · cases hs
    · split at hs
      · split at hs
        · next hh =>
          split at hs
          · next hc =>
            cases hs
            exact mx_s_alen C hd X hh hc kk
          · cases hs
        · cases hs
      · cases hs
    · split at hs
      · exact mx_s_nwa C (Or.inl ⟨rfl, rfl, rfl⟩) hd X hs hrc hrs kk
      · exact mx_s_nwa C (Or.inr (Or.inl ⟨rfl, rfl, rfl⟩)) hd X hs hrc hrs kk
      · exact mx_s_nwa C (Or.inr (Or.inr ⟨rfl, rfl, rfl⟩)) hd X hs hrc hrs kk
      · cases hs
    · split at hs
      · next hc => exact mx_s_nwq C hmc hd hl hc.1 hc.2 X hs hrc hrs kk
      · cases hs
    · split at hs
      · next hc =>
        cases hs
        exact mx_s_new C hmc hd hl hc X hrc hrs kk
      · cases hs
    · split at hs
      · split at hs
        · next hh =>
          split at hs
          · next hc =>
            cases hs
            obtain ⟨rfl, hc2⟩ := hc
            exact mx_s_castI C hmc hd hl X hh hc2 kk
          · cases hs
        · cases hs
      · cases hs
    · split at hs
      · next ha =>
        cases hs
        have hl2 : (if a = 0 then mx_has k (_, 9, 0, v) else mx_has k (_, 11, a, 0)) = true := hl
        rw [if_pos ha] at hl2
        exact mx_s_ldcI C hmc hd hl2 X kk
      · next ha =>
        cases hs
        have hl2 : (if a = 0 then mx_has k (_, 9, 0, v) else mx_has k (_, 11, a, 0)) = true := hl
        rw [if_neg ha] at hl2
        exact mx_s_ldcS C hmc ha hd hl2 X kk
    · cases hs
      exact mx_s_ldcW C hmc hd (Bool.and_eq_true_iff.mp hl).2 X kk
    · cases hs
      exact mx_s_ldc2 C hmc hd hl X kk
    · obtain ⟨hl1, hl2⟩ := Bool.and_eq_true_iff.mp hl
      have hj : ∀ j : Nat, ([1, 24, 25, 26] : List Nat).contains j = true → j = 1 ∨ j = 24 ∨ j = 25 ∨ j = 26 := by
        intro j hj
        simpa using hj
      unfold mx_inv at hs
      rcases hj _ hl2 with hj | hj | hj | hj
      · rw [hj] at hs
        exfalso
        repeat' split at hs
        all_goals first | exact mx_cal_ne hs | cases hs
      · rw [hj] at hs hl1
        exact mx_s_nat C hmc (Or.inl ⟨rfl, Or.inl rfl⟩) hd hl1 X hs hrc hrs kk
      · rw [hj] at hs hl1
        exact mx_s_nat C hmc (Or.inl ⟨rfl, Or.inr (Or.inl rfl)⟩) hd hl1 X hs hrc hrs kk
      · rw [hj] at hs hl1
        exact mx_s_nat C hmc (Or.inl ⟨rfl, Or.inr (Or.inr rfl)⟩) hd hl1 X hs hrc hrs kk
    · obtain ⟨hl1, hl2⟩ := Bool.and_eq_true_iff.mp hl
      have hj : ∀ j : Nat, ([3, 4, 20, 21, 22, 23] : List Nat).contains j = true → j = 3 ∨ j = 4 ∨ j = 20 ∨ j = 21 ∨ j = 22 ∨ j = 23 := by
        intro j hj
        simpa using hj
      unfold mx_inv at hs
      rcases hj _ hl2 with hj | hj | hj | hj | hj | hj
      · rw [hj] at hs
        exfalso
        repeat' split at hs
        all_goals first | exact mx_cal_ne hs | cases hs
      · rw [hj] at hs
        exfalso
        repeat' split at hs
        all_goals first | exact mx_cal_ne hs | cases hs
      · rw [hj] at hs hl1
        exact mx_s_nat C hmc (Or.inr (Or.inl ⟨rfl, Or.inl rfl⟩)) hd hl1 X hs hrc hrs kk
      · rw [hj] at hs hl1
        exact mx_s_nat C hmc (Or.inr (Or.inl ⟨rfl, Or.inr (Or.inl rfl)⟩)) hd hl1 X hs hrc hrs kk
      · rw [hj] at hs hl1
        exact mx_s_nat C hmc (Or.inr (Or.inl ⟨rfl, Or.inr (Or.inr (Or.inl rfl))⟩)) hd hl1 X hs hrc hrs kk
      · rw [hj] at hs hl1
        exact mx_s_nat C hmc (Or.inr (Or.inl ⟨rfl, Or.inr (Or.inr (Or.inr rfl))⟩)) hd hl1 X hs hrc hrs kk
    · obtain ⟨hl1, hl2⟩ := Bool.and_eq_true_iff.mp hl
      have hj : ∀ j : Nat, ([5, 6, 27] : List Nat).contains j = true → j = 5 ∨ j = 6 ∨ j = 27 := by
        intro j hj
        simpa using hj
      unfold mx_inv at hs
      rcases hj _ hl2 with hj | hj | hj
      · rw [hj] at hs
        exfalso
        repeat' split at hs
        all_goals first | exact mx_cal_ne hs | cases hs
      · rw [hj] at hs
        exfalso
        repeat' split at hs
        all_goals first | exact mx_cal_ne hs | cases hs
      · rw [hj] at hs hl1
        exact mx_s_nat C hmc (Or.inr (Or.inr ⟨rfl, rfl⟩)) hd hl1 X hs hrc hrs kk
    · simp only [mx_rv] at hs
      repeat' split at hs
      all_goals cases hs
    · simp only [mx_rv] at hs
      repeat' split at hs
      all_goals cases hs
    · simp only [mx_rv] at hs
      repeat' split at hs
      all_goals cases hs
    · simp only [mx_rv] at hs
      repeat' split at hs
      all_goals cases hs
    · split at hs
      · next st' hst =>
        cases hs
        refine mx_s_sk hx hb ?_ hst (kk H locs ls cells slots X)
        unfold mx_dl at hd
        split at hd
        · simp [mx_sk] at hst
        · simp [mx_sk] at hst
        · exact hd
      · cases hs
end MXT
end
section
/-! ===== a run of the small machine is a run of the machine ===== -/
/-- how a method ends -/
def mx_rk (k pc : Nat) (st : List Value) (v : Option Value) : Prop :=
  (decode (mx_mb k) pc = .ok (.ireturn, 1) ∧ ∃ x, v = some (.int x) ∧ st = [.int x] ∧ mx_ri (mx_mr k) x = true) ∨
  (decode (mx_mb k) pc = .ok (.lreturn, 1) ∧ ∃ x, v = some (.long x) ∧ st = [.long x] ∧ mx_mr k = some .long) ∨
  (decode (mx_mb k) pc = .ok (.areturn, 1) ∧ ∃ w, v = some w ∧ st = [w] ∧ mx_ro (mx_mr k) = true ∧ (w = .null ∨ ∃ b, w = .ref b)) ∨
  (decode (mx_mb k) pc = .ok (.return_, 1) ∧ v = none ∧ st = [] ∧ mx_mr k = none)
theorem mx_psh_nr {v : Option Value} {pc : Nat} {L : mx_L} {st : List Value} {h : mx_H} {z : (Nat × List Value × Nat × List Value) ⊕ Option Value} (hs : mx_psh v pc L st h = some (.inr z)) : False := by
  unfold mx_psh at hs
  split at hs <;> cases hs
theorem mx_sto_nr {t i pc : Nat} {L : mx_L} {st : List Value} {h : mx_H} {z : (Nat × List Value × Nat × List Value) ⊕ Option Value} (hs : mx_sto t i pc L st h = some (.inr z)) : False := by
  unfold mx_sto at hs
  split at hs
  · next v r =>
    by_cases hc : mx_tag v = t ∧ i + (if t = 1 then 1 else 0) < L.length
    · rw [if_pos hc] at hs; cases hs
    · rw [if_neg hc] at hs; cases hs
  · cases hs
theorem mx_nat_nr {j pc : Nat} {L : mx_L} {st : List Value} {h : mx_H} {z : (Nat × List Value × Nat × List Value) ⊕ Option Value} (hs : mx_nat j pc L st h = some (.inr z)) : False := by
  unfold mx_nat at hs
  repeat' split at hs
  all_goals cases hs
theorem mx_cal_of {a pc : Nat} {vs r : List Value} {z : (Nat × List Value × Nat × List Value) ⊕ Option Value} (hs : mx_cal a vs pc r = some (.inr z)) : z = .inl (a, vs, pc, r) ∧ mx_ok8 r = true ∧ (mx_pl vs).length ≤ mx_ml a := by
  unfold mx_cal at hs
  split at hs
  · next hc => cases hs; exact ⟨rfl, hc⟩
  · cases hs
theorem mx_inv_nv {a pc : Nat} {v : Int} {L : mx_L} {st : List Value} {h : mx_H} {w : Option Value} (hs : mx_inv a v pc L st h = some (.inr (.inr w))) : False := by
  unfold mx_inv at hs
  repeat' split at hs
  all_goals first | exact mx_nat_nr hs | (cases hs; done) | (have z := (mx_cal_of hs).1; cases z)
theorem mx_rk_of {k pc : Nat} {L : mx_L} {st : List Value} {h : mx_H} {v : Option Value} (hk : k < 215) (hs : mx_stp k (pc, L, st, h) = some (.inr (.inr v))) : mx_rk k pc st v := by
  unfold mx_stp at hs
  split at hs
  · cases hs
  · next e0 he0 =>
    have hc := mx_tb_chk (mx_chk_lt k hk) he0
    obtain ⟨ins, a, w⟩ := e0
    simp only [mx_chk, Bool.and_eq_true, decide_eq_true_eq] at hc
    obtain ⟨hd, hl⟩ := hc
    dsimp only at hs hd hl
    unfold mx_do at hs
    split at hs
    all_goals first | exact (mx_psh_nr hs).elim | exact (mx_sto_nr hs).elim | exact (mx_inv_nv hs).elim | skip
    all_goals try simp only [mx_go, mx_if, mx_jmp, mx_ald, mx_ast, mx_nwa, mx_rv] at hs
    all_goals repeat' split at hs
    all_goals first | exact (mx_psh_nr hs).elim | (cases hs; done) | skip
    · next hri => cases hs; exact Or.inl ⟨hd, _, rfl, rfl, hri⟩
    · next hri => cases hs; exact Or.inr (Or.inl ⟨hd, _, rfl, rfl, hri⟩)
    · next hri => cases hs; exact Or.inr (Or.inr (Or.inl ⟨hd, _, rfl, rfl, hri, Or.inr ⟨_, rfl⟩⟩))
    · next hri => cases hs; exact Or.inr (Or.inr (Or.inl ⟨hd, _, rfl, rfl, hri, Or.inl rfl⟩))
    · next hri => cases hs; exact Or.inr (Or.inr (Or.inr ⟨hd, rfl, rfl, hri⟩))
/-- how a method is called -/
def mx_ck (k pc a : Nat) (h : mx_H) (st vs r : List Value) : Prop := mx_ok8 r = true ∧ (mx_pl vs).length ≤ mx_ml a ∧
  ((∃ (i b : Nat) (As fs : List Value), decode (mx_mb k) pc = .ok (.invokevirtual i, 3) ∧ mx_has k (i, 1, a, 0) = true ∧ vs = .ref b :: As ∧ st = As.reverse ++ .ref b :: r ∧ As.length = mx_np a ∧ h.2.2 b = .inr (mx_mc a, fs)) ∨
   (∃ (i j : Nat), (j = 3 ∨ j = 4) ∧ decode (mx_mb k) pc = .ok (.invokestatic i, 3) ∧ mx_has k (i, j, a, 0) = true ∧ st = vs.reverse ++ r ∧ vs.length = mx_np a) ∨
   (∃ (i j b : Nat) (As : List Value), (j = 5 ∨ j = 6) ∧ decode (mx_mb k) pc = .ok (.invokespecial i, 3) ∧ mx_has k (i, j, a, 0) = true ∧ vs = .ref b :: As ∧ st = As.reverse ++ .ref b :: r ∧ As.length = mx_np a))
theorem mx_inv_1 {a pc : Nat} {v : Int} {L : mx_L} {st : List Value} {h : mx_H} {x : Option mx_R} (hv : v.toNat = 1) (hs : mx_inv a v pc L st h = x) : (if (st.take (mx_np a)).length = mx_np a then match st.drop (mx_np a) with
      | .ref b :: r => match h.2.2 b with
        | .inr (ci, _) => if ci = mx_mc a then mx_cal a (.ref b :: (st.take (mx_np a)).reverse) (pc + 3) r else none
        | _ => none
      | _ => none
    else none) = x := by
  unfold mx_inv at hs
  rw [hv] at hs
  exact hs
theorem mx_inv_3 {a pc : Nat} {v : Int} {L : mx_L} {st : List Value} {h : mx_H} {x : Option mx_R} (hv : v.toNat = 3 ∨ v.toNat = 4) (hs : mx_inv a v pc L st h = x) : (if (st.take (mx_np a)).length = mx_np a then mx_cal a (st.take (mx_np a)).reverse (pc + 3) (st.drop (mx_np a)) else none) = x := by
  unfold mx_inv at hs
  rcases hv with hv | hv <;> rw [hv] at hs <;> exact hs
theorem mx_inv_5 {a pc : Nat} {v : Int} {L : mx_L} {st : List Value} {h : mx_H} {x : Option mx_R} (hv : v.toNat = 5 ∨ v.toNat = 6) (hs : mx_inv a v pc L st h = x) : (if (st.take (mx_np a)).length = mx_np a then match st.drop (mx_np a) with
      | .ref b :: r => mx_cal a (.ref b :: (st.take (mx_np a)).reverse) (pc + 3) r
      | _ => none
    else none) = x := by
  unfold mx_inv at hs
  rcases hv with hv | hv <;> rw [hv] at hs <;> exact hs
theorem mx_inv_n {a pc j : Nat} {v : Int} {L : mx_L} {st : List Value} {h : mx_H} {x : Option mx_R} (hv : v.toNat = j) (hj : 20 ≤ j) (hs : mx_inv a v pc L st h = x) : mx_nat j pc L st h = x := by
  unfold mx_inv at hs
  rw [hv] at hs
  split at hs
  · omega
  · omega
  · omega
  · omega
  · omega
  · exact hs
theorem mx_ck_of {k pc a pc' : Nat} {L : mx_L} {st vs r : List Value} {h : mx_H} (hk : k < 215) (hs : mx_stp k (pc, L, st, h) = some (.inr (.inl (a, vs, pc', r)))) : pc' = pc + 3 ∧ mx_ck k pc a h st vs r := by
  have htd : ∀ n : Nat, st.take n ++ st.drop n = st := fun n => List.take_append_drop n st
  unfold mx_stp at hs
  split at hs
  · cases hs
  · next e0 he0 =>
    have hc := mx_tb_chk (mx_chk_lt k hk) he0
    obtain ⟨ins, a0, w⟩ := e0
    simp only [mx_chk, Bool.and_eq_true, decide_eq_true_eq] at hc
    obtain ⟨hd, hl⟩ := hc
    dsimp only at hs hd hl
    unfold mx_do at hs
    split at hs
    all_goals first | exact (mx_psh_nr hs).elim | exact (mx_sto_nr hs).elim | skip
    case h_39 =>
      obtain ⟨hl1, hl2⟩ := Bool.and_eq_true_iff.mp hl
      have hj : ∀ j : Nat, ([1, 24, 25, 26] : List Nat).contains j = true → j = 1 ∨ j = 24 ∨ j = 25 ∨ j = 26 := by
        intro j hj
        simpa using hj
      rcases hj _ hl2 with hj | hj | hj | hj
      · have hs := mx_inv_1 hj hs
        rw [hj] at hl1
        split at hs
        · next hn =>
          split at hs
          · next b r' hdr =>
            split at hs
            · next ci fs hh =>
              split at hs
              · next hci =>
                obtain ⟨z, z1, z2⟩ := mx_cal_of hs
                cases z
                subst hci
                exact ⟨rfl, z1, z2, Or.inl ⟨_, b, _, fs, hd, hl1, rfl, by rw [List.reverse_reverse, ← hdr]; exact (htd _).symm, by rw [List.length_reverse]; exact hn, hh⟩⟩
              · cases hs
            · cases hs
          · cases hs
        · cases hs
      · exact (mx_nat_nr (mx_inv_n hj (by omega) hs)).elim
      · exact (mx_nat_nr (mx_inv_n hj (by omega) hs)).elim
      · exact (mx_nat_nr (mx_inv_n hj (by omega) hs)).elim
    case h_40 =>
      obtain ⟨hl1, hl2⟩ := Bool.and_eq_true_iff.mp hl
      have hj : ∀ j : Nat, ([3, 4, 20, 21, 22, 23] : List Nat).contains j = true → j = 3 ∨ j = 4 ∨ j = 20 ∨ j = 21 ∨ j = 22 ∨ j = 23 := by
        intro j hj
        simpa using hj
      rcases hj _ hl2 with hj | hj | hj | hj | hj | hj
      · have hs := mx_inv_3 (Or.inl hj) hs
        rw [hj] at hl1
        split at hs
        · next hn =>
          obtain ⟨z, z1, z2⟩ := mx_cal_of hs
          cases z
          exact ⟨rfl, z1, z2, Or.inr (Or.inl ⟨_, 3, Or.inl rfl, hd, hl1, by rw [List.reverse_reverse]; exact (htd _).symm, by rw [List.length_reverse]; exact hn⟩)⟩
        · cases hs
      · have hs := mx_inv_3 (Or.inr hj) hs
        rw [hj] at hl1
        split at hs
        · next hn =>
          obtain ⟨z, z1, z2⟩ := mx_cal_of hs
          cases z
          exact ⟨rfl, z1, z2, Or.inr (Or.inl ⟨_, 4, Or.inr rfl, hd, hl1, by rw [List.reverse_reverse]; exact (htd _).symm, by rw [List.length_reverse]; exact hn⟩)⟩
        · cases hs
      · exact (mx_nat_nr (mx_inv_n hj (by omega) hs)).elim
      · exact (mx_nat_nr (mx_inv_n hj (by omega) hs)).elim
      · exact (mx_nat_nr (mx_inv_n hj (by omega) hs)).elim
      · exact (mx_nat_nr (mx_inv_n hj (by omega) hs)).elim
    case h_41 =>
      obtain ⟨hl1, hl2⟩ := Bool.and_eq_true_iff.mp hl
      have hj : ∀ j : Nat, ([5, 6, 27] : List Nat).contains j = true → j = 5 ∨ j = 6 ∨ j = 27 := by
        intro j hj
        simpa using hj
      rcases hj _ hl2 with hj | hj | hj
      · have hs := mx_inv_5 (Or.inl hj) hs
        rw [hj] at hl1
        split at hs
        · next hn =>
          split at hs
          · next b r' hdr =>
            obtain ⟨z, z1, z2⟩ := mx_cal_of hs
            cases z
            exact ⟨rfl, z1, z2, Or.inr (Or.inr ⟨_, 5, b, _, Or.inl rfl, hd, hl1, rfl, by rw [List.reverse_reverse, ← hdr]; exact (htd _).symm, by rw [List.length_reverse]; exact hn⟩)⟩
          · cases hs
        · cases hs
      · have hs := mx_inv_5 (Or.inr hj) hs
        rw [hj] at hl1
        split at hs
        · next hn =>
          split at hs
          · next b r' hdr =>
            obtain ⟨z, z1, z2⟩ := mx_cal_of hs
            cases z
            exact ⟨rfl, z1, z2, Or.inr (Or.inr ⟨_, 6, b, _, Or.inr rfl, hd, hl1, rfl, by rw [List.reverse_reverse, ← hdr]; exact (htd _).symm, by rw [List.length_reverse]; exact hn⟩)⟩
          · cases hs
        · cases hs
      · exact (mx_nat_nr (mx_inv_n hj (by omega) hs)).elim
    all_goals try simp only [mx_go, mx_if, mx_jmp, mx_ald, mx_ast, mx_nwa, mx_rv] at hs
    all_goals repeat' split at hs
    all_goals first | exact (mx_psh_nr hs).elim | (cases hs; done)
/-- what the words of a method need: its code, the tables' good words -/
def mx_ws (k : Nat) : List Cond := Cond.code (mx_my k) (mx_mb k) (mx_ml k) (mx_mr k) :: mx_ts
theorem mx_ws_good {k : Nat} (hk : k < 214) : GoodIn mx_ts (mx_ws k) := by
  intro w hw
  rcases List.mem_cons.mp hw with rfl | hw
  · have h := (mx_okm k hk).2.2.2.2.1
    exact ⟨h, good_of_word (List.mem_filter.mp h).2⟩
  · exact ⟨hw, good_of_word (List.mem_filter.mp hw).2⟩
set_option maxRecDepth 10000 in
theorem mx_room {z d x : Nat} (h : z ≤ 20) (hlo : 40 * (d + 1) + 400 ≤ x) : 8 + (z + 11) + (40 * d + 400) ≤ x := by omega
theorem mx_cn_cl : ∀ (c : Nat) (q : vw_C), mx_cl[c]? = some q → q.1 = mx_cn c := by
  intro c q hq
  have hlt : c < 10 := (List.getElem?_eq_some_iff.mp hq).1
  match c, hlt, hq with
  | 0, _, hq => cases hq; rfl
  | 1, _, hq => cases hq; rfl
  | 2, _, hq => cases hq; rfl
  | 3, _, hq => cases hq; rfl
  | 4, _, hq => cases hq; rfl
  | 5, _, hq => cases hq; rfl
  | 6, _, hq => cases hq; rfl
  | 7, _, hq => cases hq; rfl
  | 8, _, hq => cases hq; rfl
  | 9, _, hq => cases hq; rfl
theorem mx_ini_ret : ∀ k, k < 214 → (mx_my k).name = "<init>" → mx_mr k = none := by decide +kernel
theorem mx_EX_warm {sa : Nat → Nat} {base Ls : Nat} {xs : Nat → Int32} {av : Nat → Nat} {s U : State} {H : Heap} (hW : s.WarmedH U.vm) (h : mx_EX sa base Ls xs av s H) : mx_EX sa base Ls xs av U H := by
  obtain ⟨h1, h2, h3, h4, h5⟩ := h
  exact ⟨h1, h2.moved hW.alike, h3.moved hW.alike, va_Z.moved hW.alike h4, va_Zq.moved hW.alike h5⟩
section MXM
variable {p : Program} {l : Launch} {e : Env} {R : Room} {s : State} {m : MethodId} {args : Array Value} {below : List Frame} {meth : Method} {c : Code} {H : Heap} {locs : List Loc} {cells slots : Nat} {Q : State → Prop}
variable {dC : Nat → ClassId} {dI : Nat → Nat → Nat} {tc : Nat → ClassId} {sa : Nat → Nat} {base Ls : Nat} {xs : Nat → Int32} {av : Nat → Nat} {k pc c0 s0 a : Nat} {ls : Array Slot} {L : mx_L} {h : mx_H} {st r : List Value} {s' : mx_S}
/-- a call, whatever it answers -/
theorem mx_callx {rest st0 : List Value} {mc ms : Nat} {free : Addr → Prop} {A0 : Nat → Prop} {H0 : Heap} {Qa : State → Outcome → State → Prop} (hr : va_Run p l e R s m args below meth c H locs cells slots mc ms (F0 m pc ls st0) rest Qa free) (hS : va_S A0 H0 H locs) (hf : ∀ q, free q → A0 q) (hQ : ∀ (x t : State) (v : Option Value), Qa x (.returned v) t → va_F A0 x t)
    (kk : ∀ (v : Option Value) (x t : State) (H1 : Heap) (locs1 : List Loc), x.heap = H → t.heap = H1 → Qa x (.returned v) t → va_S A0 H0 H1 locs1 → W p l e R s m args below meth c H1 locs1 (cells + mc) (slots + ms) Q (F0 m (pc + 3) ls (v.toList ++ rest))) : W p l e R s m args below meth c H locs cells slots Q (F0 m pc ls st0) := by
  intro T hT X
  obtain ⟨v, x, t, T', L, h0, X', hL, e1, e2, hq, st⟩ := hr T hT X
  obtain ⟨hz, hk⟩ := hQ _ _ _ hq
  rw [h0] at hz hk
  obtain ⟨t2, a1, b1⟩ := kk v x t T'.heap (locs ++ L) h0 e1.symm hq
    ⟨Nat.le_trans hS.1 (by rw [e1]; exact hz), fun q h1 h2 => by rw [e1, hk q (Nat.lt_of_lt_of_le h1 hS.1) h2]; exact hS.2.1 q h1 h2, fun q hq => by
      rcases List.mem_append.mp hq with h | h
      · exact hS.2.2 q h
      · exact hf _ (hL q h)⟩ T' rfl X'
  exact ⟨t2, st t2 a1, b1⟩
/-- a method's start and end, by the small machine's heaps -/
def mx_Pc (dC : Nat → ClassId) (dI : Nat → Nat → Nat) (tc : Nat → ClassId) (sa : Nat → Nat) (base Ls : Nat) (xs : Nat → Int32) (av : Nat → Nat) (vs : List Value) (h : mx_H) : Array Value → State → Prop := fun v U => v = (vs.map (mx_cv (mx_ad sa base))).toArray ∧ mx_KK dC dI tc sa U ∧ mx_EX sa base Ls xs av U U.heap ∧ U.heap.size = base + h.1 ∧ mx_Rp dC dI tc sa base Ls xs h U.heap
def mx_Qc (dC : Nat → ClassId) (dI : Nat → Nat → Nat) (tc : Nat → ClassId) (sa : Nat → Nat) (base Ls : Nat) (xs : Nat → Int32) (r : Option Value) (h' : mx_H) : Array Value → State → Outcome → State → Prop := fun _ x o t => o = .returned (r.map (mx_cv (mx_ad sa base))) ∧ mx_Rp dC dI tc sa base Ls xs h' t.heap ∧ va_F (mx_A base) x t
def mx_rm (d mc ms : Nat) : Room := { frames := d + 10, cells := mc, slots := ms, locals := 40 * d + 400 }
/-- a run of n steps at most, anywhere in the machine -/
def mx_Snd (l : Launch) (dC : Nat → ClassId) (dI : Nat → Nat → Nat) (tc : Nat → ClassId) (sa : Nat → Nat) (base Ls : Nat) (xs : Nat → Int32) (av : Nat → Nat) (n : Nat) : Prop :=
  ∀ (d k pc : Nat) (L : mx_L) (st : List Value) (h h' : mx_H) (r : Option Value), k < 215 → mx_run n d k (pc, L, st, h) = some (r, h') →
  ∀ {p : Program} {e : Env} {R : Room} {s : State} {m : MethodId} {args : Array Value} {below : List Frame} {meth : Method} {c : Code} (H : Heap) (locs : List Loc) (cells slots : Nat) (Q : State → Prop) (ls : Array Slot) (c0 s0 : Nat),
  mx_Cx dC dI tc sa base Ls xs av k p R s m args meth c c0 → mx_At dC dI tc sa base Ls xs k s c0 s0 L h H locs ls cells slots → h'.1 ≤ c0 + R.cells → h'.2.1 ≤ s0 + R.slots → d + 10 ≤ R.frames → 40 * d + 400 ≤ R.locals →
  (∀ (pc1 : Nat) (st1 : List Value) (ls1 : Array Slot) (H1 : Heap) (locs1 : List Loc) (cells1 slots1 : Nat), mx_rk k pc1 st1 r → mx_Rp dC dI tc sa base Ls xs h' H1 → va_S (mx_A base) s.heap H1 locs1 → cells1 + c0 = h'.1 → slots1 + s0 = h'.2.1 → W p l e R s m args below meth c H1 locs1 cells1 slots1 Q (F0 m pc1 ls1 (st1.map (mx_cv (mx_ad sa base))))) →
  W p l e R s m args below meth c H locs cells slots Q (F0 m pc ls (st.map (mx_cv (mx_ad sa base))))
/-- so a method meets its contract -/
theorem mx_met {n d : Nat} {vs : List Value} {h' : mx_H} {r0 : Option Value} (S : mx_Snd l dC dI tc sa base Ls xs av n) (ha : a < 214) (hr : mx_run n d a (0, mx_ent (mx_ml a) vs, [], h) = some (r0, h')) (hvs : (mx_pl vs).length ≤ mx_ml a) :
    Met l (mx_my a) (mx_ws a) (mx_rm d (h'.1 - h.1) (h'.2.1 - h.2.1)) (mx_Pc dC dI tc sa base Ls xs av vs h) (mx_Qc dC dI tc sa base Ls xs r0 h') (h'.1 - h.1) (h'.2.1 - h.2.1) (mx_A base) := by
  obtain ⟨o1, o2, o3, o4, o5, o6, o7⟩ := mx_okm a ha
  have hle := mx_run_le _ _ _ _ _ _ hr
  have hle1 : h.1 ≤ h'.1 := hle.1
  have hle2 : h.2.1 ≤ h'.2.1 := hle.2
  refine Met.ofW (cc := mx_mb a) (maxL := mx_ml a) (ret := mx_mr a) o2 rfl ?_
  intro p e s m args below meth c s₁ B hml hv
  obtain ⟨rfl, hKK, hEX, hsz, hRp⟩ := hv
  have hx := B.exec
  have hb := B.bytes
  have hret := B.returns
  have hts := atoms_spec (ws := mx_ws a) B.pre
  have hown : s.vm.findClass (mx_cn (mx_mc a)) = some m.cls := by rw [← o1]; exact findClass_of_methodNamed B.named
  have hlocks := B.notSynchronized
  have hin : (mx_my a).name = "<init>" → meth.name = "<init>" := fun z => (name_of_methodNamed B.named B.method).1.trans z
  have hl := mx_LR.entry (ad := mx_ad sa base) hvs
  rw [lg_entry_eq]
  generalize (lg_sl (vs.map (mx_cv (mx_ad sa base))) ++ List.replicate (mx_ml a - (lg_sl (vs.map (mx_cv (mx_ad sa base)))).length) Slot.unset).toArray = ls at hl ⊢
  have hcx : mx_Cx dC dI tc sa base Ls xs av a p (headSpec (mx_ws a) (mx_rm d (h'.1 - h.1) (h'.2.1 - h.2.1))).room s m ((vs.map (mx_cv (mx_ad sa base))).toArray) meth c h.1 := by
    refine ⟨hx, hb, hml, hown, fun w hw => hts w (List.mem_cons_of_mem _ hw), hin, hKK, hEX, hsz, ?_, ?_⟩
    · show 10 ≤ d + 10; omega
    · show 400 ≤ 40 * d + 400; omega
  refine S d a 0 (mx_ent (mx_ml a) vs) [] h h' r0 (by omega) hr s.heap [] 0 0 _ ls h.1 h.2.1 hcx ⟨hRp, va_S.rf, hl, by omega, by omega⟩ ?_ ?_ ?_ ?_ ?_
  · show h'.1 ≤ h.1 + (h'.1 - h.1); omega
  · show h'.2.1 ≤ h.2.1 + (h'.2.1 - h.2.1); omega
  · show d + 10 ≤ d + 10; omega
  · show 40 * d + 400 ≤ 40 * d + 400; omega
  · intro pc1 st1 ls1 H1 locs1 cells1 slots1 hrk hRp1 hS1 hc1 hs1
    have e1 : cells1 = h'.1 - h.1 := by omega
    have e2 : slots1 = h'.2.1 - h.2.1 := by omega
    subst e1; subst e2
    rcases hrk with ⟨hd, x, rfl, rfl, hri⟩ | ⟨hd, x, rfl, rfl, hri⟩ | ⟨hd, w, rfl, rfl, hri, hw⟩ | ⟨hd, rfl, rfl, hri⟩
    · have hty : ∃ ty, mx_mr a = some ty ∧ narrow ty (.int x) = .int x := by
        unfold mx_ri at hri
        split at hri
        · next q => exact ⟨_, q, rfl⟩
        · next q =>
          refine ⟨_, q, ?_⟩
          rcases of_decide_eq_true hri with rfl | rfl <;> rfl
        · cases hri
      obtain ⟨ty, q1, q2⟩ := hty
      exact W.zret hx hb (hret.trans q1) q2 (fun t ht hW => ⟨rfl, by rw [ht]; exact hRp1, hS1.F ht⟩) hS1.2.2 hd
    · exact W.lret hx hb (hret.trans hri) (fun t ht hW => ⟨rfl, by rw [ht]; exact hRp1, hS1.F ht⟩) hS1.2.2 hd
    · have hty : ∃ nm, mx_mr a = some (.object nm) := by
        unfold mx_ro at hri
        split at hri
        · next nm q => exact ⟨nm, q⟩
        · cases hri
      obtain ⟨nm, q1⟩ := hty
      refine W.aret hx hb (hret.trans q1) (Or.inl ⟨nm, rfl⟩) (v := mx_cv (mx_ad sa base) w) ?_ (fun t ht hW => ⟨rfl, by rw [ht]; exact hRp1, hS1.F ht⟩) hS1.2.2 hd
      rcases hw with rfl | ⟨b, rfl⟩
      · exact Or.inl rfl
      · exact Or.inr ⟨_, rfl⟩
    · exact W.vret hx hb (hret.trans hri) (fun t ht hW => ⟨rfl, by rw [ht]; exact hRp1, hS1.F ht⟩) hS1.2.2 hd
/-- the call itself -/
theorem mx_s_call {n d pc1 : Nat} {vs : List Value} {h1 : mx_H} {r0 : Option Value} (S : mx_Snd l dC dI tc sa base Ls xs av n) (C : mx_Cx dC dI tc sa base Ls xs av k p R s m args meth c c0) (hk : k < 215) (X : mx_At dC dI tc sa base Ls xs k s c0 s0 L h H locs ls cells slots) (hs : mx_stp k (pc, L, st, h) = some (.inr (.inl (a, vs, pc1, r)))) (hr : mx_run n d a (0, mx_ent (mx_ml a) vs, [], h) = some (r0, h1)) (hrc : h1.1 ≤ c0 + R.cells) (hrs : h1.2.1 ≤ s0 + R.slots) (hfr : d + 1 + 10 ≤ R.frames) (hlo : 40 * (d + 1) + 400 ≤ R.locals)
    (kk : mx_K p l e R s m args below meth c Q dC dI tc sa base Ls xs k c0 s0 (pc1, L, r0.toList ++ r, h1)) : W p l e R s m args below meth c H locs cells slots Q (F0 m pc ls (st.map (mx_cv (mx_ad sa base)))) := by
  obtain ⟨rfl, h8, hvs, hcase⟩ := mx_ck_of hk hs
  have hmc := mx_mc_lt k hk
  have ha : a < 214 := by
    rcases hcase with ⟨i, b, As, fs, -, g, -⟩ | ⟨i, j, rfl | rfl, -, g, -⟩ | ⟨i, j, b, As, rfl | rfl, -, g, -⟩
    · exact (mx_link hmc g).1
    · exact (mx_link hmc g).1
    · exact (mx_link hmc g).1
    · exact (mx_link hmc g).1
    · exact (mx_link hmc g).1
  obtain ⟨o1, o2, o3, o4, o5, o6, o7⟩ := mx_okm a ha
  have hM := mx_met S ha hr hvs
  obtain ⟨hx, hb, hml, hown, hts, hin, hK, hE, hsz, -, -⟩ := C
  have hle := mx_run_le _ _ _ _ _ _ hr
  have hle1 : h.1 ≤ h1.1 := hle.1
  have hle2 : h.2.1 ≤ h1.2.1 := hle.2
  have e1 := X.2.2.2.1
  have e2 := X.2.2.2.2
  have hroom : (mx_rm d (h1.1 - h.1) (h1.2.1 - h.2.1)).frames + 1 ≤ R.frames ∧ 8 + (mx_ml a + 11) + (mx_rm d (h1.1 - h.1) (h1.2.1 - h.2.1)).locals ≤ R.locals := by
    constructor
    · show d + 10 + 1 ≤ R.frames; omega
    · exact mx_room o7 hlo
  have hini : (Cond.initialized (mx_my a).cls).before args s = true := hts _ o6
  have hdd : (mx_my a).cls ≠ "java/lang/invoke/MethodHandle" ∧ (mx_my a).cls ≠ "java/lang/invoke/VarHandle" ∧ (parseMethodDescriptor (mx_my a).desc).map (fun d => d.parameters.length) = some (mx_np a) := ⟨o3.1, o3.2, o4⟩
  have hblind : FrameBlind (mx_Pc dC dI tc sa base Ls xs av vs h) := by
    intro v U g mk q
    obtain ⟨q1, q2, q3, q4, q5⟩ := q
    refine ⟨q1, mx_KK.same rfl q2, ?_, q4, q5⟩
    obtain ⟨z1, z2, z3, z4, z5⟩ := q3
    exact ⟨z1, va_X.moved (u := U) (U := U.calling g mk v) (Vm.Alike.refl U.vm) z2, vk_S.moved (u := U) (U := U.calling g mk v) (Vm.Alike.refl U.vm) z3, va_Z.moved (u := U) (U := U.calling g mk v) (Vm.Alike.refl U.vm) z4, va_Zq.moved (u := U) (U := U.calling g mk v) (Vm.Alike.refl U.vm) z5⟩
  have hpre : ∀ U : State, U.heap = H → s.WarmedH U.vm → H.size = base + h.1 → mx_Pc dC dI tc sa base Ls xs av vs h (vs.map (mx_cv (mx_ad sa base))).toArray U := by
    intro U hU hW hHs
    have hE2 := hE.kept (H1 := H) (fun q z1 z2 => X.2.1.2.1 q z1 z2)
    refine ⟨rfl, hK.warm hW, ?_, by rw [hU]; exact hHs, by rw [hU]; exact X.1⟩
    rw [hU]
    exact mx_EX_warm hW hE2
  have hgo : ∀ st0 : List Value, H.size = base + h.1 → va_Run p l e R s m args below meth c H locs cells slots (h1.1 - h.1) (h1.2.1 - h.2.1) (F0 m pc ls st0) (r.map (mx_cv (mx_ad sa base))) (mx_Qc dC dI tc sa base Ls xs r0 h1 (vs.map (mx_cv (mx_ad sa base))).toArray) (mx_A base) → W p l e R s m args below meth c H locs cells slots Q (F0 m pc ls st0) := by
    intro st0 hHs hrun
    refine mx_callx hrun X.2.1 (fun _ z => z) (fun x t v z => z.2.2) ?_
    intro v x t H1 locs1 z1 z2 z3 z4
    obtain ⟨g1, g2, g3⟩ := z3
    cases g1
    rw [z2] at g2
    have k1 := kk H1 locs1 ls (cells + (h1.1 - h.1)) (slots + (h1.2.1 - h.2.1)) ⟨g2, z4, X.2.2.1, (by show cells + (h1.1 - h.1) + c0 = h1.1; omega), (by show slots + (h1.2.1 - h.2.1) + s0 = h1.2.1; omega)⟩
    cases r0 with
    | none => exact k1
    | some w => exact k1
  have hHs : H.size ≤ s.heap.size + cells → H.size = base + h.1 := by
    intro hbd
    have hup : H.size ≤ base + h.1 := by omega
    by_cases h0 : h.1 = 0
    · have := X.2.1.1
      omega
    · have hg := mx_wl_get (tc := tc) (sa := sa) (base := base) (h := h) (i := h.1 - 1) (by omega)
      have hlt : base + (h.1 - 1) < H.size := (X.1.1 _ _ hg).lt
      omega
  refine mx_bound fun hbd => ?_
  have hHs := hHs hbd
  have hcf : cells + (h1.1 - h.1) ≤ R.cells ∧ slots + (h1.2.1 - h.2.1) ≤ R.slots := by constructor <;> omega
  rcases hcase with ⟨i, b, As, fs, hd, hl, rfl, rfl, hn, hh⟩ | ⟨i, j, hj, hd, hl, rfl, hn⟩ | ⟨i, j, b, As, hj, hd, hl, rfl, rfl, hn⟩
  · obtain ⟨-, g1, g2, g3⟩ := mx_link hmc hl
    have hc99 : mx_mc a ≠ 99 := by have := mx_mc_lt a (by omega); omega
    obtain ⟨hb1, hb2⟩ := mx_here X.1 hh hc99
    have hg := mx_wl_get (tc := tc) (sa := sa) (base := base) hb1
    rw [hh] at hg
    obtain ⟨r1, q1, -⟩ := X.1.1 b _ hg
    have hrn : r1.1 = (mx_my a).cls := by
      rw [o1]
      have h10 : mx_mc a < 10 := (List.getElem?_eq_some_iff.mp q1).1
      exact mx_cn_cl _ _ q1
    have hrecv := va_recv hK.1 X.1.1 q1 hg
    rw [hrn] at hrecv
    have hcb := callB_of (rm := mx_rm d (h1.1 - h.1) (h1.2.1 - h.2.1)) (ret := mx_mr a) (mx_np a) hts (mx_ws_good ha) rfl rfl rfl hini (hts _ g1) hdd hroom
    have hrun := va_runV (e := e) (below := below) (meth := meth) (locs := locs) (g := F0 m pc ls ((As.reverse ++ Value.ref b :: r).map (mx_cv (mx_ad sa base)))) (As := As.map (mx_cv (mx_ad sa base))) (b := base + b) (rest := r.map (mx_cv (mx_ad sa base))) ⟨hx, hb, hml, hown, hts⟩ hM ⟨hcb, hts _ g2, hts _ g3⟩ ⟨hblind, hrecv, fun U hU hW => by have z := hpre U hU hW hHs; rw [List.map_cons] at z; rw [← mx_ad_lt (sa := sa) (base := base) hb2]; exact z⟩ rfl (by rw [List.length_map]; exact hn) X.2.2.1.1 (by rw [List.map_append, List.map_reverse, List.map_cons]; show _ ++ Value.ref (mx_ad sa base b) :: _ = _; rw [mx_ad_lt hb2]) (by show 2 * 0 + _ ≤ 8; rw [Nat.mul_zero, Nat.zero_add]; exact mx_ok8_le _ h8) hd hcf
    refine hgo _ hHs ?_
    rw [List.map_cons]
    show va_Run _ _ _ _ _ _ _ _ _ _ _ _ _ _ _ _ _ _ (mx_Qc dC dI tc sa base Ls xs r0 h1 (Value.ref (mx_ad sa base b) :: As.map (mx_cv (mx_ad sa base))).toArray) _
    rw [mx_ad_lt hb2]
    exact hrun
  · have hstack : (F0 m pc ls ((vs.reverse ++ r).map (mx_cv (mx_ad sa base)))).stack = (vs.map (mx_cv (mx_ad sa base))).reverse ++ r.map (mx_cv (mx_ad sa base)) := by
      show (vs.reverse ++ r).map (mx_cv (mx_ad sa base)) = _
      rw [List.map_append, List.map_reverse]
    have hcat : 2 * (F0 m pc ls ((vs.reverse ++ r).map (mx_cv (mx_ad sa base)))).monitorRoom + ((r.map (mx_cv (mx_ad sa base))).map fun v => v.category).sum ≤ 8 := by
      show 2 * 0 + _ ≤ 8
      rw [Nat.mul_zero, Nat.zero_add]
      exact mx_ok8_le _ h8
    rcases hj with rfl | rfl
    · obtain ⟨-, g1, g2⟩ := mx_link hmc hl
      have hcb := callB_of (rm := mx_rm d (h1.1 - h.1) (h1.2.1 - h.2.1)) (ret := mx_mr a) (mx_np a) hts (mx_ws_good ha) rfl rfl rfl hini (hts _ g1) hdd hroom
      exact hgo _ hHs (va_runS (g := F0 m pc ls ((vs.reverse ++ r).map (mx_cv (mx_ad sa base)))) (As := vs.map (mx_cv (mx_ad sa base))) ⟨hx, hb, hml, hown, hts⟩ hM ⟨hcb, hts _ g2⟩ ⟨hblind, fun U hU hW => hpre U hU hW hHs⟩ rfl (by rw [List.length_map]; exact hn) X.2.2.1.1 hstack hcat hd hcf)
    · obtain ⟨-, g1, g2⟩ := mx_link hmc hl
      have hcb := va_cnB (R := R) (rm := mx_rm d (h1.1 - h.1) (h1.2.1 - h.2.1)) (ret := mx_mr a) (mx_np a) hts (mx_ws_good ha) rfl rfl rfl (hK.2.1 _ g1) hini hdd hroom
      exact hgo _ hHs (va_runSN (g := F0 m pc ls ((vs.reverse ++ r).map (mx_cv (mx_ad sa base)))) (As := vs.map (mx_cv (mx_ad sa base))) ⟨hx, hb, hml, hown, hts⟩ hM ⟨hcb, hts _ g2, trivial⟩ ⟨hblind, fun U hU hW => hpre U hU hW hHs⟩ rfl (by rw [List.length_map]; exact hn) X.2.2.1.1 hstack hcat hd hcf)
  · have hstack : (F0 m pc ls ((As.reverse ++ Value.ref b :: r).map (mx_cv (mx_ad sa base)))).stack = (As.map (mx_cv (mx_ad sa base))).reverse ++ .ref (mx_ad sa base b) :: r.map (mx_cv (mx_ad sa base)) := by
      show (As.reverse ++ Value.ref b :: r).map (mx_cv (mx_ad sa base)) = _
      rw [List.map_append, List.map_reverse, List.map_cons]
      rfl
    have hcat : 2 * (F0 m pc ls ((As.reverse ++ Value.ref b :: r).map (mx_cv (mx_ad sa base)))).monitorRoom + ((r.map (mx_cv (mx_ad sa base))).map fun v => v.category).sum ≤ 8 := by
      show 2 * 0 + _ ≤ 8
      rw [Nat.mul_zero, Nat.zero_add]
      exact mx_ok8_le _ h8
    rcases hj with rfl | rfl
    · obtain ⟨-, g1, g2, g3⟩ := mx_link hmc hl
      have hret : mx_mr a = none := mx_ini_ret a ha g3
      have hws : mx_ws a = Cond.code (mx_my a) (mx_mb a) (mx_ml a) none :: mx_ts := by unfold mx_ws; rw [hret]
      have hcb := callB_of (rm := mx_rm d (h1.1 - h.1) (h1.2.1 - h.2.1)) (ret := none) (mx_np a) hts (mx_ws_good ha) hws rfl rfl hini (hts _ g1) hdd hroom
      exact hgo _ hHs (va_runI (g := F0 m pc ls ((As.reverse ++ Value.ref b :: r).map (mx_cv (mx_ad sa base)))) (As := As.map (mx_cv (mx_ad sa base))) ⟨hx, hb, hml, hown, hts⟩ hM ⟨hcb, g3, hts _ g2⟩ ⟨hblind, fun U hU hW => hpre U hU hW hHs⟩ rfl (by rw [List.length_map]; exact hn) X.2.2.1.1 hstack hcat hd hcf)
    · obtain ⟨-, g1, g2, g3⟩ := mx_link hmc hl
      have hret : mx_mr a = none := mx_ini_ret a ha g3
      have hws : mx_ws a = Cond.code (mx_my a) (mx_mb a) (mx_ml a) none :: mx_ts := by unfold mx_ws; rw [hret]
      have hcb := va_cnB (R := R) (rm := mx_rm d (h1.1 - h.1) (h1.2.1 - h.2.1)) (ret := none) (mx_np a) hts (mx_ws_good ha) hws rfl rfl (hK.2.1 _ g1) hini hdd hroom
      exact hgo _ hHs (va_runIN (g := F0 m pc ls ((As.reverse ++ Value.ref b :: r).map (mx_cv (mx_ad sa base)))) (As := As.map (mx_cv (mx_ad sa base))) ⟨hx, hb, hml, hown, hts⟩ hM ⟨hcb, g3, hts _ g2⟩ ⟨hblind, fun U hU hW => hpre U hU hW hHs⟩ rfl (by rw [List.length_map]; exact hn) X.2.2.1.1 hstack hcat hd hcf)
end MXM
theorem mx_snd (l : Launch) (dC : Nat → ClassId) (dI : Nat → Nat → Nat) (tc : Nat → ClassId) (sa : Nat → Nat) (base Ls : Nat) (xs : Nat → Int32) (av : Nat → Nat) : ∀ n, mx_Snd l dC dI tc sa base Ls xs av n := by
  intro n
  induction n with
  | zero => intro d k pc L st h h' r hk hr; simp [mx_run] at hr
  | succ n ih =>
    intro d k pc L st h h' r hk hr p e R s m args below meth c H locs cells slots Q ls c0 s0 C X hrc hrs hfr hlo kk
    have hr0 := hr
    rw [mx_run] at hr
    cases hs : mx_stp k (pc, L, st, h) with
    | none => rw [hs] at hr; simp at hr
    | some z =>
      rw [hs] at hr
      obtain s' | ⟨a, vs, pc1, w⟩ | v := z
      · obtain ⟨pc', L', st', h1⟩ := s'
        dsimp only at hr
        have hle := mx_run_le _ _ _ _ _ _ hr
        have hle1 : h1.1 ≤ h'.1 := hle.1
        have hle2 : h1.2.1 ≤ h'.2.1 := hle.2
        exact mx_s_all C hk X hs (by show h1.1 ≤ _; omega) (by show h1.2.1 ≤ _; omega) (fun H1 locs1 ls1 cells1 slots1 X1 => ih d k pc' L' st' h1 h' r hk hr H1 locs1 cells1 slots1 Q ls1 c0 s0 C X1 hrc hrs hfr hlo kk)
      · cases d with
        | zero => simp at hr
        | succ d =>
          dsimp only at hr
          cases h1 : mx_run n d a (0, mx_ent (mx_ml a) vs, [], h) with
          | none => rw [h1] at hr; simp at hr
          | some y =>
            rw [h1] at hr
            obtain ⟨v1, g1⟩ := y
            dsimp only at hr
            have hle := mx_run_le _ _ _ _ _ _ hr
            have hle1 : g1.1 ≤ h'.1 := hle.1
            have hle2 : g1.2.1 ≤ h'.2.1 := hle.2
            exact mx_s_call ih C hk X hs h1 (by omega) (by omega) (by omega) (by omega) (fun H1 locs1 ls1 cells1 slots1 X1 => ih (d + 1) k pc1 L (v1.toList ++ w) g1 h' r hk hr H1 locs1 cells1 slots1 Q ls1 c0 s0 C X1 hrc hrs hfr hlo kk)
      · simp only [Option.some.injEq, Prod.mk.injEq] at hr
        obtain ⟨rfl, rfl⟩ := hr
        exact kk pc st ls H locs cells slots (mx_rk_of hk hs) X.1 X.2.1 X.2.2.2.1 X.2.2.2.2
end
section
/-! ===== walking in the small machine: a row an instruction ===== -/
section WQ
variable {d k pc a : Nat} {v : Int} {L L' : mx_L} {st r : List Value} {h : mx_H} {Q : Option Value → mx_H → Prop}
theorem wq.do {ins : Jvm.ClassFile.Instr} {s' : mx_S} (hc : mx_tb k pc = some (ins, a, v)) (hs : mx_do k ins a v pc L st h = some (.inl s')) (kk : wq d k s'.1 s'.2.1 s'.2.2.1 s'.2.2.2 Q) : wq d k pc L st h Q := by
  refine wq.go (pc' := s'.1) (L' := s'.2.1) (st' := s'.2.2.1) (h' := s'.2.2.2) ?_ kk
  show (match mx_tb k pc with | none => none | some e => mx_do k e.1 e.2.1 e.2.2 pc L st h) = _
  rw [hc]
  exact hs
theorem wq.doR {ins : Jvm.ClassFile.Instr} {w : Option Value} (hc : mx_tb k pc = some (ins, a, v)) (hs : mx_do k ins a v pc L st h = some (.inr (.inr w))) (hq : Q w h) : wq d k pc L st h Q := by
  refine wq.ret (v := w) ?_ hq
  show (match mx_tb k pc with | none => none | some e => mx_do k e.1 e.2.1 e.2.2 pc L st h) = _
  rw [hc]
  exact hs
theorem wq.doC {ins : Jvm.ClassFile.Instr} {b pc' : Nat} {vs : List Value} (hc : mx_tb k pc = some (ins, a, v)) (hs : mx_do k ins a v pc L st h = some (.inr (.inl (b, vs, pc', r)))) (hd : 1 ≤ d) (kk : wc (d - 1) b vs h (fun w h1 => wq d k pc' L (w.toList ++ r) h1 Q)) : wq d k pc L st h Q := by
  refine wq.call (a := b) (vs := vs) (pc' := pc') (r := r) ?_ hd kk
  show (match mx_tb k pc with | none => none | some e => mx_do k e.1 e.2.1 e.2.2 pc L st h) = _
  rw [hc]
  exact hs
variable {n : Int} {x y : Int32} {lx ly : Int64} {i : Nat} {va vb : Value}
theorem q_iconst (hc : mx_tb k pc = some (.iconst n, a, v)) (x : Int32) (hx : Int32.ofInt n = x) (kk : wq d k (pc + 1) L (.int x :: st) h Q) : wq d k pc L st h Q := by subst hx; exact wq.do hc rfl kk
theorem q_bipush (hc : mx_tb k pc = some (.bipush n, a, v)) (x : Int32) (hx : (Int8.ofInt n).toInt32 = x) (kk : wq d k (pc + 2) L (.int x :: st) h Q) : wq d k pc L st h Q := by subst hx; exact wq.do hc rfl kk
theorem q_sipush (hc : mx_tb k pc = some (.sipush n, a, v)) (x : Int32) (hx : (Int16.ofInt n).toInt32 = x) (kk : wq d k (pc + 3) L (.int x :: st) h Q) : wq d k pc L st h Q := by subst hx; exact wq.do hc rfl kk
theorem q_ldcI {j : Nat} (hc : mx_tb k pc = some (.ldc j, 0, v)) (x : Int32) (hx : Int32.ofInt v = x) (kk : wq d k (pc + 2) L (.int x :: st) h Q) : wq d k pc L st h Q := by subst hx; exact wq.do hc rfl kk
theorem q_ldcW {j : Nat} (hc : mx_tb k pc = some (.ldc_w j, a, v)) (x : Int32) (hx : Int32.ofInt v = x) (kk : wq d k (pc + 3) L (.int x :: st) h Q) : wq d k pc L st h Q := by subst hx; exact wq.do hc rfl kk
theorem q_ldc2 {j : Nat} (hc : mx_tb k pc = some (.ldc2_w j, a, v)) (x : Int64) (hx : Int64.ofInt v = x) (kk : wq d k (pc + 3) L (.long x :: st) h Q) : wq d k pc L st h Q := by subst hx; exact wq.do hc rfl kk
theorem q_ldcS {j b : Nat} (hc : mx_tb k pc = some (.ldc j, b + 1, v)) (kk : wq d k (pc + 2) L (.ref (mx_big + (b + 1)) :: st) h Q) : wq d k pc L st h Q := wq.do hc rfl kk
theorem q_lconst {j : Fin 2} (hc : mx_tb k pc = some (.lconst j, a, v)) (x : Int64) (hx : Int64.ofNat (j : Nat) = x) (kk : wq d k (pc + 1) L (.long x :: st) h Q) : wq d k pc L st h Q := by subst hx; exact wq.do hc rfl kk
theorem q_null (hc : mx_tb k pc = some (.aconst_null, a, v)) (kk : wq d k (pc + 1) L (.null :: st) h Q) : wq d k pc L st h Q := wq.do hc rfl kk
theorem q_iadd (hc : mx_tb k pc = some (.iadd, a, v)) (kk : wq d k (pc + 1) L (.int (x + y) :: r) h Q) : wq d k pc L (.int y :: .int x :: r) h Q := wq.do hc rfl kk
theorem q_isub (hc : mx_tb k pc = some (.isub, a, v)) (kk : wq d k (pc + 1) L (.int (x - y) :: r) h Q) : wq d k pc L (.int y :: .int x :: r) h Q := wq.do hc rfl kk
theorem q_imul (hc : mx_tb k pc = some (.imul, a, v)) (kk : wq d k (pc + 1) L (.int (x * y) :: r) h Q) : wq d k pc L (.int y :: .int x :: r) h Q := wq.do hc rfl kk
theorem q_iand (hc : mx_tb k pc = some (.iand, a, v)) (kk : wq d k (pc + 1) L (.int (x &&& y) :: r) h Q) : wq d k pc L (.int y :: .int x :: r) h Q := wq.do hc rfl kk
theorem q_ior (hc : mx_tb k pc = some (.ior, a, v)) (kk : wq d k (pc + 1) L (.int (x ||| y) :: r) h Q) : wq d k pc L (.int y :: .int x :: r) h Q := wq.do hc rfl kk
theorem q_idiv (hc : mx_tb k pc = some (.idiv, a, v)) (hy : ¬ y = 0) (kk : wq d k (pc + 1) L (.int (x / y) :: r) h Q) : wq d k pc L (.int y :: .int x :: r) h Q := wq.do hc (s' := (pc + 1, L, .int (x / y) :: r, h)) (by show (match (if y = 0 then none else some (Value.int (x / y) :: r)) with | some r => mx_go (pc + mx_len .idiv, L, r, h) | none => none) = _; rw [if_neg hy]; rfl) kk
theorem q_irem (hc : mx_tb k pc = some (.irem, a, v)) (hy : ¬ y = 0) (kk : wq d k (pc + 1) L (.int (x - x / y * y) :: r) h Q) : wq d k pc L (.int y :: .int x :: r) h Q := wq.do hc (s' := (pc + 1, L, .int (x - x / y * y) :: r, h)) (by show (match (if y = 0 then none else some (Value.int (x - x / y * y) :: r)) with | some r => mx_go (pc + mx_len .irem, L, r, h) | none => none) = _; rw [if_neg hy]; rfl) kk
theorem q_ineg (hc : mx_tb k pc = some (.ineg, a, v)) (kk : wq d k (pc + 1) L (.int (-x) :: r) h Q) : wq d k pc L (.int x :: r) h Q := wq.do hc rfl kk
theorem q_ishl (hc : mx_tb k pc = some (.ishl, a, v)) (kk : wq d k (pc + 1) L (.int (x <<< (y &&& 31)) :: r) h Q) : wq d k pc L (.int y :: .int x :: r) h Q := wq.do hc rfl kk
theorem q_ishr (hc : mx_tb k pc = some (.ishr, a, v)) (kk : wq d k (pc + 1) L (.int (x >>> (y &&& 31)) :: r) h Q) : wq d k pc L (.int y :: .int x :: r) h Q := wq.do hc rfl kk
theorem q_iushr (hc : mx_tb k pc = some (.iushr, a, v)) (kk : wq d k (pc + 1) L (.int (x.toUInt32 >>> (y.toUInt32 &&& Int32.toUInt32 31)).toInt32 :: r) h Q) : wq d k pc L (.int y :: .int x :: r) h Q := wq.do hc rfl kk
theorem q_ladd (hc : mx_tb k pc = some (.ladd, a, v)) (kk : wq d k (pc + 1) L (.long (lx + ly) :: r) h Q) : wq d k pc L (.long ly :: .long lx :: r) h Q := wq.do hc rfl kk
theorem q_lsub (hc : mx_tb k pc = some (.lsub, a, v)) (kk : wq d k (pc + 1) L (.long (lx - ly) :: r) h Q) : wq d k pc L (.long ly :: .long lx :: r) h Q := wq.do hc rfl kk
theorem q_land (hc : mx_tb k pc = some (.land, a, v)) (kk : wq d k (pc + 1) L (.long (lx &&& ly) :: r) h Q) : wq d k pc L (.long ly :: .long lx :: r) h Q := wq.do hc rfl kk
theorem q_lor (hc : mx_tb k pc = some (.lor, a, v)) (kk : wq d k (pc + 1) L (.long (lx ||| ly) :: r) h Q) : wq d k pc L (.long ly :: .long lx :: r) h Q := wq.do hc rfl kk
theorem q_lxor (hc : mx_tb k pc = some (.lxor, a, v)) (kk : wq d k (pc + 1) L (.long (lx ^^^ ly) :: r) h Q) : wq d k pc L (.long ly :: .long lx :: r) h Q := wq.do hc rfl kk
theorem q_ldiv (hc : mx_tb k pc = some (.ldiv, a, v)) (hy : ¬ ly = 0) (kk : wq d k (pc + 1) L (.long (lx / ly) :: r) h Q) : wq d k pc L (.long ly :: .long lx :: r) h Q := wq.do hc (s' := (pc + 1, L, .long (lx / ly) :: r, h)) (by show (match (if ly = 0 then none else some (Value.long (lx / ly) :: r)) with | some r => mx_go (pc + mx_len .ldiv, L, r, h) | none => none) = _; rw [if_neg hy]; rfl) kk
theorem q_lrem (hc : mx_tb k pc = some (.lrem, a, v)) (hy : ¬ ly = 0) (kk : wq d k (pc + 1) L (.long (lx - lx / ly * ly) :: r) h Q) : wq d k pc L (.long ly :: .long lx :: r) h Q := wq.do hc (s' := (pc + 1, L, .long (lx - lx / ly * ly) :: r, h)) (by show (match (if ly = 0 then none else some (Value.long (lx - lx / ly * ly) :: r)) with | some r => mx_go (pc + mx_len .lrem, L, r, h) | none => none) = _; rw [if_neg hy]; rfl) kk
theorem q_lshl (hc : mx_tb k pc = some (.lshl, a, v)) (kk : wq d k (pc + 1) L (.long (lx <<< (y.toInt64 &&& 63)) :: r) h Q) : wq d k pc L (.int y :: .long lx :: r) h Q := wq.do hc rfl kk
theorem q_lshr (hc : mx_tb k pc = some (.lshr, a, v)) (kk : wq d k (pc + 1) L (.long (lx >>> (y.toInt64 &&& 63)) :: r) h Q) : wq d k pc L (.int y :: .long lx :: r) h Q := wq.do hc rfl kk
theorem q_lushr (hc : mx_tb k pc = some (.lushr, a, v)) (kk : wq d k (pc + 1) L (.long (lx.toUInt64 >>> (y.toInt64.toUInt64 &&& Int64.toUInt64 63)).toInt64 :: r) h Q) : wq d k pc L (.int y :: .long lx :: r) h Q := wq.do hc rfl kk
theorem q_lcmp (hc : mx_tb k pc = some (.lcmp, a, v)) (kk : wq d k (pc + 1) L (.int (lg_cmp lx ly) :: r) h Q) : wq d k pc L (.long ly :: .long lx :: r) h Q := wq.do hc rfl kk
theorem q_i2l (hc : mx_tb k pc = some (.i2l, a, v)) (kk : wq d k (pc + 1) L (.long x.toInt64 :: r) h Q) : wq d k pc L (.int x :: r) h Q := wq.do hc rfl kk
theorem q_l2i (hc : mx_tb k pc = some (.l2i, a, v)) (kk : wq d k (pc + 1) L (.int lx.toInt32 :: r) h Q) : wq d k pc L (.long lx :: r) h Q := wq.do hc rfl kk
theorem q_i2b (hc : mx_tb k pc = some (.i2b, a, v)) (kk : wq d k (pc + 1) L (.int x.toInt8.toInt32 :: r) h Q) : wq d k pc L (.int x :: r) h Q := wq.do hc rfl kk
theorem q_i2s (hc : mx_tb k pc = some (.i2s, a, v)) (kk : wq d k (pc + 1) L (.int x.toInt16.toInt32 :: r) h Q) : wq d k pc L (.int x :: r) h Q := wq.do hc rfl kk
theorem q_i2c (hc : mx_tb k pc = some (.i2c, a, v)) (kk : wq d k (pc + 1) L (.int (x.toUInt32 % 65536).toInt32 :: r) h Q) : wq d k pc L (.int x :: r) h Q := wq.do hc rfl kk
theorem q_dup (hc : mx_tb k pc = some (.dup, a, v)) (hv : va.category = 1) (kk : wq d k (pc + 1) L (va :: va :: r) h Q) : wq d k pc L (va :: r) h Q := wq.do hc (s' := (pc + 1, L, va :: va :: r, h)) (by show (match (if va.category = 1 then some (va :: va :: r) else none) with | some r => mx_go (pc + mx_len .dup, L, r, h) | none => none) = _; rw [if_pos hv]; rfl) kk
theorem q_pop (hc : mx_tb k pc = some (.pop, a, v)) (hv : va.category = 1) (kk : wq d k (pc + 1) L r h Q) : wq d k pc L (va :: r) h Q := wq.do hc (s' := (pc + 1, L, r, h)) (by show (match (if va.category = 1 then some r else none) with | some r => mx_go (pc + mx_len .pop, L, r, h) | none => none) = _; rw [if_pos hv]; rfl) kk
theorem q_dup2 (hc : mx_tb k pc = some (.dup2, a, v)) (hv : va.category = 1 ∧ vb.category = 1) (kk : wq d k (pc + 1) L (va :: vb :: va :: vb :: r) h Q) : wq d k pc L (va :: vb :: r) h Q := wq.do hc (s' := (pc + 1, L, va :: vb :: va :: vb :: r, h)) (by show (match (if va.category = 1 ∧ vb.category = 1 then some (va :: vb :: va :: vb :: r) else none) with | some r => mx_go (pc + mx_len .dup2, L, r, h) | none => none) = _; rw [if_pos hv]; rfl) kk
theorem mx_ld_eq {L : mx_L} {i t : Nat} {w : Value} (h : L[i]? = some (some w)) (ht : mx_tag w = t) : mx_ld L i t = some w := by unfold mx_ld; rw [h]; dsimp only; rw [if_pos ht]
theorem q_ld {ins : Jvm.ClassFile.Instr} {i t n : Nat} {w : Value} (hc : mx_tb k pc = some (ins, a, v)) (hi : mx_do k ins a v pc L st h = mx_psh (mx_ld L i t) (pc + n) L st h) (hl : L[i]? = some (some w)) (ht : mx_tag w = t) (kk : wq d k (pc + n) L (w :: st) h Q) : wq d k pc L st h Q := wq.do hc (s' := (pc + n, L, w :: st, h)) (by rw [hi, mx_ld_eq hl ht]; rfl) kk
theorem q_iload (hc : mx_tb k pc = some (.iload i, a, v)) (hl : L[i]? = some (some (.int x))) (kk : wq d k (pc + 2) L (.int x :: st) h Q) : wq d k pc L st h Q := q_ld hc rfl hl rfl kk
theorem q_iload_n {j : Fin 4} (hc : mx_tb k pc = some (.iload_n j, a, v)) (hl : L[(j : Nat)]? = some (some (.int x))) (kk : wq d k (pc + 1) L (.int x :: st) h Q) : wq d k pc L st h Q := q_ld hc rfl hl rfl kk
theorem q_lload (hc : mx_tb k pc = some (.lload i, a, v)) (hl : L[i]? = some (some (.long lx))) (kk : wq d k (pc + 2) L (.long lx :: st) h Q) : wq d k pc L st h Q := q_ld hc rfl hl rfl kk
theorem q_lload_n {j : Fin 4} (hc : mx_tb k pc = some (.lload_n j, a, v)) (hl : L[(j : Nat)]? = some (some (.long lx))) (kk : wq d k (pc + 1) L (.long lx :: st) h Q) : wq d k pc L st h Q := q_ld hc rfl hl rfl kk
theorem q_aload (hc : mx_tb k pc = some (.aload i, a, v)) (hl : L[i]? = some (some va)) (ht : mx_tag va = 2) (kk : wq d k (pc + 2) L (va :: st) h Q) : wq d k pc L st h Q := q_ld hc rfl hl ht kk
theorem q_aload_n {j : Fin 4} (hc : mx_tb k pc = some (.aload_n j, a, v)) (hl : L[(j : Nat)]? = some (some va)) (ht : mx_tag va = 2) (kk : wq d k (pc + 1) L (va :: st) h Q) : wq d k pc L st h Q := q_ld hc rfl hl ht kk
theorem q_st {ins : Jvm.ClassFile.Instr} {i t n : Nat} (hc : mx_tb k pc = some (ins, a, v)) (hi : mx_do k ins a v pc L (va :: r) h = mx_sto t i (pc + n) L (va :: r) h) (ht : mx_tag va = t) (hlen : i + (if t = 1 then 1 else 0) < L.length) (hL : mx_store L i va = L') (kk : wq d k (pc + n) L' r h Q) : wq d k pc L (va :: r) h Q := wq.do hc (s' := (pc + n, L', r, h)) (by rw [hi]; unfold mx_sto; dsimp only; rw [if_pos ⟨ht, hlen⟩, hL]; rfl) kk
theorem q_istore (L' : mx_L) (hc : mx_tb k pc = some (.istore i, a, v)) (hlen : i < L.length) (hL : mx_store L i (.int x) = L') (kk : wq d k (pc + 2) L' r h Q) : wq d k pc L (.int x :: r) h Q := q_st hc rfl rfl hlen hL kk
theorem q_istore_n {j : Fin 4} (L' : mx_L) (hc : mx_tb k pc = some (.istore_n j, a, v)) (hlen : (j : Nat) < L.length) (hL : mx_store L (j : Nat) (.int x) = L') (kk : wq d k (pc + 1) L' r h Q) : wq d k pc L (.int x :: r) h Q := q_st hc rfl rfl hlen hL kk
theorem q_lstore (L' : mx_L) (hc : mx_tb k pc = some (.lstore i, a, v)) (hlen : i + 1 < L.length) (hL : mx_store L i (.long lx) = L') (kk : wq d k (pc + 2) L' r h Q) : wq d k pc L (.long lx :: r) h Q := q_st hc rfl rfl hlen hL kk
theorem q_lstore_n {j : Fin 4} (L' : mx_L) (hc : mx_tb k pc = some (.lstore_n j, a, v)) (hlen : (j : Nat) + 1 < L.length) (hL : mx_store L (j : Nat) (.long lx) = L') (kk : wq d k (pc + 1) L' r h Q) : wq d k pc L (.long lx :: r) h Q := q_st hc rfl rfl hlen hL kk
theorem q_astore (L' : mx_L) (hc : mx_tb k pc = some (.astore i, a, v)) (ht : mx_tag va = 2) (hlen : i < L.length) (hL : mx_store L i va = L') (kk : wq d k (pc + 2) L' r h Q) : wq d k pc L (va :: r) h Q := q_st hc rfl ht hlen hL kk
theorem q_astore_n {j : Fin 4} (L' : mx_L) (hc : mx_tb k pc = some (.astore_n j, a, v)) (ht : mx_tag va = 2) (hlen : (j : Nat) < L.length) (hL : mx_store L (j : Nat) va = L') (kk : wq d k (pc + 1) L' r h Q) : wq d k pc L (va :: r) h Q := q_st hc rfl ht hlen hL kk
theorem q_iinc (L' : mx_L) (z : Int32) (hc : mx_tb k pc = some (.iinc i n, a, v)) (hl : L[i]? = some (some (.int x))) (hz : Int32.ofInt n = z) (hL : mx_store L i (.int (x + z)) = L') (kk : wq d k (pc + 3) L' st h Q) : wq d k pc L st h Q := wq.do hc (s' := (pc + 3, L', st, h)) (by show (match mx_ld L i 0 with | some (.int x) => mx_go (pc + 3, mx_store L i (.int (x + Int32.ofInt n)), st, h) | _ => none) = _; rw [mx_ld_eq (t := 0) hl rfl]; dsimp only; rw [hz, hL]; rfl) kk
theorem q_goto {o : Int} (hc : mx_tb k pc = some (.goto o, a, v)) (kk : wq d k a L st h Q) : wq d k pc L st h Q := wq.do hc rfl kk
theorem q_if {ins : Jvm.ClassFile.Instr} {b : Bool} (hc : mx_tb k pc = some (ins, a, v)) (hi : mx_do k ins a v pc L st h = mx_if b a pc L r h) (kt : b = true → wq d k a L r h Q) (kf : b = false → wq d k (pc + 3) L r h Q) : wq d k pc L st h Q := by
  cases b with
  | true => exact wq.do hc (s' := (a, L, r, h)) hi (kt rfl)
  | false => exact wq.do hc (s' := (pc + 3, L, r, h)) hi (kf rfl)
theorem q_ifeq {o : Int} (hc : mx_tb k pc = some (.ifCond .eq o, a, v)) (kt : x = 0 → wq d k a L r h Q) (kf : ¬ x = 0 → wq d k (pc + 3) L r h Q) : wq d k pc L (.int x :: r) h Q := q_if (b := decide (x = 0)) hc rfl (fun z => kt (of_decide_eq_true z)) (fun z => kf (of_decide_eq_false z))
theorem q_ifne {o : Int} (hc : mx_tb k pc = some (.ifCond .ne o, a, v)) (kt : ¬ x = 0 → wq d k a L r h Q) (kf : x = 0 → wq d k (pc + 3) L r h Q) : wq d k pc L (.int x :: r) h Q := q_if (b := decide (¬ x = 0)) hc rfl (fun z => kt (of_decide_eq_true z)) (fun z => kf (Decidable.not_not.mp (of_decide_eq_false z)))
theorem q_iflt {o : Int} (hc : mx_tb k pc = some (.ifCond .lt o, a, v)) (kt : x < 0 → wq d k a L r h Q) (kf : ¬ x < 0 → wq d k (pc + 3) L r h Q) : wq d k pc L (.int x :: r) h Q := q_if (b := decide (x < 0)) hc rfl (fun z => kt (of_decide_eq_true z)) (fun z => kf (of_decide_eq_false z))
theorem q_ifge {o : Int} (hc : mx_tb k pc = some (.ifCond .ge o, a, v)) (kt : 0 ≤ x → wq d k a L r h Q) (kf : ¬ 0 ≤ x → wq d k (pc + 3) L r h Q) : wq d k pc L (.int x :: r) h Q := q_if (b := decide (x ≥ 0)) hc rfl (fun z => kt (of_decide_eq_true z)) (fun z => kf (of_decide_eq_false z))
theorem q_ifgt {o : Int} (hc : mx_tb k pc = some (.ifCond .gt o, a, v)) (kt : 0 < x → wq d k a L r h Q) (kf : ¬ 0 < x → wq d k (pc + 3) L r h Q) : wq d k pc L (.int x :: r) h Q := q_if (b := decide (x > 0)) hc rfl (fun z => kt (of_decide_eq_true z)) (fun z => kf (of_decide_eq_false z))
theorem q_ifle {o : Int} (hc : mx_tb k pc = some (.ifCond .le o, a, v)) (kt : x ≤ 0 → wq d k a L r h Q) (kf : ¬ x ≤ 0 → wq d k (pc + 3) L r h Q) : wq d k pc L (.int x :: r) h Q := q_if (b := decide (x ≤ 0)) hc rfl (fun z => kt (of_decide_eq_true z)) (fun z => kf (of_decide_eq_false z))
theorem q_icmpeq {o : Int} (hc : mx_tb k pc = some (.if_icmp .eq o, a, v)) (kt : x = y → wq d k a L r h Q) (kf : ¬ x = y → wq d k (pc + 3) L r h Q) : wq d k pc L (.int y :: .int x :: r) h Q := q_if (b := decide (x = y)) hc rfl (fun z => kt (of_decide_eq_true z)) (fun z => kf (of_decide_eq_false z))
theorem q_icmpne {o : Int} (hc : mx_tb k pc = some (.if_icmp .ne o, a, v)) (kt : ¬ x = y → wq d k a L r h Q) (kf : x = y → wq d k (pc + 3) L r h Q) : wq d k pc L (.int y :: .int x :: r) h Q := q_if (b := decide (¬ x = y)) hc rfl (fun z => kt (of_decide_eq_true z)) (fun z => kf (Decidable.not_not.mp (of_decide_eq_false z)))
theorem q_icmplt {o : Int} (hc : mx_tb k pc = some (.if_icmp .lt o, a, v)) (kt : x < y → wq d k a L r h Q) (kf : ¬ x < y → wq d k (pc + 3) L r h Q) : wq d k pc L (.int y :: .int x :: r) h Q := q_if (b := decide (x < y)) hc rfl (fun z => kt (of_decide_eq_true z)) (fun z => kf (of_decide_eq_false z))
theorem q_icmpge {o : Int} (hc : mx_tb k pc = some (.if_icmp .ge o, a, v)) (kt : y ≤ x → wq d k a L r h Q) (kf : ¬ y ≤ x → wq d k (pc + 3) L r h Q) : wq d k pc L (.int y :: .int x :: r) h Q := q_if (b := decide (x ≥ y)) hc rfl (fun z => kt (of_decide_eq_true z)) (fun z => kf (of_decide_eq_false z))
theorem q_icmpgt {o : Int} (hc : mx_tb k pc = some (.if_icmp .gt o, a, v)) (kt : y < x → wq d k a L r h Q) (kf : ¬ y < x → wq d k (pc + 3) L r h Q) : wq d k pc L (.int y :: .int x :: r) h Q := q_if (b := decide (x > y)) hc rfl (fun z => kt (of_decide_eq_true z)) (fun z => kf (of_decide_eq_false z))
theorem q_icmple {o : Int} (hc : mx_tb k pc = some (.if_icmp .le o, a, v)) (kt : x ≤ y → wq d k a L r h Q) (kf : ¬ x ≤ y → wq d k (pc + 3) L r h Q) : wq d k pc L (.int y :: .int x :: r) h Q := q_if (b := decide (x ≤ y)) hc rfl (fun z => kt (of_decide_eq_true z)) (fun z => kf (of_decide_eq_false z))
theorem q_ifnull {o : Int} {b : Nat} (hc : mx_tb k pc = some (.ifnull o, a, v)) (kk : wq d k (pc + 3) L r h Q) : wq d k pc L (.ref b :: r) h Q := wq.do hc rfl kk
theorem q_ifnullN {o : Int} (hc : mx_tb k pc = some (.ifnull o, a, v)) (kk : wq d k a L r h Q) : wq d k pc L (.null :: r) h Q := wq.do hc rfl kk
theorem q_ifnonnull {o : Int} {b : Nat} (hc : mx_tb k pc = some (.ifnonnull o, a, v)) (kk : wq d k a L r h Q) : wq d k pc L (.ref b :: r) h Q := wq.do hc rfl kk
theorem q_ifnonnullN {o : Int} (hc : mx_tb k pc = some (.ifnonnull o, a, v)) (kk : wq d k (pc + 3) L r h Q) : wq d k pc L (.null :: r) h Q := wq.do hc rfl kk
theorem q_tsw {dd lo hi : Int} {offs : Array Int} {t : Nat} (hc : mx_tb k pc = some (.tableswitch dd lo hi offs, a, v)) (ht : mx_tsw dd lo hi offs pc x = some t) (kk : wq d k t L r h Q) : wq d k pc L (.int x :: r) h Q := wq.do hc (s' := (t, L, r, h)) (by show mx_jmp (mx_tsw dd lo hi offs pc x) L r h = _; rw [ht]; rfl) kk
theorem q_lsw {dd : Int} {ps : Array (Int × Int)} {t : Nat} (hc : mx_tb k pc = some (.lookupswitch dd ps, a, v)) (ht : mx_tg pc (Op.lookupswitch.offset ps.toList dd x.toInt) = some t) (kk : wq d k t L r h Q) : wq d k pc L (.int x :: r) h Q := wq.do hc (s' := (t, L, r, h)) (by show mx_jmp (mx_tg pc (Op.lookupswitch.offset ps.toList dd x.toInt)) L r h = _; rw [ht]; rfl) kk
theorem q_getf {j b ci : Nat} {fs : List Value} (hc : mx_tb k pc = some (.getfield j, a, v)) (hh : h.2.2 b = .inr (ci, fs)) (hi : ci = a / 100) (hv : fs[a % 100]? = some va) (kk : wq d k (pc + 3) L (va :: r) h Q) : wq d k pc L (.ref b :: r) h Q := wq.do hc (s' := (pc + 3, L, va :: r, h)) (by
  show (match h.2.2 b with | .inr (ci, fs) => if ci = a / 100 then mx_psh (fs[a % 100]?) (pc + 3) L r h else none | _ => none) = _
  rw [hh]; dsimp only; rw [if_pos hi, hv]; rfl) kk
theorem q_putf {j b ci : Nat} {fs fs' : List Value} (hc : mx_tb k pc = some (.putfield j, a, v)) (hh : h.2.2 b = .inr (ci, fs)) (hi : ci = a / 100) (hl : a % 100 < fs.length) (hf : mx_fit (mx_tyf a) va = true) (hs : fs.set (a % 100) va = fs') (kk : wq d k (pc + 3) L r (mx_set h b (.inr (ci, fs'))) Q) : wq d k pc L (va :: .ref b :: r) h Q := wq.do hc (s' := (pc + 3, L, r, mx_set h b (.inr (ci, fs')))) (by
  show (match h.2.2 b with | .inr (ci, fs) => if ci = a / 100 ∧ a % 100 < fs.length ∧ mx_fit (mx_tyf a) va = true then mx_go (pc + 3, L, r, mx_set h b (.inr (ci, fs.set (a % 100) va))) else none | _ => none) = _
  rw [hh]; dsimp only; rw [if_pos ⟨hi, hl, hf⟩, hs]; rfl) kk
theorem q_ald {ins : Jvm.ClassFile.Instr} {b t m : Nat} {f : Nat → Int32} (hc : mx_tb k pc = some (ins, a, v)) (hi : mx_do k ins a v pc L (.int x :: .ref b :: r) h = mx_ald t pc L (.int x :: .ref b :: r) h) (hh : h.2.2 b = .inl (t, m, .inl f)) (hv : mx_vin x m = true) (kk : wq d k (pc + 1) L (.int (f x.toNatClampNeg) :: r) h Q) : wq d k pc L (.int x :: .ref b :: r) h Q := wq.do hc (s' := (pc + 1, L, .int (f x.toNatClampNeg) :: r, h)) (by
  rw [hi]
  show (match h.2.2 b with | .inl (u, n, .inl f) => if u = t ∧ mx_vin x n = true then mx_go (pc + 1, L, .int (f x.toNatClampNeg) :: r, h) else none | _ => none) = _
  rw [hh]; dsimp only; rw [if_pos ⟨rfl, hv⟩]; rfl) kk
theorem q_iaload {b m : Nat} {f : Nat → Int32} (hc : mx_tb k pc = some (.iaload, a, v)) (hh : h.2.2 b = .inl (0, m, .inl f)) (hv : mx_vin x m = true) (kk : wq d k (pc + 1) L (.int (f x.toNatClampNeg) :: r) h Q) : wq d k pc L (.int x :: .ref b :: r) h Q := q_ald hc rfl hh hv kk
theorem q_baload {b m : Nat} {f : Nat → Int32} (hc : mx_tb k pc = some (.baload, a, v)) (hh : h.2.2 b = .inl (1, m, .inl f)) (hv : mx_vin x m = true) (kk : wq d k (pc + 1) L (.int (f x.toNatClampNeg) :: r) h Q) : wq d k pc L (.int x :: .ref b :: r) h Q := q_ald hc rfl hh hv kk
theorem q_caload {b m : Nat} {f : Nat → Int32} (hc : mx_tb k pc = some (.caload, a, v)) (hh : h.2.2 b = .inl (2, m, .inl f)) (hv : mx_vin x m = true) (kk : wq d k (pc + 1) L (.int (f x.toNatClampNeg) :: r) h Q) : wq d k pc L (.int x :: .ref b :: r) h Q := q_ald hc rfl hh hv kk
theorem q_ast {ins : Jvm.ClassFile.Instr} {b t m : Nat} {ty : FieldType} {f : Nat → Int32} (hc : mx_tb k pc = some (ins, a, v)) (hi : mx_do k ins a v pc L (.int y :: .int x :: .ref b :: r) h = mx_ast t ty pc L (.int y :: .int x :: .ref b :: r) h) (hh : h.2.2 b = .inl (t, m, .inl f)) (hb : b < mx_big) (hv : mx_vin x m = true) (kk : wq d k (pc + 1) L r (mx_set h b (.inl (t, m, .inl (upd f x.toNatClampNeg (vp_nar ty y))))) Q) : wq d k pc L (.int y :: .int x :: .ref b :: r) h Q := wq.do hc (s' := (pc + 1, L, r, mx_set h b (.inl (t, m, .inl (upd f x.toNatClampNeg (vp_nar ty y)))))) (by
  rw [hi]
  show (match h.2.2 b with | .inl (u, n, .inl f) => if u = t ∧ b < mx_big ∧ mx_vin x n = true then mx_go (pc + 1, L, r, mx_set h b (.inl (u, n, .inl (upd f x.toNatClampNeg (vp_nar ty y))))) else none | _ => none) = _
  rw [hh]; dsimp only; rw [if_pos ⟨rfl, hb, hv⟩]; rfl) kk
theorem q_iastore {b m : Nat} {f : Nat → Int32} (hc : mx_tb k pc = some (.iastore, a, v)) (hh : h.2.2 b = .inl (0, m, .inl f)) (hb : b < mx_big) (hv : mx_vin x m = true) (kk : wq d k (pc + 1) L r (mx_set h b (.inl (0, m, .inl (upd f x.toNatClampNeg y)))) Q) : wq d k pc L (.int y :: .int x :: .ref b :: r) h Q := q_ast (ty := .int) hc rfl hh hb hv kk
theorem q_bastore {b m : Nat} {f : Nat → Int32} (hc : mx_tb k pc = some (.bastore, a, v)) (hh : h.2.2 b = .inl (1, m, .inl f)) (hb : b < mx_big) (hv : mx_vin x m = true) (kk : wq d k (pc + 1) L r (mx_set h b (.inl (1, m, .inl (upd f x.toNatClampNeg (vp_nar .boolean y))))) Q) : wq d k pc L (.int y :: .int x :: .ref b :: r) h Q := q_ast (ty := .boolean) hc rfl hh hb hv kk
theorem q_castore {b m : Nat} {f : Nat → Int32} (hc : mx_tb k pc = some (.castore, a, v)) (hh : h.2.2 b = .inl (2, m, .inl f)) (hb : b < mx_big) (hv : mx_vin x m = true) (kk : wq d k (pc + 1) L r (mx_set h b (.inl (2, m, .inl (upd f x.toNatClampNeg (vp_nar .char y))))) Q) : wq d k pc L (.int y :: .int x :: .ref b :: r) h Q := q_ast (ty := .char) hc rfl hh hb hv kk
theorem q_aaload {b u m : Nat} {g : Nat → Option Nat} (hc : mx_tb k pc = some (.aaload, a, v)) (hh : h.2.2 b = .inl (u, m, .inr g)) (hu : 3 ≤ u ∧ u ≤ 5) (hb : b < mx_big) (hv : mx_vin x m = true) (kk : wq d k (pc + 1) L (va_rf (g x.toNatClampNeg) :: r) h Q) : wq d k pc L (.int x :: .ref b :: r) h Q := wq.do hc (s' := (pc + 1, L, va_rf (g x.toNatClampNeg) :: r, h)) (by
  show (match h.2.2 b with | .inl (u, n, .inr g) => if 3 ≤ u ∧ u ≤ 5 ∧ b < mx_big ∧ mx_vin x n = true then mx_go (pc + 1, L, va_rf (g x.toNatClampNeg) :: r, h) else none | _ => none) = _
  rw [hh]; dsimp only; rw [if_pos ⟨hu.1, hu.2, hb, hv⟩]; rfl) kk
theorem q_aastore {b w u m ci : Nat} {fs : List Value} {g : Nat → Option Nat} (hc : mx_tb k pc = some (.aastore, a, v)) (hh : h.2.2 b = .inl (u, m, .inr g)) (hw : h.2.2 w = .inr (ci, fs)) (hu : 3 ≤ u ∧ u ≤ 5) (hci : ci = mx_el u) (hb : b < mx_big) (hv : mx_vin x m = true) (kk : wq d k (pc + 1) L r (mx_set h b (.inl (u, m, .inr (va_up g x.toNatClampNeg (some w))))) Q) : wq d k pc L (.ref w :: .int x :: .ref b :: r) h Q := wq.do hc (s' := (pc + 1, L, r, mx_set h b (.inl (u, m, .inr (va_up g x.toNatClampNeg (some w)))))) (by
  show (match h.2.2 b, h.2.2 w with | .inl (u, n, .inr g), .inr (ci, _) => if 3 ≤ u ∧ u ≤ 5 ∧ ci = mx_el u ∧ b < mx_big ∧ mx_vin x n = true then mx_go (pc + 1, L, r, mx_set h b (.inl (u, n, .inr (va_up g x.toNatClampNeg (some w))))) else none | _, _ => none) = _
  rw [hh, hw]; dsimp only; rw [if_pos ⟨hu.1, hu.2, hci, hb, hv⟩]; rfl) kk
theorem q_alen {b u m : Nat} {f : mx_C} (hc : mx_tb k pc = some (.arraylength, a, v)) (hh : h.2.2 b = .inl (u, m, f)) (hu : u ≤ 5) (kk : wq d k (pc + 1) L (.int (Int32.ofNat m) :: r) h Q) : wq d k pc L (.ref b :: r) h Q := wq.do hc (s' := (pc + 1, L, .int (Int32.ofNat m) :: r, h)) (by
  show (match h.2.2 b with | .inl (u, n, _) => if u ≤ 5 then mx_go (pc + 1, L, .int (Int32.ofNat n) :: r, h) else none | _ => none) = _
  rw [hh]; dsimp only; rw [if_pos hu]; rfl) kk
theorem q_nwa {ins : Jvm.ClassFile.Instr} {t n : Nat} {c : mx_C} (hc : mx_tb k pc = some (ins, a, v)) (hi : mx_do k ins a v pc L (.int x :: r) h = mx_nwa t (pc + n) c L (.int x :: r) h) (hx : ¬ x < 0 ∧ x.toNatClampNeg ≤ 100000 ∧ h.1 < mx_big) (kk : wq d k (pc + n) L (.ref h.1 :: r) (mx_new h x.toNatClampNeg (.inl (t, x.toNatClampNeg, c))) Q) : wq d k pc L (.int x :: r) h Q := wq.do hc (s' := (pc + n, L, .ref h.1 :: r, mx_new h x.toNatClampNeg (.inl (t, x.toNatClampNeg, c)))) (by
  rw [hi]
  show (if ¬ x < 0 ∧ x.toNatClampNeg ≤ 100000 ∧ h.1 < mx_big then _ else none) = _
  rw [if_pos hx]; rfl) kk
theorem q_newI (hc : mx_tb k pc = some (.newarray .int, a, v)) (hx : ¬ x < 0 ∧ x.toNatClampNeg ≤ 100000 ∧ h.1 < mx_big) (kk : wq d k (pc + 2) L (.ref h.1 :: r) (mx_new h x.toNatClampNeg (.inl (0, x.toNatClampNeg, .inl fun _ => 0))) Q) : wq d k pc L (.int x :: r) h Q := q_nwa hc rfl hx kk
theorem q_newZ (hc : mx_tb k pc = some (.newarray .boolean, a, v)) (hx : ¬ x < 0 ∧ x.toNatClampNeg ≤ 100000 ∧ h.1 < mx_big) (kk : wq d k (pc + 2) L (.ref h.1 :: r) (mx_new h x.toNatClampNeg (.inl (1, x.toNatClampNeg, .inl fun _ => 0))) Q) : wq d k pc L (.int x :: r) h Q := q_nwa hc rfl hx kk
theorem q_newC (hc : mx_tb k pc = some (.newarray .char, a, v)) (hx : ¬ x < 0 ∧ x.toNatClampNeg ≤ 100000 ∧ h.1 < mx_big) (kk : wq d k (pc + 2) L (.ref h.1 :: r) (mx_new h x.toNatClampNeg (.inl (2, x.toNatClampNeg, .inl fun _ => 0))) Q) : wq d k pc L (.int x :: r) h Q := q_nwa hc rfl hx kk
theorem q_newQ {j : Nat} (hc : mx_tb k pc = some (.anewarray j, a, v)) (ha : 3 ≤ a ∧ a ≤ 5) (hx : ¬ x < 0 ∧ x.toNatClampNeg ≤ 100000 ∧ h.1 < mx_big) (kk : wq d k (pc + 3) L (.ref h.1 :: r) (mx_new h x.toNatClampNeg (.inl (a, x.toNatClampNeg, .inr fun _ => none))) Q) : wq d k pc L (.int x :: r) h Q := q_nwa (t := a) hc (by show (if 3 ≤ a ∧ a ≤ 5 then _ else none) = _; rw [if_pos ha]) hx kk
theorem q_new {j : Nat} (hc : mx_tb k pc = some (.new j, a, v)) (hx : h.1 < mx_big) (kk : wq d k (pc + 3) L (.ref h.1 :: st) (mx_new h (mx_nf a) (.inr (a, mx_defs a))) Q) : wq d k pc L st h Q := wq.do hc (s' := (pc + 3, L, .ref h.1 :: st, mx_new h (mx_nf a) (.inr (a, mx_defs a)))) (by show (if h.1 < mx_big then _ else none) = _; rw [if_pos hx]; rfl) kk
theorem q_cast {j b m : Nat} {f : mx_C} (hc : mx_tb k pc = some (.checkcast j, a, v)) (hh : h.2.2 b = .inl (0, m, f)) (hb : b < mx_big) (kk : wq d k (pc + 3) L (.ref b :: r) h Q) : wq d k pc L (.ref b :: r) h Q := wq.do hc (s' := (pc + 3, L, .ref b :: r, h)) (by
  show (match h.2.2 b with | .inl (u, _, _) => if u = 0 ∧ b < mx_big then mx_go (pc + 3, L, .ref b :: r, h) else none | _ => none) = _
  rw [hh]; dsimp only; rw [if_pos ⟨rfl, hb⟩]; rfl) kk
theorem q_max {j : Nat} (hc : mx_tb k pc = some (.invokestatic j, a, 20)) (h8 : mx_ok8 r = true) (kk : wq d k (pc + 3) L (.int (if x < y then y else x) :: r) h Q) : wq d k pc L (.int y :: .int x :: r) h Q := wq.do hc (s' := (pc + 3, L, .int (if x < y then y else x) :: r, h)) (by show (if mx_ok8 r = true then _ else none) = _; rw [if_pos h8]; rfl) kk
theorem q_min {j : Nat} (hc : mx_tb k pc = some (.invokestatic j, a, 21)) (h8 : mx_ok8 r = true) (kk : wq d k (pc + 3) L (.int (if y < x then y else x) :: r) h Q) : wq d k pc L (.int y :: .int x :: r) h Q := wq.do hc (s' := (pc + 3, L, .int (if y < x then y else x) :: r, h)) (by show (if mx_ok8 r = true then _ else none) = _; rw [if_pos h8]; rfl) kk
theorem q_abs {j : Nat} (hc : mx_tb k pc = some (.invokestatic j, a, 22)) (h8 : mx_ok8 r = true) (kk : wq d k (pc + 3) L (.int (if 0 ≤ x then x else 0 - x) :: r) h Q) : wq d k pc L (.int x :: r) h Q := wq.do hc (s' := (pc + 3, L, .int (if 0 ≤ x then x else 0 - x) :: r, h)) (by show (if mx_ok8 r = true then _ else none) = _; rw [if_pos h8]; rfl) kk
theorem q_copy {j b e n0 n1 : Nat} {sp dp n : Int32} {f g : Nat → Int32} (hc : mx_tb k pc = some (.invokestatic j, a, 23)) (h0 : h.2.2 e = .inl (0, n0, .inl f)) (h1 : h.2.2 b = .inl (0, n1, .inl g)) (hx : mx_ok8 r = true ∧ e < mx_big ∧ b < mx_big ∧ ¬ sp < 0 ∧ ¬ dp < 0 ∧ ¬ n < 0 ∧ sp.toNatClampNeg + n.toNatClampNeg ≤ n0 ∧ dp.toNatClampNeg + n.toNatClampNeg ≤ n1) (kk : wq d k (pc + 3) L r (mx_set h b (.inl (0, n1, .inl (va_cpy f g sp.toNatClampNeg dp.toNatClampNeg n.toNatClampNeg)))) Q) : wq d k pc L (.int n :: .int dp :: .ref b :: .int sp :: .ref e :: r) h Q := wq.do hc (s' := (pc + 3, L, r, mx_set h b (.inl (0, n1, .inl (va_cpy f g sp.toNatClampNeg dp.toNatClampNeg n.toNatClampNeg))))) (by
  show (match h.2.2 e, h.2.2 b with | .inl (0, n0, .inl f), .inl (0, n1, .inl g) => if mx_ok8 r = true ∧ e < mx_big ∧ b < mx_big ∧ ¬ sp < 0 ∧ ¬ dp < 0 ∧ ¬ n < 0 ∧ sp.toNatClampNeg + n.toNatClampNeg ≤ n0 ∧ dp.toNatClampNeg + n.toNatClampNeg ≤ n1 then mx_go (pc + 3, L, r, mx_set h b (.inl (0, n1, .inl (va_cpy f g sp.toNatClampNeg dp.toNatClampNeg n.toNatClampNeg)))) else none | _, _ => none) = _
  rw [h0, h1]; show (if _ then _ else none) = _; rw [if_pos hx]; rfl) kk
theorem q_clone {j b m : Nat} {f : Nat → Int32} (hc : mx_tb k pc = some (.invokevirtual j, a, 24)) (hh : h.2.2 b = .inl (0, m, .inl f)) (hx : mx_ok8 r = true ∧ b < mx_big ∧ h.1 < mx_big) (kk : wq d k (pc + 3) L (.ref h.1 :: r) (mx_new h m (.inl (0, m, .inl f))) Q) : wq d k pc L (.ref b :: r) h Q := wq.do hc (s' := (pc + 3, L, .ref h.1 :: r, mx_new h m (.inl (0, m, .inl f)))) (by
  show (match h.2.2 b with | .inl (0, n, .inl f) => if mx_ok8 r = true ∧ b < mx_big ∧ h.1 < mx_big then mx_go (pc + 3, L, .ref h.1 :: r, mx_new h n (.inl (0, n, .inl f))) else none | _ => none) = _
  rw [hh]; show (if _ then _ else none) = _; rw [if_pos hx]; rfl) kk
theorem q_slen {j b m : Nat} (hc : mx_tb k pc = some (.invokevirtual j, a, 25)) (hn : mx_slen b = some m) (h8 : mx_ok8 r = true) (kk : wq d k (pc + 3) L (.int (Int32.ofNat m) :: r) h Q) : wq d k pc L (.ref b :: r) h Q := wq.do hc (s' := (pc + 3, L, .int (Int32.ofNat m) :: r, h)) (by
  show (match mx_slen b with | some n => if mx_ok8 r = true then _ else none | none => none) = _
  rw [hn]; dsimp only; rw [if_pos h8]; rfl) kk
theorem q_schr {j b m : Nat} (hc : mx_tb k pc = some (.invokevirtual j, a, 26)) (hn : mx_slen b = some m) (h8 : mx_ok8 r = true) (hv : mx_vin x m = true) (kk : wq d k (pc + 3) L (.int ((mx_byt.getD (b - mx_big - 1) []).getD x.toNatClampNeg 0) :: r) h Q) : wq d k pc L (.int x :: .ref b :: r) h Q := wq.do hc (s' := (pc + 3, L, .int ((mx_byt.getD (b - mx_big - 1) []).getD x.toNatClampNeg 0) :: r, h)) (by
  show (match mx_slen b with | some n => if mx_ok8 r = true ∧ mx_vin x n = true then _ else none | none => none) = _
  rw [hn]; dsimp only; rw [if_pos ⟨h8, hv⟩]; rfl) kk
theorem q_obj {j b : Nat} (hc : mx_tb k pc = some (.invokespecial j, a, 27)) (h8 : mx_ok8 r = true) (kk : wq d k (pc + 3) L r h Q) : wq d k pc L (.ref b :: r) h Q := wq.do hc (s' := (pc + 3, L, r, h)) (by show (if mx_ok8 r = true then _ else none) = _; rw [if_pos h8]; rfl) kk
theorem mx_cal_eq {vs : List Value} (h8 : mx_ok8 r = true) (hl : (mx_pl vs).length ≤ mx_ml a) : mx_cal a vs pc r = some (.inr (.inl (a, vs, pc, r))) := by unfold mx_cal; rw [if_pos ⟨h8, hl⟩]
theorem q_callV {j b : Nat} {fs : List Value} (r : List Value) (hc : mx_tb k pc = some (.invokevirtual j, a, 1)) (hn : (st.take (mx_np a)).length = mx_np a) (hdr : st.drop (mx_np a) = .ref b :: r) (hh : h.2.2 b = .inr (mx_mc a, fs)) (h8 : mx_ok8 r = true) (hl : (mx_pl (.ref b :: (st.take (mx_np a)).reverse)).length ≤ mx_ml a) (hd : 1 ≤ d) (vs : List Value) (hvs : .ref b :: (st.take (mx_np a)).reverse = vs) (kk : wc (d - 1) a vs h (fun w h1 => wq d k (pc + 3) L (w.toList ++ r) h1 Q)) : wq d k pc L st h Q := by
  subst hvs
  refine wq.doC (pc' := pc + 3) (r := r) hc ?_ hd kk
  show (if (st.take (mx_np a)).length = mx_np a then match st.drop (mx_np a) with | .ref b :: r => (match h.2.2 b with | .inr (ci, _) => if ci = mx_mc a then mx_cal a (.ref b :: (st.take (mx_np a)).reverse) (pc + 3) r else none | _ => none) | _ => none else none) = _
  rw [if_pos hn, hdr]
  dsimp only
  rw [hh]
  dsimp only
  rw [if_pos rfl]
  exact mx_cal_eq h8 hl
theorem q_callS {j : Nat} (r : List Value) (hv : v = 3 ∨ v = 4) (hc : mx_tb k pc = some (.invokestatic j, a, v)) (hn : (st.take (mx_np a)).length = mx_np a) (hdr : st.drop (mx_np a) = r) (h8 : mx_ok8 r = true) (hl : (mx_pl (st.take (mx_np a)).reverse).length ≤ mx_ml a) (hd : 1 ≤ d) (vs : List Value) (hvs : (st.take (mx_np a)).reverse = vs) (kk : wc (d - 1) a vs h (fun w h1 => wq d k (pc + 3) L (w.toList ++ r) h1 Q)) : wq d k pc L st h Q := by
  subst hvs
  refine wq.doC (pc' := pc + 3) (r := r) hc ?_ hd kk
  have e : mx_do k (.invokestatic j) a v pc L st h = (if (st.take (mx_np a)).length = mx_np a then mx_cal a (st.take (mx_np a)).reverse (pc + 3) (st.drop (mx_np a)) else none) := by rcases hv with rfl | rfl <;> rfl
  rw [e, if_pos hn, hdr]
  exact mx_cal_eq h8 hl
theorem q_callI {j b : Nat} (r : List Value) (hv : v = 5 ∨ v = 6) (hc : mx_tb k pc = some (.invokespecial j, a, v)) (hn : (st.take (mx_np a)).length = mx_np a) (hdr : st.drop (mx_np a) = .ref b :: r) (h8 : mx_ok8 r = true) (hl : (mx_pl (.ref b :: (st.take (mx_np a)).reverse)).length ≤ mx_ml a) (hd : 1 ≤ d) (vs : List Value) (hvs : .ref b :: (st.take (mx_np a)).reverse = vs) (kk : wc (d - 1) a vs h (fun w h1 => wq d k (pc + 3) L (w.toList ++ r) h1 Q)) : wq d k pc L st h Q := by
  subst hvs
  refine wq.doC (pc' := pc + 3) (r := r) hc ?_ hd kk
  have e : mx_do k (.invokespecial j) a v pc L st h = (if (st.take (mx_np a)).length = mx_np a then match st.drop (mx_np a) with | .ref b :: r => mx_cal a (.ref b :: (st.take (mx_np a)).reverse) (pc + 3) r | _ => none else none) := by rcases hv with rfl | rfl <;> rfl
  rw [e, if_pos hn, hdr]
  exact mx_cal_eq h8 hl
theorem q_iret (hc : mx_tb k pc = some (.ireturn, a, v)) (hr : mx_ri (mx_mr k) x = true) (hq : Q (some (.int x)) h) : wq d k pc L [.int x] h Q := wq.doR hc (w := some (.int x)) (by show (if mx_ri (mx_mr k) x = true then _ else none) = _; rw [if_pos hr]; rfl) hq
theorem q_lret (hc : mx_tb k pc = some (.lreturn, a, v)) (hr : mx_mr k = some .long) (hq : Q (some (.long lx)) h) : wq d k pc L [.long lx] h Q := wq.doR hc (w := some (.long lx)) (by show (if mx_mr k = some .long then _ else none) = _; rw [if_pos hr]; rfl) hq
theorem q_aret {b : Nat} (hc : mx_tb k pc = some (.areturn, a, v)) (hr : mx_ro (mx_mr k) = true) (hq : Q (some (.ref b)) h) : wq d k pc L [.ref b] h Q := wq.doR hc (w := some (.ref b)) (by show (if mx_ro (mx_mr k) = true then _ else none) = _; rw [if_pos hr]; rfl) hq
theorem q_aretN (hc : mx_tb k pc = some (.areturn, a, v)) (hr : mx_ro (mx_mr k) = true) (hq : Q (some .null) h) : wq d k pc L [.null] h Q := wq.doR hc (w := some .null) (by show (if mx_ro (mx_mr k) = true then _ else none) = _; rw [if_pos hr]; rfl) hq
theorem q_vret (hc : mx_tb k pc = some (.return_, a, v)) (hr : mx_mr k = none) (hq : Q none h) : wq d k pc L [] h Q := wq.doR hc (w := none) (by show (if mx_mr k = none then _ else none) = _; rw [if_pos hr]; rfl) hq
/-- a method's first step -/
theorem wc.go {k : Nat} {vs : List Value} (L : mx_L) (hL : mx_ent (mx_ml k) vs = L) (kk : wq d k 0 L [] h Q) : wc d k vs h Q := by
  subst hL
  exact kk
end WQ
end
section
/-! ===== from the law's entry: the machine holds what the small machine asks ===== -/
def mx_h0 (Ls : Nat) (xs : Nat → Int32) : mx_H := (0, 0, fun i => if i = mx_big then .inl (0, Ls, .inl xs) else mx_nil)
def mx_tm (i : Nat) : Term := Term.string (mx_strs.getD i ("", 0, "")).1 (mx_strs.getD i ("", 0, "")).2.1
def mx_gn : List Cond := flatC (Jvm.Cond.and given_1 narrow_1)
set_option maxRecDepth 100000 in
theorem mx_g1 : ∀ i, i < mx_byt.length → Cond.exactly (mx_tm i) "java/lang/String" ∈ mx_gn := by decide +kernel
set_option maxRecDepth 100000 in
theorem mx_g2 : ∀ i, i < mx_byt.length → Cond.eq (.field (mx_tm i) "java/lang/String" "coder" "B") (.int 0) ∈ mx_gn := by decide +kernel
set_option maxRecDepth 100000 in
theorem mx_g3 : ∀ i, i < mx_byt.length → Cond.arrayOf (.field (mx_tm i) "java/lang/String" "value" "[B") .byte ∈ mx_gn := by decide +kernel
set_option maxRecDepth 100000 in
theorem mx_g4 : ∀ i, i < mx_byt.length → Cond.eq (.length (.field (mx_tm i) "java/lang/String" "value" "[B")) (.int (Int32.ofNat (mx_slens.getD i 0))) ∈ mx_gn := by decide +kernel
set_option maxRecDepth 100000 in
theorem mx_g5 : ∀ i, i < mx_byt.length → ∀ j, j < mx_slens.getD i 0 → Cond.eq (.elem (.field (mx_tm i) "java/lang/String" "value" "[B") (.int (Int32.ofNat j))) (.int ((mx_byt.getD i []).getD j 0)) ∈ mx_gn := by decide +kernel
def mx_np6 : List (Nat × Nat × Nat) := [(0, 1, 90), (0, 2, 98), (0, 3, 110), (0, 4, 121), (0, 5, 135), (0, 6, 150), (0, 7, 165), (0, 8, 180), (0, 9, 198), (0, 10, 213), (0, 11, 230), (0, 12, 248), (1, 2, 99), (1, 3, 111), (1, 4, 122), (1, 5, 136), (1, 6, 151), (1, 7, 166), (1, 8, 181), (1, 9, 199), (1, 10, 214), (1, 11, 231), (1, 12, 249), (2, 3, 112), (2, 4, 123), (2, 5, 137), (2, 6, 152), (2, 7, 167), (2, 8, 182), (2, 9, 200), (2, 10, 215), (2, 11, 232), (2, 12, 250), (3, 4, 124), (3, 5, 138), (3, 6, 153), (3, 7, 168), (3, 8, 183), (3, 9, 201), (3, 10, 216), (3, 11, 233), (3, 12, 251), (4, 5, 139), (4, 6, 154), (4, 7, 169), (4, 8, 184), (4, 9, 202), (4, 10, 217), (4, 11, 234), (4, 12, 252), (5, 6, 155), (5, 7, 170), (5, 8, 185), (5, 9, 203), (5, 10, 218), (5, 11, 235), (5, 12, 253), (6, 7, 171), (6, 8, 186), (6, 9, 204), (6, 10, 219), (6, 11, 236), (6, 12, 254), (7, 8, 187), (7, 9, 205), (7, 10, 220), (7, 11, 237), (7, 12, 255), (8, 9, 206), (8, 10, 221), (8, 11, 238), (8, 12, 256), (9, 10, 222), (9, 11, 239), (9, 12, 257), (10, 11, 240), (10, 12, 258), (11, 12, 259)]
set_option maxRecDepth 100000 in
theorem mx_g6a : mx_np6.all (fun q => decide (mx_gn[q.2.2]? = some (Cond.not (Cond.eq (mx_tm q.1) (mx_tm q.2.1))))) = true := by decide +kernel
set_option maxRecDepth 100000 in
theorem mx_g6b : ∀ i, i < mx_byt.length → ∀ j, j < mx_byt.length → i ≠ j → (mx_np6.any (fun q => (q.1 == i && q.2.1 == j) || (q.1 == j && q.2.1 == i))) = true := by decide +kernel
theorem mx_g6 : ∀ i, i < mx_byt.length → ∀ j, j < mx_byt.length → i ≠ j → Cond.not (Cond.eq (mx_tm i) (mx_tm j)) ∈ mx_gn ∨ Cond.not (Cond.eq (mx_tm j) (mx_tm i)) ∈ mx_gn := by
  intro i hi j hj hij
  obtain ⟨q, hq, h⟩ := List.any_eq_true.mp (mx_g6b i hi j hj hij)
  have h2 := List.mem_of_getElem? (of_decide_eq_true (List.all_eq_true.mp mx_g6a q hq))
  simp only [Bool.or_eq_true, Bool.and_eq_true, beq_iff_eq] at h
  rcases h with ⟨h3, h4⟩ | ⟨h3, h4⟩
  · rw [h3, h4] at h2
    exact Or.inl h2
  · rw [h3, h4] at h2
    exact Or.inr h2
set_option maxRecDepth 100000 in
theorem mx_g7 : Cond.eq (.static "java/lang/String" "COMPACT_STRINGS" "Z") (.int 1) ∈ mx_gn ∧ Cond.isRef (.static "jdk/internal/util/Preconditions" "SIOOBE_FORMATTER" "Ljava/util/function/BiFunction;") ∈ mx_gn := by decide +kernel
set_option maxRecDepth 100000 in
theorem mx_g8 : ∀ i, i < mx_byt.length → mx_slens.getD i 0 < 2 ^ 31 := by decide +kernel
set_option maxRecDepth 100000 in
theorem mx_i0 : Cond.instantiable RX0 6 ∈ lw_tbl := List.mem_of_getElem? (i := 106) rfl
set_option maxRecDepth 100000 in
theorem mx_i1 : Cond.instantiable RX1 2 ∈ lw_tbl := List.mem_of_getElem? (i := 239) rfl
set_option maxRecDepth 100000 in
theorem mx_i2 : Cond.instantiable RX2 4 ∈ lw_tbl := List.mem_of_getElem? (i := 113) rfl
set_option maxRecDepth 100000 in
theorem mx_i3 : Cond.instantiable RX3 10 ∈ lw_tbl := List.mem_of_getElem? (i := 175) rfl
set_option maxRecDepth 100000 in
theorem mx_i4 : Cond.instantiable RX4 5 ∈ lw_tbl := List.mem_of_getElem? (i := 214) rfl
set_option maxRecDepth 100000 in
theorem mx_i5 : Cond.instantiable RX5 3 ∈ lw_tbl := List.mem_of_getElem? (i := 285) rfl
set_option maxRecDepth 100000 in
theorem mx_i6 : Cond.instantiable RX6 2 ∈ lw_tbl := List.mem_of_getElem? (i := 469) rfl
set_option maxRecDepth 100000 in
theorem mx_i7 : Cond.instantiable RX7 7 ∈ lw_tbl := List.mem_of_getElem? (i := 254) rfl
set_option maxRecDepth 100000 in
theorem mx_i8 : Cond.instantiable RX8 9 ∈ lw_tbl := List.mem_of_getElem? (i := 98) rfl
set_option maxRecDepth 100000 in
theorem mx_i9 : Cond.instantiable RX9 36 ∈ lw_tbl := List.mem_of_getElem? (i := 955) rfl
set_option maxRecDepth 100000 in
theorem mx_o0 : Cond.arrayOver (.object "BeachIsRelaid$One") ∈ lw_tbl := List.mem_of_getElem? (i := 112) rfl
set_option maxRecDepth 100000 in
theorem mx_o1 : Cond.arrayOver (.object "BeachIsRelaid$Text") ∈ lw_tbl := List.mem_of_getElem? (i := 220) rfl
set_option maxRecDepth 100000 in
theorem mx_o2 : Cond.arrayOver (.object "BeachIsRelaid$Sheet") ∈ lw_tbl := List.mem_of_getElem? (i := 284) rfl
set_option maxRecDepth 100000 in
theorem mx_z1 : Cond.laysStatic "java/lang/String" "COMPACT_STRINGS" "Z" ∈ lw_tbl := List.mem_of_getElem? (i := 314) rfl
set_option maxRecDepth 100000 in
theorem mx_z2 : Cond.laysStatic "jdk/internal/util/Preconditions" "SIOOBE_FORMATTER" "Ljava/util/function/BiFunction;" ∈ lw_tbl := List.mem_of_getElem? (i := 330) rfl
set_option maxRecDepth 100000 in
theorem mx_z3 : Cond.initialized "java/lang/String" ∈ lw_tbl := List.mem_of_getElem? (i := 87) rfl
set_option maxRecDepth 100000 in
theorem mx_z4 : Cond.initialized "jdk/internal/util/Preconditions" ∈ lw_tbl := List.mem_of_getElem? (i := 89) rfl
set_option maxRecDepth 100000 in
theorem mx_z5 : Cond.castable "[I" "java/lang/Cloneable" ∈ lw_tbl := List.mem_of_getElem? (i := 475) rfl
set_option maxRecDepth 100000 in
theorem mx_z6 : ∀ q ∈ mx_nst, Cond.methodLinkNest q.1 q.2.1 q.2.2 "BeachIsRelaid" ∈ lw_tbl := by
  exact List.forall_mem_cons.mpr ⟨List.mem_of_getElem? (i := 114) rfl, List.forall_mem_cons.mpr ⟨List.mem_of_getElem? (i := 176) rfl, List.forall_mem_cons.mpr ⟨List.mem_of_getElem? (i := 215) rfl, List.forall_mem_cons.mpr ⟨List.mem_of_getElem? (i := 240) rfl, List.forall_mem_cons.mpr ⟨List.mem_of_getElem? (i := 255) rfl, List.forall_mem_cons.mpr ⟨List.mem_of_getElem? (i := 286) rfl, List.forall_mem_cons.mpr ⟨List.mem_of_getElem? (i := 456) rfl, List.forall_mem_cons.mpr ⟨List.mem_of_getElem? (i := 542) rfl, List.forall_mem_cons.mpr ⟨List.mem_of_getElem? (i := 588) rfl, List.forall_mem_cons.mpr ⟨List.mem_of_getElem? (i := 612) rfl, List.forall_mem_cons.mpr ⟨List.mem_of_getElem? (i := 639) rfl, List.forall_mem_cons.mpr ⟨List.mem_of_getElem? (i := 648) rfl, List.forall_mem_cons.mpr ⟨List.mem_of_getElem? (i := 679) rfl, List.forall_mem_cons.mpr ⟨List.mem_of_getElem? (i := 683) rfl, List.forall_mem_cons.mpr ⟨List.mem_of_getElem? (i := 686) rfl, List.forall_mem_cons.mpr ⟨List.mem_of_getElem? (i := 719) rfl, List.forall_mem_cons.mpr ⟨List.mem_of_getElem? (i := 764) rfl, List.forall_mem_cons.mpr ⟨List.mem_of_getElem? (i := 765) rfl, List.forall_mem_cons.mpr ⟨List.mem_of_getElem? (i := 766) rfl, List.forall_mem_cons.mpr ⟨List.mem_of_getElem? (i := 793) rfl, List.forall_mem_cons.mpr ⟨List.mem_of_getElem? (i := 900) rfl, fun _ h => absurd h List.not_mem_nil⟩⟩⟩⟩⟩⟩⟩⟩⟩⟩⟩⟩⟩⟩⟩⟩⟩⟩⟩⟩⟩
set_option maxRecDepth 100000 in
theorem mx_z7 : ∀ q ∈ mx_strs, Cond.stringRef q.1 q.2.1 q.2.2 ∈ lw_tbl := by
  exact List.forall_mem_cons.mpr ⟨List.mem_of_getElem? (i := 304) rfl, List.forall_mem_cons.mpr ⟨List.mem_of_getElem? (i := 391) rfl, List.forall_mem_cons.mpr ⟨List.mem_of_getElem? (i := 398) rfl, List.forall_mem_cons.mpr ⟨List.mem_of_getElem? (i := 399) rfl, List.forall_mem_cons.mpr ⟨List.mem_of_getElem? (i := 400) rfl, List.forall_mem_cons.mpr ⟨List.mem_of_getElem? (i := 401) rfl, List.forall_mem_cons.mpr ⟨List.mem_of_getElem? (i := 402) rfl, List.forall_mem_cons.mpr ⟨List.mem_of_getElem? (i := 403) rfl, List.forall_mem_cons.mpr ⟨List.mem_of_getElem? (i := 404) rfl, List.forall_mem_cons.mpr ⟨List.mem_of_getElem? (i := 405) rfl, List.forall_mem_cons.mpr ⟨List.mem_of_getElem? (i := 406) rfl, List.forall_mem_cons.mpr ⟨List.mem_of_getElem? (i := 407) rfl, List.forall_mem_cons.mpr ⟨List.mem_of_getElem? (i := 408) rfl, fun _ h => absurd h List.not_mem_nil⟩⟩⟩⟩⟩⟩⟩⟩⟩⟩⟩⟩⟩
theorem mx_prim {args : Array Value} {s : State} {ty : FieldType} (h : (Cond.arrayClass ty).before args s = true) (hp : ∀ C, ty ≠ .object C) : ∃ cA : ClassId, ArrOfT s cA ty ∧ va_RA s cA ty := by
  obtain ⟨cA, kA, comp, h1, h2, h3⟩ := Cond.arrayClass_spec h
  refine ⟨cA, fun n z => ⟨fun k h => (by cases h), kA, h2, comp, h3⟩, ?_⟩
  cases ty <;> first | exact h1 | exact absurd rfl (hp _)
theorem mx_refA {args : Array Value} {s : State} {C : String} (h : (Cond.arrayOver (.object C)).before args s = true) : ∃ cA : ClassId, ArrOfT s cA (.object C) ∧ va_RA s cA (.object C) := by
  obtain ⟨comp, cA, kA, h1, h2, h3, h4, h5⟩ := Cond.arrayOver_spec h
  exact ⟨cA, fun n z => ⟨fun k h => (by cases h), kA, h3, comp, h4⟩, kA, comp, h3, h4, h1, h5⟩
set_option maxRecDepth 100000 in
theorem mx_start {s : State} {args : Array Value} {b L : Nat} {xs : Nat → Int32} (hts : ∀ w ∈ lw_tbl, w.before args s = true) (hX : va_X b L xs s s.heap) (hbl : b < s.heap.size) (hgv : (Jvm.Cond.and given_1 narrow_1).before args s = true) :
    ∃ (dC : Nat → ClassId) (dI : Nat → Nat → Nat) (tc : Nat → ClassId) (sa av : Nat → Nat), sa 0 = b ∧ mx_KK dC dI tc sa s ∧ mx_EX sa s.heap.size L xs av s s.heap := by
  have hts2 : ∀ w ∈ mx_ts, w.before args s = true := fun w hw => hts w (List.mem_filter.mp hw).1
  have hg : ∀ c ∈ mx_gn, c.before args s = true := flat_of_before _ hgv
  have hA : ∀ a : Nat, a < s.heap.size → ¬ mx_A s.heap.size a := fun a h1 h2 => absurd h1 (Nat.not_lt.mpr h2)
  obtain ⟨adK, adV, hS, hSe⟩ := vk_Sof (args := args) (s := s) (N := mx_byt.length) (tm := mx_tm) (len := mx_slens) (byt := mx_byt) (A := mx_A s.heap.size) mx_g8 (fun i hi => hg _ (mx_g1 i hi)) (fun i hi => hg _ (mx_g2 i hi)) (fun i hi => hg _ (mx_g3 i hi)) (fun i hi => hg _ (mx_g4 i hi)) (fun i hi j hj => hg _ (mx_g5 i hi j hj)) (fun i j hi hj hij => (mx_g6 i hi j hj hij).imp (hg _) (hg _)) hA
  have hkn : ∀ c : Nat, ∃ q : ClassId × (Nat → Nat), ∀ r : vw_C, mx_cl[c]? = some r → u_Kn s r.1 r.2.1 r.2.2 q.1 q.2 := by
    intro c
    cases hr : mx_cl[c]? with
    | none => exact ⟨(0, fun _ => 0), fun r h => by cases h⟩
    | some r =>
      have hi : Cond.instantiable r.1 r.2.2 ∈ lw_tbl := by
        have hlt : c < 10 := (List.getElem?_eq_some_iff.mp hr).1
        match c, hlt, hr with
        | 0, _, hr => cases hr; exact mx_i0
        | 1, _, hr => cases hr; exact mx_i1
        | 2, _, hr => cases hr; exact mx_i2
        | 3, _, hr => cases hr; exact mx_i3
        | 4, _, hr => cases hr; exact mx_i4
        | 5, _, hr => cases hr; exact mx_i5
        | 6, _, hr => cases hr; exact mx_i6
        | 7, _, hr => cases hr; exact mx_i7
        | 8, _, hr => cases hr; exact mx_i8
        | 9, _, hr => cases hr; exact mx_i9
      obtain ⟨cC, iS, h⟩ := u_known (C := r.1) (T := r.2.1) (N := r.2.2) (n := r.2.2) hts2 (mx_uws c r hr) (hts _ hi)
      exact ⟨(cC, iS), fun r2 h2 => by cases h2; exact h⟩
  obtain ⟨dd, hdd⟩ := Classical.axiomOfChoice hkn
  obtain ⟨t0, a0, r0⟩ := mx_prim (hts2 _ mx_aI) (fun C h => by cases h)
  obtain ⟨t1, a1, r1⟩ := mx_prim (hts2 _ mx_aZ) (fun C h => by cases h)
  obtain ⟨t2, a2, r2⟩ := mx_prim (hts2 _ mx_aC) (fun C h => by cases h)
  obtain ⟨t3, a3, r3⟩ := mx_refA (hts _ mx_o0)
  obtain ⟨t4, a4, r4⟩ := mx_refA (hts _ mx_o1)
  obtain ⟨t5, a5, r5⟩ := mx_refA (hts _ mx_o2)
  refine ⟨fun c => (dd c).1, fun c => (dd c).2, fun t => [t0, t1, t2, t3, t4, t5].getD t 0, fun j => if j = 0 then b else adK (j - 1), adV, rfl, ⟨⟨fun c q hq => hdd c q hq, ?_⟩, fun q hq => va_Nw.of rfl (hts _ (mx_z6 q hq)), ?_, ⟨va_AO.of (hts _ mx_o0), va_AO.of (hts _ mx_o1), va_AO.of (hts _ mx_o2)⟩, va_Nw.of rfl (hts _ mx_z5)⟩, ⟨hbl, hX, ?_, va_Zof (hts _ mx_z1) (hts _ mx_z3) (va_eqt (hg _ mx_g7.1)) hA, va_Zqof (hts _ mx_z2) (hts _ mx_z4) (hg _ mx_g7.2) hA⟩⟩
  · intro k q hq
    have hlt : k < 6 := (List.getElem?_eq_some_iff.mp hq).1
    match k, hlt, hq with
    | 0, _, hq => cases hq; exact ⟨a0, r0⟩
    | 1, _, hq => cases hq; exact ⟨a1, r1⟩
    | 2, _, hq => cases hq; exact ⟨a2, r2⟩
    | 3, _, hq => cases hq; exact ⟨a3, r3⟩
    | 4, _, hq => cases hq; exact ⟨a4, r4⟩
    | 5, _, hq => cases hq; exact ⟨a5, r5⟩
  · intro j q hq
    have hj : j < mx_byt.length := (List.getElem?_eq_some_iff.mp hq).1
    have he := hSe j hj
    have hg0 : mx_strs.getD j ("", 0, "") = q := by rw [List.getD_eq_getElem?_getD, hq]; rfl
    unfold mx_tm at he
    rw [hg0] at he
    show vk_R q.1 q.2.1 q.2.2 (if j + 1 = 0 then b else adK (j + 1 - 1)) s
    rw [if_neg (Nat.succ_ne_zero j), Nat.add_sub_cancel]
    exact vk_R.of (A := args) (hts _ (mx_z7 q (List.mem_of_getElem? hq))) he
  · have hfe : (fun j => if j + 1 = 0 then b else adK (j + 1 - 1)) = adK := by
      funext j
      rw [if_neg (Nat.succ_ne_zero j), Nat.add_sub_cancel]
    rw [hfe]
    exact hS
end
section
/-! ===== words for the pure contracts: naturals in ints, arrays, frames ===== -/
theorem x_le {a b : Nat} (h : nI a ≤ nI b) (ha : a < 2 ^ 31) (hb : b < 2 ^ 31) : a ≤ b := (nI_leI ha hb).mp h
theorem x_nle {a b : Nat} (h : ¬ nI a ≤ nI b) (ha : a < 2 ^ 31) (hb : b < 2 ^ 31) : b < a := Nat.not_le.mp fun z => h ((nI_leI ha hb).mpr z)
theorem x_lt {a b : Nat} (h : nI a < nI b) (ha : a < 2 ^ 31) (hb : b < 2 ^ 31) : a < b := (nI_ltI ha hb).mp h
theorem x_nlt {a b : Nat} (h : ¬ nI a < nI b) (ha : a < 2 ^ 31) (hb : b < 2 ^ 31) : b ≤ a := Nat.not_lt.mp fun z => h ((nI_ltI ha hb).mpr z)
theorem x_eq {a b : Nat} (h : nI a = nI b) (ha : a < 2 ^ 31) (hb : b < 2 ^ 31) : a = b := (nI_eq ha hb).mp h
theorem x_ne {a b : Nat} (h : ¬ nI a = nI b) : a ≠ b := fun z => h (by rw [z])
theorem x_neg {a : Nat} (ha : a < 2 ^ 31) : ¬ nI a < 0 := nI_pos ha
theorem x_of {x : Int32} (h : ¬ x < 0) : ∃ j : Nat, j < 2 ^ 31 ∧ x = nI j := nI_of h
theorem x_sub {a b : Nat} (h : b ≤ a) : nI a - nI b = nI (a - b) := pk_sub h
theorem x_big {x : Int32} {n : Nat} (hn : n < 2 ^ 31) (h1 : ¬ x < 0) (h2 : ¬ nI n ≤ x) : ∃ j : Nat, j < n ∧ x = nI j := by
  obtain ⟨j, hj, rfl⟩ := nI_of h1
  exact ⟨j, x_nle h2 hn hj, rfl⟩
theorem x_upto {x : Int32} {n : Nat} (hn : n < 2 ^ 31) (h1 : ¬ x < 0) (h2 : x ≤ nI n) : ∃ j : Nat, j ≤ n ∧ x = nI j := by
  obtain ⟨j, hj, rfl⟩ := nI_of h1
  exact ⟨j, x_le h2 hj hn, rfl⟩
theorem x_vin {j n : Nat} (h : j < n) (hn : n < 2 ^ 31) : mx_vin (nI j) n = true := by
  unfold mx_vin
  exact decide_eq_true (vp_in_nI h hn)
theorem x_cl {j : Nat} (h : j < 2 ^ 31) : (nI j).toNatClampNeg = j := nI_clamp h
def dif (a b : Nat) : Nat := (a - b) + (b - a)
def ab32 (x : Int32) : Int32 := if 0 ≤ x then x else 0 - x
theorem x_dif {a b : Nat} (ha : a < 2 ^ 30) (hb : b < 2 ^ 30) : ab32 (nI a - nI b) = nI (dif a b) := by
  unfold ab32 dif
  by_cases h : b ≤ a
  · rw [x_sub h, if_pos (nI_pos' (by omega)), show b - a = 0 by omega, Nat.add_zero]
  · have hneg := pk_sneg hb (show a < b by omega)
    rw [if_neg (Int32.not_le.mpr hneg), show a - b = 0 by omega, Nat.zero_add]
    rw [Int32.zero_sub, Int32.neg_sub]
    exact x_sub (by omega)
theorem x_div6 {a : Nat} (ha : a < 2 ^ 31) : nI a / 6 = nI (a / 6) := pk_div ha (by decide) (by decide)
theorem x_rem6 {a : Nat} (ha : a < 2 ^ 31) : nI a - nI a / 6 * 6 = nI (a % 6) := pk_rem ha (by decide) (by decide)
/-- how far cells are apart -/
def apN (a b : Nat) : Nat := dif (a % 6) (b % 6) + dif (a / 6) (b / 6)
theorem apN_le {a b : Nat} (ha : a < 36) (hb : b < 36) : apN a b ≤ 10 := by
  unfold apN dif
  omega
/-- nothing else has changed -/
def fr (h h' : mx_H) (S : Nat → Prop) : Prop := h'.1 = h.1 ∧ h'.2.1 = h.2.1 ∧ ∀ i, ¬ S i → h'.2.2 i = h.2.2 i
theorem fr.rf {h : mx_H} {S : Nat → Prop} : fr h h S := ⟨rfl, rfl, fun _ _ => rfl⟩
theorem fr.tr {h h1 h2 : mx_H} {S : Nat → Prop} (a : fr h h1 S) (b : fr h1 h2 S) : fr h h2 S := ⟨b.1.trans a.1, b.2.1.trans a.2.1, fun i hi => (b.2.2 i hi).trans (a.2.2 i hi)⟩
theorem fr.mono {h h1 : mx_H} {S S' : Nat → Prop} (a : fr h h1 S) (hs : ∀ i, S i → S' i) : fr h h1 S' := ⟨a.1, a.2.1, fun i hi => a.2.2 i (fun z => hi (hs i z))⟩
/-- an array of ints -/
def ia (h : mx_H) (b n : Nat) (F : Nat → Int32) : Prop := ∃ f, h.2.2 b = .inl (0, n, .inl f) ∧ ∀ j, j < n → f j = F j
theorem ia.fr {h h' : mx_H} {b n : Nat} {F : Nat → Int32} {S : Nat → Prop} (a : ia h b n F) (f : fr h h' S) (hs : ¬ S b) : ia h' b n F := by
  obtain ⟨g, h1, h2⟩ := a
  exact ⟨g, (f.2.2 b hs).trans h1, h2⟩
theorem ia.to {h : mx_H} {b n : Nat} {F G : Nat → Int32} (a : ia h b n F) (e : ∀ j, j < n → F j = G j) : ia h b n G := by
  obtain ⟨g, h1, h2⟩ := a
  exact ⟨g, h1, fun j hj => (h2 j hj).trans (e j hj)⟩
/-- an object -/
theorem ob.fr {h h' : mx_H} {b : Nat} {e : mx_E} {S : Nat → Prop} (a : h.2.2 b = e) (f : fr h h' S) (hs : ¬ S b) : h'.2.2 b = e := (f.2.2 b hs).trans a
theorem fr_set (h : mx_H) (b : Nat) (e : mx_E) : fr h (mx_set h b e) (fun i => i = b) := ⟨rfl, rfl, fun i hi => by simp [mx_set, hi]⟩
theorem set_at (h : mx_H) (b : Nat) (e : mx_E) : (mx_set h b e).2.2 b = e := by simp [mx_set]
section WR
variable {d k pc a : Nat} {v : Int} {L L' : mx_L} {st r : List Value} {h : mx_H} {Q : Option Value → mx_H → Prop} {x y : Int32}
theorem r_ild {b n : Nat} {F : Nat → Int32} (hc : mx_tb k pc = some (.iaload, a, v)) (A : ia h b n F) (j : Nat) (hx : x = nI j) (hj : j < n) (hn : n < 2 ^ 31) (kk : wq d k (pc + 1) L (.int (F j) :: r) h Q) : wq d k pc L (.int x :: .ref b :: r) h Q := by
  obtain ⟨f, h1, h2⟩ := A
  subst hx
  refine q_iaload hc h1 (x_vin hj hn) ?_
  rw [x_cl (by omega), h2 j hj]
  exact kk
theorem r_ist {b n : Nat} {F : Nat → Int32} (hc : mx_tb k pc = some (.iastore, a, v)) (A : ia h b n F) (hb : b < mx_big) (j : Nat) (hx : x = nI j) (hj : j < n) (hn : n < 2 ^ 31) (kk : ∀ h', ia h' b n (upd F j y) → fr h h' (fun i => i = b) → wq d k (pc + 1) L r h' Q) : wq d k pc L (.int y :: .int x :: .ref b :: r) h Q := by
  obtain ⟨f, h1, h2⟩ := A
  subst hx
  refine q_iastore hc h1 hb (x_vin hj hn) ?_
  rw [x_cl (by omega)]
  refine kk _ ⟨upd f j y, set_at _ _ _, fun i hi => ?_⟩ (fr_set _ _ _)
  unfold upd
  split
  · rfl
  · exact h2 i hi
theorem r_pf {j b ci : Nat} {fs fs' : List Value} {va : Value} (hc : mx_tb k pc = some (.putfield j, a, v)) (hh : h.2.2 b = .inr (ci, fs)) (hi : ci = a / 100) (hl : a % 100 < fs.length) (hf : mx_fit (mx_tyf a) va = true) (hs : fs.set (a % 100) va = fs') (kk : ∀ h', h'.2.2 b = .inr (ci, fs') → fr h h' (fun i => i = b) → wq d k (pc + 3) L r h' Q) : wq d k pc L (va :: .ref b :: r) h Q :=
  q_putf hc hh hi hl hf hs (kk _ (set_at _ _ _) (fr_set _ _ _))
end WR
end
section
/-! ===== small static methods of both ===== -/
section P18
variable {d : Nat} {h : mx_H} {Q : Option Value → mx_H → Prop} {x y z : Int32}
theorem c_isCell (ht : ∀ j, j < 36 → x = nI j → Q (some (.int 1)) h) (hf : (x < 0 ∨ nI 36 ≤ x) → Q (some (.int 0)) h) : wc d 126 [.int x] h Q := by
  refine wc.go [_] rfl ?_
  refine q_iload_n (pc := 0) rfl rfl ?_
  refine q_iflt (pc := 1) rfl (fun h1 => ?_) (fun h1 => ?_)
  · have g : x < 0 ∨ nI 36 ≤ x := Or.inl h1
    refine q_iconst (pc := 14) rfl (0) (by decide) ?_
    refine q_iret (pc := 15) rfl (rfl) ?_
    first | exact hf g | exact ht j hj hx
  · refine q_iload_n (pc := 4) rfl rfl ?_
    refine q_bipush (pc := 5) rfl (36) (by decide) ?_
    refine q_icmpge (pc := 7) rfl (fun h7 => ?_) (fun h7 => ?_)
    · have g : x < 0 ∨ nI 36 ≤ x := Or.inr h7
      refine q_iconst (pc := 14) rfl (0) (by decide) ?_
      refine q_iret (pc := 15) rfl (rfl) ?_
      first | exact hf g | exact ht j hj hx
    · obtain ⟨j, hj, hx⟩ := x_big (by decide) h1 h7
      refine q_iconst (pc := 10) rfl (1) (by decide) ?_
      refine q_goto (pc := 11) rfl ?_
      refine q_iret (pc := 15) rfl (rfl) ?_
      first | exact hf g | exact ht j hj hx
theorem c_isIn (ht : y ≤ x → x ≤ z → Q (some (.int 1)) h) (hf : ¬ (y ≤ x ∧ x ≤ z) → Q (some (.int 0)) h) : wc d 132 [.int x, .int y, .int z] h Q := by
  refine wc.go [_, _, _] rfl ?_
  refine q_iload_n (pc := 0) rfl rfl ?_
  refine q_iload_n (pc := 1) rfl rfl ?_
  refine q_icmplt (pc := 2) rfl (fun h2 => ?_) (fun h2 => ?_)
  · refine q_iconst (pc := 14) rfl (0) (by decide) ?_
    refine q_iret (pc := 15) rfl (rfl) ?_
    first | exact ht (Int32.not_lt.mp h2) (Int32.not_lt.mp h7) | exact hf (fun g => absurd h2 (Int32.not_lt.mpr g.1)) | exact hf (fun g => absurd h7 (Int32.not_lt.mpr g.2))
  · refine q_iload_n (pc := 5) rfl rfl ?_
    refine q_iload_n (pc := 6) rfl rfl ?_
    refine q_icmpgt (pc := 7) rfl (fun h7 => ?_) (fun h7 => ?_)
    · refine q_iconst (pc := 14) rfl (0) (by decide) ?_
      refine q_iret (pc := 15) rfl (rfl) ?_
      first | exact ht (Int32.not_lt.mp h2) (Int32.not_lt.mp h7) | exact hf (fun g => absurd h2 (Int32.not_lt.mpr g.1)) | exact hf (fun g => absurd h7 (Int32.not_lt.mpr g.2))
    · refine q_iconst (pc := 10) rfl (1) (by decide) ?_
      refine q_goto (pc := 11) rfl ?_
      refine q_iret (pc := 15) rfl (rfl) ?_
      first | exact ht (Int32.not_lt.mp h2) (Int32.not_lt.mp h7) | exact hf (fun g => absurd h2 (Int32.not_lt.mpr g.1)) | exact hf (fun g => absurd h7 (Int32.not_lt.mpr g.2))
def mn32 (x y : Int32) : Int32 := if y < x then y else x
def mxx32 (x y : Int32) : Int32 := if x < y then y else x
theorem c_bound (hq : Q (some (.int (mxx32 y (mn32 x z)))) h) : wc d 130 [.int x, .int y, .int z] h Q := by
  refine wc.go [_, _, _] rfl ?_
  refine q_iload_n (pc := 0) rfl rfl ?_
  refine q_iload_n (pc := 1) rfl rfl ?_
  refine q_iload_n (pc := 2) rfl rfl ?_
  refine q_min (pc := 3) rfl rfl ?_
  refine q_max (pc := 6) rfl rfl ?_
  refine q_iret (pc := 9) rfl (rfl) ?_
  exact hq
theorem m_bound (hq : Q (some (.int (mxx32 y (mn32 z x)))) h) : wc d 133 [.int x, .int y, .int z] h Q := by
  refine wc.go [_, _, _] rfl ?_
  refine q_iload_n (pc := 0) rfl rfl ?_
  refine q_iload_n (pc := 1) rfl rfl ?_
  refine q_iload_n (pc := 2) rfl rfl ?_
  refine q_min (pc := 3) rfl rfl ?_
  refine q_max (pc := 6) rfl rfl ?_
  refine q_iret (pc := 9) rfl (rfl) ?_
  exact hq
theorem c_apart {a b : Nat} (ha : a < 36) (hb : b < 36) (hq : Q (some (.int (nI (apN a b)))) h) : wc d 127 [.int (nI a), .int (nI b)] h Q := by
  refine wc.go [_, _] rfl ?_
  refine q_iload_n (pc := 0) rfl rfl ?_
  refine q_bipush (pc := 1) rfl (6) (by decide) ?_
  refine q_irem (pc := 3) rfl (by decide) ?_
  refine q_iload_n (pc := 4) rfl rfl ?_
  refine q_bipush (pc := 5) rfl (6) (by decide) ?_
  refine q_irem (pc := 7) rfl (by decide) ?_
  refine q_isub (pc := 8) rfl ?_
  refine q_abs (pc := 9) rfl rfl ?_
  refine q_iload_n (pc := 12) rfl rfl ?_
  refine q_bipush (pc := 13) rfl (6) (by decide) ?_
  refine q_idiv (pc := 15) rfl (by decide) ?_
  refine q_iload_n (pc := 16) rfl rfl ?_
  refine q_bipush (pc := 17) rfl (6) (by decide) ?_
  refine q_idiv (pc := 19) rfl (by decide) ?_
  refine q_isub (pc := 20) rfl ?_
  refine q_abs (pc := 21) rfl rfl ?_
  refine q_iadd (pc := 24) rfl ?_
  refine q_iret (pc := 25) rfl (rfl) ?_
  have e : ab32 (nI a - nI a / 6 * 6 - (nI b - nI b / 6 * 6)) + ab32 (nI a / 6 - nI b / 6) = nI (apN a b) := by
    rw [x_rem6 (by omega), x_rem6 (by omega), x_div6 (by omega), x_div6 (by omega), x_dif (by omega) (by omega), x_dif (by omega) (by omega), nI_add]
    rfl
  rw [← e] at hq
  exact hq
theorem m_apart {a b : Nat} (ha : a < 36) (hb : b < 36) (hq : Q (some (.int (nI (apN a b)))) h) : wc d 140 [.int (nI a), .int (nI b)] h Q := by
  refine wc.go [_, _] rfl ?_
  refine q_iload_n (pc := 0) rfl rfl ?_
  refine q_bipush (pc := 1) rfl (6) (by decide) ?_
  refine q_idiv (pc := 3) rfl (by decide) ?_
  refine q_iload_n (pc := 4) rfl rfl ?_
  refine q_bipush (pc := 5) rfl (6) (by decide) ?_
  refine q_idiv (pc := 7) rfl (by decide) ?_
  refine q_isub (pc := 8) rfl ?_
  refine q_abs (pc := 9) rfl rfl ?_
  refine q_iload_n (pc := 12) rfl rfl ?_
  refine q_bipush (pc := 13) rfl (6) (by decide) ?_
  refine q_irem (pc := 15) rfl (by decide) ?_
  refine q_iload_n (pc := 16) rfl rfl ?_
  refine q_bipush (pc := 17) rfl (6) (by decide) ?_
  refine q_irem (pc := 19) rfl (by decide) ?_
  refine q_isub (pc := 20) rfl ?_
  refine q_abs (pc := 21) rfl rfl ?_
  refine q_iadd (pc := 24) rfl ?_
  refine q_iret (pc := 25) rfl (rfl) ?_
  have e : ab32 (nI a / 6 - nI b / 6) + ab32 (nI a - nI a / 6 * 6 - (nI b - nI b / 6 * 6)) = nI (apN a b) := by
    rw [x_rem6 (by omega), x_rem6 (by omega), x_div6 (by omega), x_div6 (by omega), x_dif (by omega) (by omega), x_dif (by omega) (by omega), nI_add, Nat.add_comm]
    rfl
  rw [← e] at hq
  exact hq
theorem m_in {n : Nat} (hn : n < 2 ^ 31) (ht : ∀ j, j ≤ n → x = nI j → Q (some (.int 1)) h) (hf : (x < 0 ∨ nI n < x) → Q (some (.int 0)) h) : wc d 132 [.int x, .int 0, .int (nI n)] h Q := by
  refine c_isIn (fun h1 h2 => ?_) (fun h1 => ?_)
  · obtain ⟨j, hj, hx⟩ := x_upto hn (Int32.not_lt.mpr h1) h2
    exact ht j hj hx
  · by_cases g : x < 0
    · exact hf (Or.inl g)
    · by_cases g2 : nI n < x
      · exact hf (Or.inr g2)
      · exact absurd ⟨Int32.not_lt.mp g, Int32.not_lt.mp g2⟩ h1
theorem x_lt_le {x : Int32} {n : Nat} (hn : n + 1 < 2 ^ 31) (g : x < 0 ∨ nI n < x) : x < 0 ∨ nI (n + 1) ≤ x := by
  refine g.imp id (fun z => ?_)
  by_cases z2 : x < 0
  · exact absurd (Int32.lt_trans z z2) (nI_pos (by omega))
  · obtain ⟨j, hj, rfl⟩ := x_of z2
    exact nI_le (by have := x_lt z (by omega) hj; omega) hj
theorem m_isCell (hd : 1 ≤ d) (ht : ∀ j, j < 36 → x = nI j → Q (some (.int 1)) h) (hf : (x < 0 ∨ nI 36 ≤ x) → Q (some (.int 0)) h) : wc d 138 [.int x] h Q := by
  refine wc.go [_] rfl ?_
  refine q_iload_n (pc := 0) rfl rfl ?_
  refine q_iconst (pc := 1) rfl (0) (by decide) ?_
  refine q_bipush (pc := 2) rfl (35) (by decide) ?_
  refine q_callS (pc := 4) _ (by decide) rfl rfl rfl rfl (Nat.le_of_ble_eq_true rfl) (by omega) _ rfl ?_
  refine m_in (n := 35) (by decide) (fun j hj hx => ?_) (fun g => ?_)
  · refine q_iret (pc := 7) rfl (rfl) ?_
    first | exact ht j (by omega) hx | exact hf (x_lt_le (by decide) g)
  · refine q_iret (pc := 7) rfl (rfl) ?_
    first | exact ht j (by omega) hx | exact hf (x_lt_le (by decide) g)
theorem m_isSheet (hd : 1 ≤ d) (ht : ∀ j, j < 4 → x = nI j → Q (some (.int 1)) h) (hf : (x < 0 ∨ nI 4 ≤ x) → Q (some (.int 0)) h) : wc d 196 [.int x] h Q := by
  refine wc.go [_] rfl ?_
  refine q_iload_n (pc := 0) rfl rfl ?_
  refine q_iconst (pc := 1) rfl (0) (by decide) ?_
  refine q_iconst (pc := 2) rfl (3) (by decide) ?_
  refine q_callS (pc := 3) _ (by decide) rfl rfl rfl rfl (Nat.le_of_ble_eq_true rfl) (by omega) _ rfl ?_
  refine m_in (n := 3) (by decide) (fun j hj hx => ?_) (fun g => ?_)
  · refine q_iret (pc := 6) rfl (rfl) ?_
    first | exact ht j (by omega) hx | exact hf (x_lt_le (by decide) g)
  · refine q_iret (pc := 6) rfl (rfl) ?_
    first | exact ht j (by omega) hx | exact hf (x_lt_le (by decide) g)
theorem c_bit {c : Nat} (hq : Q (some (.long ((1 : Int64) <<< ((nI c).toInt64 &&& 63)))) h) : wc d 128 [.int (nI c)] h Q := by
  refine wc.go [_] rfl ?_
  refine q_lconst (pc := 0) rfl (1) (by decide) ?_
  refine q_iload_n (pc := 1) rfl rfl ?_
  refine q_lshl (pc := 2) rfl ?_
  refine q_lret (pc := 3) rfl rfl ?_
  exact hq
theorem m_yes0 (hq : Q (some (.int 0)) h) : wc d 164 [.int 0] h Q := by
  refine wc.go [_] rfl ?_
  refine q_iload_n (pc := 0) rfl rfl ?_
  refine q_ifeq (pc := 1) rfl (fun h1 => ?_) (fun h1 => ?_)
  · refine q_iconst (pc := 8) rfl (0) (by decide) ?_
    refine q_iret (pc := 9) rfl (rfl) ?_
    first | exact hq | exact absurd rfl h1
  · refine q_iconst (pc := 4) rfl (1) (by decide) ?_
    refine q_goto (pc := 5) rfl ?_
    refine q_iret (pc := 9) rfl (rfl) ?_
    first | exact hq | exact absurd rfl h1
theorem m_yes1 (hq : Q (some (.int 1)) h) : wc d 164 [.int 1] h Q := by
  refine wc.go [_] rfl ?_
  refine q_iload_n (pc := 0) rfl rfl ?_
  refine q_ifeq (pc := 1) rfl (fun h1 => ?_) (fun h1 => ?_)
  · refine q_iconst (pc := 8) rfl (0) (by decide) ?_
    refine q_iret (pc := 9) rfl (rfl) ?_
    first | exact hq | exact absurd h1 (by decide)
  · refine q_iconst (pc := 4) rfl (1) (by decide) ?_
    refine q_goto (pc := 5) rfl ?_
    refine q_iret (pc := 9) rfl (rfl) ?_
    first | exact hq | exact absurd h1 (by decide)
end P18
end
section
def hr_el : List ((Nat → Int32) → mx_E) := [
  fun F => .inr (8, [.ref 1, .ref 9, .ref 17, .int (F 3), .ref 25, .ref 31, .ref 36, .ref 37, .ref 42]),
  fun F => .inr (0, [.ref 2, .ref 3, .ref 4, .int (F 3), .int (F 4), .int (F 5)]),
  fun F => .inl (0, 36, .inl F),
  fun F => .inl (0, 36, .inl F),
  fun _ => .inl (3, 4, .inr (fun p => if p < 4 then some (5 + p) else none)),
  fun F => .inr (2, [.int (F 0), .int (F 1), .int (F 2), .int (F 3)]),
  fun F => .inr (2, [.int (F 0), .int (F 1), .int (F 2), .int (F 3)]),
  fun F => .inr (2, [.int (F 0), .int (F 1), .int (F 2), .int (F 3)]),
  fun F => .inr (2, [.int (F 0), .int (F 1), .int (F 2), .int (F 3)]),
  fun F => .inr (0, [.ref 10, .ref 11, .ref 12, .int (F 3), .int (F 4), .int (F 5)]),
  fun F => .inl (0, 36, .inl F),
  fun F => .inl (0, 36, .inl F),
  fun _ => .inl (3, 4, .inr (fun p => if p < 4 then some (13 + p) else none)),
  fun F => .inr (2, [.int (F 0), .int (F 1), .int (F 2), .int (F 3)]),
  fun F => .inr (2, [.int (F 0), .int (F 1), .int (F 2), .int (F 3)]),
  fun F => .inr (2, [.int (F 0), .int (F 1), .int (F 2), .int (F 3)]),
  fun F => .inr (2, [.int (F 0), .int (F 1), .int (F 2), .int (F 3)]),
  fun F => .inr (0, [.ref 18, .ref 19, .ref 20, .int (F 3), .int (F 4), .int (F 5)]),
  fun F => .inl (0, 36, .inl F),
  fun F => .inl (0, 36, .inl F),
  fun _ => .inl (3, 4, .inr (fun p => if p < 4 then some (21 + p) else none)),
  fun F => .inr (2, [.int (F 0), .int (F 1), .int (F 2), .int (F 3)]),
  fun F => .inr (2, [.int (F 0), .int (F 1), .int (F 2), .int (F 3)]),
  fun F => .inr (2, [.int (F 0), .int (F 1), .int (F 2), .int (F 3)]),
  fun F => .inr (2, [.int (F 0), .int (F 1), .int (F 2), .int (F 3)]),
  fun F => .inr (3, [.ref 26, .int (F 1), .ref 27, .ref 28, .int (F 4), .int (F 5), .ref 29, .int (F 7), .ref 30, .int (F 9)]),
  fun F => .inl (0, 160, .inl F),
  fun F => .inl (0, 161, .inl F),
  fun F => .inl (0, 161, .inl F),
  fun F => .inl (0, 160, .inl F),
  fun F => .inl (0, 3, .inl F),
  fun F => .inr (4, [.ref 32, .int (F 1), .ref 33, .ref 34, .ref 35]),
  fun _ => mx_nil,
  fun F => .inl (0, 6, .inl F),
  fun F => .inl (0, 160, .inl F),
  fun F => .inl (0, 36, .inl F),
  fun F => .inr (1, [.int (F 0), .int (F 1)]),
  fun F => .inr (7, [.ref 38, .int (F 1), .ref 39, .ref 40, .ref 41, .int (F 5), .int (F 6)]),
  fun F => .inl (0, 7, .inl F),
  fun F => .inl (0, 896, .inl F),
  fun F => .inl (0, 28, .inl F),
  fun F => .inl (0, 4, .inl F),
  fun _ => .inl (5, 4, .inr (fun p => if p < 4 then some (43 + 2 * p) else none)),
  fun F => .inr (5, [.ref 44, .int (F 1), .int (F 2)]),
  fun F => .inl (0, 40, .inl F),
  fun F => .inr (5, [.ref 46, .int (F 1), .int (F 2)]),
  fun F => .inl (0, 40, .inl F),
  fun F => .inr (5, [.ref 48, .int (F 1), .int (F 2)]),
  fun F => .inl (0, 40, .inl F),
  fun F => .inr (5, [.ref 50, .int (F 1), .int (F 2)]),
  fun F => .inl (0, 40, .inl F),
  fun _ => mx_nil,
  fun _ => mx_nil,
  fun _ => mx_nil,
  fun F => .inr (9, [.ref 55, .ref 56, .ref 57, .int (F 3), .ref 58, .int (F 5), .int (F 6), .int (F 7), .int (F 8), .int (F 9), .ref 59, .ref 60, .int (F 12), .int (F 13), .ref 61, .ref 62, .int (F 16), .ref 63, .int (F 18), .int (F 19), .int (F 20), .ref 64, .ref 65, .int (F 23), .ref 66, .ref 67, .int (F 26), .int (F 27), .int (F 28), .ref 68, .ref 69, .ref 70, .ref 71, .ref 72, .ref 73, .ref 74]),
  fun F => .inl (0, 91, .inl F),
  fun F => .inl (0, 91, .inl F),
  fun F => .inl (0, 91, .inl F),
  fun F => .inl (0, 160, .inl F),
  fun F => .inl (0, 960, .inl F),
  fun F => .inl (0, 18, .inl F),
  fun F => .inl (2, 72, .inl F),
  fun F => .inl (0, 160, .inl F),
  fun F => .inl (0, 160, .inl F),
  fun F => .inl (0, 36, .inl F),
  fun F => .inl (1, 36, .inl F),
  fun F => .inl (0, 7, .inl F),
  fun F => .inl (0, 28, .inl F),
  fun F => .inl (0, 4, .inl F),
  fun F => .inl (0, 4, .inl F),
  fun F => .inl (0, 4, .inl F),
  fun F => .inl (0, 4, .inl F),
  fun F => .inl (0, 160, .inl F),
  fun F => .inl (0, 40, .inl F),
  fun F => .inl (0, 6, .inl F)]
def hr_c (b : Nat) (F : Nat → Int32) : mx_E := (hr_el.getD b (fun _ => mx_nil)) F
abbrev mx_St : Type := Nat → Nat → Int32
/-- how far it is laid, how many texts, cells, slots, the texts' lengths, the script's length, the script -/
abbrev mx_Pm : Type := Nat × Nat × Nat × Nat × (Nat → Nat) × Nat × (Nat → Int32)
def okc (n b : Nat) : Bool := Nat.blt b n && (Nat.blt b 32 || Nat.blt 32 b) && (Nat.blt b 51 || Nat.blt 53 b)
def tid (t : Nat) : Nat := if t = 0 then 51 else 72 + 3 * t
def hr_t (h : mx_H) (s : mx_St) (ln : Nat → Nat) (t : Nat) : Prop := h.2.2 (tid t) = .inl (0, ln t, .inl (s (tid t))) ∧ h.2.2 (tid t + 1) = .inr (6, [.ref (tid t), .ref (tid t + 2)]) ∧ h.2.2 (tid t + 2) = .inl (0, 3, .inl (s (tid t + 2)))
def hr_g (n : Nat) : Nat → Option Nat := fun t => if t < n then some (tid t + 1) else none
/-- the heap holds s -/
def HR (P : mx_Pm) (h : mx_H) (s : mx_St) : Prop := (P.1 ≤ 75 ∧ P.2.1 ≤ 6) ∧ h.1 = P.2.2.1 ∧ h.2.1 = P.2.2.2.1 ∧ (∀ b, okc P.1 b = true → h.2.2 b = hr_c b (s b)) ∧ h.2.2 32 = .inl (4, 6, .inr (hr_g P.2.1)) ∧ (∀ t, t < P.2.1 → hr_t h s P.2.2.2.2.1 t) ∧ h.2.2 mx_big = .inl (0, P.2.2.2.2.2.1, .inl P.2.2.2.2.2.2)
def stF (s : mx_St) (b : Nat) (F : Nat → Int32) : mx_St := fun i => if i = b then F else s i
def stv (s : mx_St) (b j : Nat) (v : Int32) : mx_St := stF s b (upd (s b) j v)
theorem okc_spec {n b : Nat} (h : okc n b = true) : b < n ∧ b ≠ 32 ∧ (b < 51 ∨ 53 < b) := by
  unfold okc at h
  simp only [Bool.and_eq_true, Bool.or_eq_true, Bool.not_eq_true', Nat.blt_eq] at h
  exact ⟨h.1.1, by have := h.1.2; omega, h.2⟩
theorem okc_of {n b : Nat} (h1 : b < n) (h2 : b ≠ 32) (h3 : b < 51 ∨ 53 < b) : okc n b = true := by
  unfold okc
  simp only [Bool.and_eq_true, Bool.or_eq_true, Bool.not_eq_true', Nat.blt_eq]
  exact ⟨⟨h1, by omega⟩, h3⟩
theorem okc_mono {n m b : Nat} (h : okc n b = true) (hm : n ≤ m) : okc m b = true := by
  obtain ⟨h1, h2, h3⟩ := okc_spec h
  exact okc_of (by omega) h2 h3
theorem tid_spec (t : Nat) : (tid t = 51 ∧ t = 0) ∨ (tid t = 72 + 3 * t ∧ 0 < t) := by
  unfold tid
  split
  · exact Or.inl ⟨rfl, by assumption⟩
  · exact Or.inr ⟨rfl, by omega⟩
theorem stF_s (s : mx_St) (b : Nat) (F : Nat → Int32) : stF s b F b = F := by simp [stF]
theorem stF_n (s : mx_St) {b i : Nat} (F : Nat → Int32) (h : i ≠ b) : stF s b F i = s i := by simp [stF, h]
theorem HR.c {P : mx_Pm} {h : mx_H} {s : mx_St} {n : Nat} (H : HR P h s) (hl : n ≤ P.1) (b : Nat) (hok : okc n b = true) : h.2.2 b = hr_c b (s b) := H.2.2.2.1 b (okc_mono hok hl)
theorem HR.set {P : mx_Pm} {h : mx_H} {s : mx_St} {n b : Nat} {e : mx_E} {F : Nat → Int32} (H : HR P h s) (hl : n ≤ P.1) (hok : okc n b = true) (he : hr_c b F = e) : HR P (mx_set h b e) (stF s b F) := by
  obtain ⟨⟨h0, h00⟩, h1, h2, h3, h4, h5, h6⟩ := H
  obtain ⟨o1, o2, o3⟩ := okc_spec (okc_mono hok hl)
  have hs : ∀ i, i ≠ b → (mx_set h b e).2.2 i = h.2.2 i := fun i hi => by simp [mx_set, hi]
  refine ⟨⟨h0, h00⟩, h1, h2, fun i hi => ?_, (hs 32 (by omega)).trans h4, fun t ht => ?_, (hs mx_big (by show (1000000 : Nat) ≠ b; omega)).trans h6⟩
  · by_cases e1 : i = b
    · subst e1
      rw [stF_s, he]
      simp [mx_set]
    · rw [stF_n _ _ e1, hs i e1]
      exact h3 i hi
  · obtain ⟨q1, q2, q3⟩ := h5 t ht
    have := tid_spec t
    refine ⟨?_, ?_, ?_⟩
    · rw [stF_n _ _ (by omega), hs _ (by omega)]; exact q1
    · rw [hs _ (by omega)]; exact q2
    · rw [stF_n _ _ (by omega), hs _ (by omega)]; exact q3
/-- the three beaches, the staff, the sheets -/
def isB (b : Nat) : Prop := b = 1 ∨ b = 9 ∨ b = 17
def isS (q : Nat) : Prop := q = 43 ∨ q = 45 ∨ q = 47 ∨ q = 49
theorem isB1 : isB 1 := Or.inl rfl
theorem isB9 : isB 9 := Or.inr (Or.inl rfl)
theorem isB17 : isB 17 := Or.inr (Or.inr rfl)
theorem isS_of {p : Nat} (hp : p < 4) : isS (43 + 2 * p) := by unfold isS; omega
section LY
variable {b q p n : Nat} {F : Nat → Int32}
theorem okB (hb : isB b) : okc 51 b = true := by rcases hb with rfl | rfl | rfl <;> rfl
theorem okB1 (hb : isB b) : okc 51 (b + 1) = true := by rcases hb with rfl | rfl | rfl <;> rfl
theorem okB2 (hb : isB b) : okc 51 (b + 2) = true := by rcases hb with rfl | rfl | rfl <;> rfl
theorem okB3 (hb : isB b) : okc 51 (b + 3) = true := by rcases hb with rfl | rfl | rfl <;> rfl
theorem okO (hb : isB b) (hp : p < 4) : okc 51 (b + 4 + p) = true := okc_of (by unfold isB at hb; omega) (by unfold isB at hb; omega) (by unfold isB at hb; omega)
theorem okS (hq : isS q) : okc 51 q = true := by rcases hq with rfl | rfl | rfl | rfl <;> rfl
theorem okS1 (hq : isS q) : okc 51 (q + 1) = true := by rcases hq with rfl | rfl | rfl | rfl <;> rfl
theorem ecB (hb : isB b) (F : Nat → Int32) : hr_c b F = .inr (0, [.ref (b + 1), .ref (b + 2), .ref (b + 3), .int (F 3), .int (F 4), .int (F 5)]) := by rcases hb with rfl | rfl | rfl <;> rfl
theorem ecB1 (hb : isB b) (F : Nat → Int32) : hr_c (b + 1) F = .inl (0, 36, .inl F) := by rcases hb with rfl | rfl | rfl <;> rfl
theorem ecB2 (hb : isB b) (F : Nat → Int32) : hr_c (b + 2) F = .inl (0, 36, .inl F) := by rcases hb with rfl | rfl | rfl <;> rfl
theorem ecB3 (hb : isB b) (F : Nat → Int32) : hr_c (b + 3) F = .inl (3, 4, .inr (fun p => if p < 4 then some (b + 4 + p) else none)) := by rcases hb with rfl | rfl | rfl <;> rfl
theorem p4 {p : Nat} (h : p < 4) : p = 0 ∨ p = 1 ∨ p = 2 ∨ p = 3 := by omega
theorem ecO (hb : isB b) (hp : p < 4) (F : Nat → Int32) : hr_c (b + 4 + p) F = .inr (2, [.int (F 0), .int (F 1), .int (F 2), .int (F 3)]) := by
  rcases hb with rfl | rfl | rfl <;> rcases p4 hp with rfl | rfl | rfl | rfl <;> rfl
theorem ecS (hq : isS q) (F : Nat → Int32) : hr_c q F = .inr (5, [.ref (q + 1), .int (F 1), .int (F 2)]) := by rcases hq with rfl | rfl | rfl | rfl <;> rfl
theorem ecS1 (hq : isS q) (F : Nat → Int32) : hr_c (q + 1) F = .inl (0, 40, .inl F) := by rcases hq with rfl | rfl | rfl | rfl <;> rfl
end LY
section RW
variable {d k pc a i j b ci n m : Nat} {v : Int} {L L' : mx_L} {st r : List Value} {P : mx_Pm} {h : mx_H} {s : mx_St} {Q : Option Value → mx_H → Prop} {x y : Int32} {fs : List Value}
theorem r_pf2 (hc : mx_tb k pc = some (.putfield j, a, v)) (H : HR P h s) (hl : n ≤ P.1) (hok : okc n b = true) (he : hr_c b (s b) = .inr (ci, fs)) (hi : ci = a / 100) (hai : a % 100 = i) (hlen : i < fs.length) (hf : mx_fit (mx_tyf a) (.int x) = true) (hs : hr_c b (upd (s b) i x) = .inr (ci, fs.set i (.int x))) (kk : ∀ h', HR P h' (stv s b i x) → wq d k (pc + 3) L r h' Q) : wq d k pc L (.int x :: .ref b :: r) h Q := by
  subst hai
  exact q_putf hc ((H.c hl b hok).trans he) hi hlen hf rfl (kk _ (H.set hl hok hs))
theorem n_ild {F : Nat → Int32} {i : Nat} (hc : mx_tb k pc = some (.iaload, a, v)) (A : ia h b n F) (hx : x = nI i) (hj : i < n) (hn : n < 2 ^ 31) (kk : wq d k (pc + 1) L (.int (F i) :: r) h Q) : wq d k pc L (.int x :: .ref b :: r) h Q := by
  obtain ⟨f, h1, h2⟩ := A
  subst hx
  refine q_iaload hc h1 (x_vin hj hn) ?_
  rw [x_cl (by omega), h2 i hj]
  exact kk
theorem r_ist2 {i : Nat} (hc : mx_tb k pc = some (.iastore, a, v)) (H : HR P h s) (hl : n ≤ P.1) (hok : okc n b = true) (he : ∀ F, hr_c b F = .inl (0, m, .inl F)) (hx : x = nI i) (hj : i < m) (hm : m < 2 ^ 31) (kk : ∀ h', HR P h' (stv s b i y) → wq d k (pc + 1) L r h' Q) : wq d k pc L (.int y :: .int x :: .ref b :: r) h Q := by
  subst hx
  obtain ⟨o1, o2, o3⟩ := okc_spec hok
  refine q_iastore hc ((H.c hl b hok).trans (he _)) (by have := H.1.1; show b < 1000000; omega) (x_vin hj hm) ?_
  rw [x_cl (by omega)]
  exact kk _ (H.set hl hok (he _))
theorem HR.la {F : Nat → Int32} (H : HR P h s) (hl : n ≤ P.1) (hok : okc n b = true) (he : hr_c b (s b) = .inl (0, m, .inl (s b))) (hF : ∀ i, i < m → s b i = F i) : ia h b m F := ⟨s b, (H.c hl b hok).trans he, hF⟩
theorem HR.la0 (H : HR P h s) (hl : n ≤ P.1) (hok : okc n b = true) (he : hr_c b (s b) = .inl (0, m, .inl (s b))) : ia h b m (s b) := H.la hl hok he (fun _ _ => rfl)
/-! naturals on the stack -/
theorem n_iadd (hc : mx_tb k pc = some (.iadd, a, v)) (kk : wq d k (pc + 1) L (.int (nI (i + j)) :: r) h Q) : wq d k pc L (.int (nI j) :: .int (nI i) :: r) h Q := q_iadd hc (by rw [nI_add]; exact kk)
theorem n_imul (hc : mx_tb k pc = some (.imul, a, v)) (kk : wq d k (pc + 1) L (.int (nI (i * j)) :: r) h Q) : wq d k pc L (.int (nI j) :: .int (nI i) :: r) h Q := q_imul hc (by rw [pk_mul]; exact kk)
theorem n_isub (hc : mx_tb k pc = some (.isub, a, v)) (hj : j ≤ i) (kk : wq d k (pc + 1) L (.int (nI (i - j)) :: r) h Q) : wq d k pc L (.int (nI j) :: .int (nI i) :: r) h Q := q_isub hc (by rw [x_sub hj]; exact kk)
theorem n_idiv (hc : mx_tb k pc = some (.idiv, a, v)) (hi : i < 2 ^ 31) (h0 : 0 < j) (hj : j < 2 ^ 31) (kk : wq d k (pc + 1) L (.int (nI (i / j)) :: r) h Q) : wq d k pc L (.int (nI j) :: .int (nI i) :: r) h Q := q_idiv hc (nI_ne0 h0 hj) (by rw [pk_div hi h0 hj]; exact kk)
theorem n_irem (hc : mx_tb k pc = some (.irem, a, v)) (hi : i < 2 ^ 31) (h0 : 0 < j) (hj : j < 2 ^ 31) (kk : wq d k (pc + 1) L (.int (nI (i % j)) :: r) h Q) : wq d k pc L (.int (nI j) :: .int (nI i) :: r) h Q := q_irem hc (nI_ne0 h0 hj) (by rw [pk_rem hi h0 hj]; exact kk)
theorem n_iinc {n : Int} (hc : mx_tb k pc = some (.iinc i n, a, v)) (L' : mx_L) (z : Nat) (hz : Int32.ofInt n = nI z) (hl : L[i]? = some (some (.int (nI j)))) (hL : mx_store L i (.int (nI (j + z))) = L') (kk : wq d k (pc + 3) L' st h Q) : wq d k pc L st h Q := q_iinc L' (nI z) hc hl hz (by rw [nI_add]; exact hL) kk
theorem n_icmpeq {o : Int} (hc : mx_tb k pc = some (.if_icmp .eq o, a, v)) (hi : i < 2 ^ 31) (hj : j < 2 ^ 31) (kt : i = j → wq d k a L r h Q) (kf : i ≠ j → wq d k (pc + 3) L r h Q) : wq d k pc L (.int (nI j) :: .int (nI i) :: r) h Q := q_icmpeq hc (fun z => kt (x_eq z hi hj)) (fun z => kf (x_ne z))
theorem n_icmpne {o : Int} (hc : mx_tb k pc = some (.if_icmp .ne o, a, v)) (hi : i < 2 ^ 31) (hj : j < 2 ^ 31) (kt : i ≠ j → wq d k a L r h Q) (kf : i = j → wq d k (pc + 3) L r h Q) : wq d k pc L (.int (nI j) :: .int (nI i) :: r) h Q := q_icmpne hc (fun z => kt (x_ne z)) (fun z => kf (x_eq z hi hj))
theorem n_icmplt {o : Int} (hc : mx_tb k pc = some (.if_icmp .lt o, a, v)) (hi : i < 2 ^ 31) (hj : j < 2 ^ 31) (kt : i < j → wq d k a L r h Q) (kf : j ≤ i → wq d k (pc + 3) L r h Q) : wq d k pc L (.int (nI j) :: .int (nI i) :: r) h Q := q_icmplt hc (fun z => kt (x_lt z hi hj)) (fun z => kf (x_nlt z hi hj))
theorem n_icmpge {o : Int} (hc : mx_tb k pc = some (.if_icmp .ge o, a, v)) (hi : i < 2 ^ 31) (hj : j < 2 ^ 31) (kt : j ≤ i → wq d k a L r h Q) (kf : i < j → wq d k (pc + 3) L r h Q) : wq d k pc L (.int (nI j) :: .int (nI i) :: r) h Q := q_icmpge hc (fun z => kt (x_le z hj hi)) (fun z => kf (x_nle z hj hi))
theorem n_icmpgt {o : Int} (hc : mx_tb k pc = some (.if_icmp .gt o, a, v)) (hi : i < 2 ^ 31) (hj : j < 2 ^ 31) (kt : j < i → wq d k a L r h Q) (kf : i ≤ j → wq d k (pc + 3) L r h Q) : wq d k pc L (.int (nI j) :: .int (nI i) :: r) h Q := q_icmpgt hc (fun z => kt (x_lt z hj hi)) (fun z => kf (x_nlt z hj hi))
theorem n_icmple {o : Int} (hc : mx_tb k pc = some (.if_icmp .le o, a, v)) (hi : i < 2 ^ 31) (hj : j < 2 ^ 31) (kt : i ≤ j → wq d k a L r h Q) (kf : j < i → wq d k (pc + 3) L r h Q) : wq d k pc L (.int (nI j) :: .int (nI i) :: r) h Q := q_icmple hc (fun z => kt (x_le z hi hj)) (fun z => kf (x_nle z hi hj))
theorem n_ifeq {o : Int} (hc : mx_tb k pc = some (.ifCond .eq o, a, v)) (hi : i < 2 ^ 31) (kt : i = 0 → wq d k a L r h Q) (kf : i ≠ 0 → wq d k (pc + 3) L r h Q) : wq d k pc L (.int (nI i) :: r) h Q := q_ifeq hc (fun z => kt ((nI_eq (b := 0) hi (by decide)).mp z)) (fun z => kf (fun e => z (by rw [e]; rfl)))
theorem n_ifne {o : Int} (hc : mx_tb k pc = some (.ifCond .ne o, a, v)) (hi : i < 2 ^ 31) (kt : i ≠ 0 → wq d k a L r h Q) (kf : i = 0 → wq d k (pc + 3) L r h Q) : wq d k pc L (.int (nI i) :: r) h Q := q_ifne hc (fun z => kt (fun e => z (by rw [e]; rfl))) (fun z => kf ((nI_eq (b := 0) hi (by decide)).mp z))
theorem n_ifle {o : Int} (hc : mx_tb k pc = some (.ifCond .le o, a, v)) (hi : i < 2 ^ 31) (kt : i = 0 → wq d k a L r h Q) (kf : 0 < i → wq d k (pc + 3) L r h Q) : wq d k pc L (.int (nI i) :: r) h Q := q_ifle hc (fun z => kt (Nat.le_zero.mp ((nI_leI (b := 0) hi (by decide)).mp z))) (fun z => kf (Nat.pos_of_ne_zero (fun e => z (by rw [e]; decide))))
theorem n_ifgt {o : Int} (hc : mx_tb k pc = some (.ifCond .gt o, a, v)) (hi : i < 2 ^ 31) (kt : 0 < i → wq d k a L r h Q) (kf : i = 0 → wq d k (pc + 3) L r h Q) : wq d k pc L (.int (nI i) :: r) h Q := q_ifgt hc (fun z => kt (Nat.pos_of_ne_zero (fun e => absurd z (by rw [e]; decide)))) (fun z => kf (Classical.byContradiction fun e => z ((nI_ltI (a := 0) (by decide) hi).mpr (Nat.pos_of_ne_zero e))))
end RW
/-! ===== a beach as numbers: 36 marks, 36 plans, four of the staff by four, how many, the tide, the rule ===== -/
def BT (s : mx_St) (b : Nat) (β : Nat → Nat) : Prop := (∀ i, i < 36 → s (b + 1) i = nI (β i)) ∧ (∀ i, i < 36 → s (b + 2) i = nI (β (36 + i))) ∧ (∀ p, p < 4 → ∀ i, i < 4 → s (b + 4 + p) i = nI (β (72 + 4 * p + i))) ∧ s b 3 = nI (β 88) ∧ s b 4 = nI (β 89) ∧ s b 5 = nI (β 90)
def bok (β : Nat → Nat) (n : Nat) : Prop := (∀ i, i < 72 → β i ≤ 9) ∧ (∀ p, p < 4 → β (72 + 4 * p) ≤ 5 ∧ β (72 + 4 * p + 1) ≤ 9 ∧ β (72 + 4 * p + 2) < 36 ∧ β (72 + 4 * p + 3) ≤ 9999) ∧ β 88 ≤ 4 ∧ β 89 ≤ 1000 ∧ β 90 < n
def upN (β : Nat → Nat) (j v : Nat) : Nat → Nat := fun i => if i = j then v else β i
/-- only there it has changed -/
def sf (s s' : mx_St) (S : Nat → Prop) : Prop := ∀ i, ¬ S i → s' i = s i
theorem sf.rf {s : mx_St} {S : Nat → Prop} : sf s s S := fun _ _ => rfl
theorem sf.tr {s s1 s2 : mx_St} {S : Nat → Prop} (a : sf s s1 S) (b : sf s1 s2 S) : sf s s2 S := fun i hi => (b i hi).trans (a i hi)
theorem sf.mono {s s1 : mx_St} {S S' : Nat → Prop} (a : sf s s1 S) (hs : ∀ i, S i → S' i) : sf s s1 S' := fun i hi => a i (fun z => hi (hs i z))
theorem sf.st {s s1 : mx_St} {S : Nat → Prop} {b j : Nat} {v : Int32} (a : sf s s1 S) (hb : S b) : sf s (stv s1 b j v) S := fun i hi => by
  unfold stv
  rw [stF_n _ _ (fun e => hi (by rw [e]; exact hb))]
  exact a i hi
theorem stv_s {s : mx_St} {b j : Nat} {v : Int32} : stv s b j v b = upd (s b) j v := stF_s _ _ _
theorem stv_n {s : mx_St} {b j i : Nat} {v : Int32} (h : i ≠ b) : stv s b j v i = s i := stF_n _ _ h
theorem stv_a {s : mx_St} {b j : Nat} {v : Int32} : stv s b j v b j = v := by rw [stv_s]; exact pk_us
theorem stv_o {s : mx_St} {b j i : Nat} {v : Int32} (h : i ≠ j) : stv s b j v b i = s b i := by rw [stv_s]; exact pk_un h
section BT
variable {P : mx_Pm} {h : mx_H} {s s' : mx_St} {b p n v : Nat} {β : Nat → Nat}
theorem HR.B (H : HR P h s) (hl : 51 ≤ P.1) (hb : isB b) (hβ : BT s b β) : h.2.2 b = .inr (0, [.ref (b + 1), .ref (b + 2), .ref (b + 3), .int (nI (β 88)), .int (nI (β 89)), .int (nI (β 90))]) := by
  rw [H.c hl b (okB hb), ecB hb, hβ.2.2.2.1, hβ.2.2.2.2.1, hβ.2.2.2.2.2]
theorem HR.B' (H : HR P h s) (hl : 51 ≤ P.1) (hb : isB b) : h.2.2 b = .inr (0, [.ref (b + 1), .ref (b + 2), .ref (b + 3), .int (s b 3), .int (s b 4), .int (s b 5)]) := by
  rw [H.c hl b (okB hb), ecB hb]
theorem HR.O (H : HR P h s) (hl : 51 ≤ P.1) (hb : isB b) (hβ : BT s b β) (hp : p < 4) : h.2.2 (b + 4 + p) = .inr (2, [.int (nI (β (72 + 4 * p))), .int (nI (β (72 + 4 * p + 1))), .int (nI (β (72 + 4 * p + 2))), .int (nI (β (72 + 4 * p + 3)))]) := by
  rw [H.c hl _ (okO hb hp), ecO hb hp, hβ.2.2.1 p hp 0 (by decide), hβ.2.2.1 p hp 1 (by decide), hβ.2.2.1 p hp 2 (by decide), hβ.2.2.1 p hp 3 (by decide)]
  rfl
theorem HR.O' (H : HR P h s) (hl : 51 ≤ P.1) (hb : isB b) (hp : p < 4) : h.2.2 (b + 4 + p) = .inr (2, [.int (s (b + 4 + p) 0), .int (s (b + 4 + p) 1), .int (s (b + 4 + p) 2), .int (s (b + 4 + p) 3)]) := by
  rw [H.c hl _ (okO hb hp), ecO hb hp]
theorem HR.S (H : HR P h s) (hl : 51 ≤ P.1) {q : Nat} (hq : isS q) : h.2.2 q = .inr (5, [.ref (q + 1), .int (s q 1), .int (s q 2)]) := by
  rw [H.c hl q (okS hq), ecS hq]
theorem HR.am (H : HR P h s) (hl : 51 ≤ P.1) (hb : isB b) (hβ : BT s b β) : ia h (b + 1) 36 (fun i => nI (β i)) := H.la hl (okB1 hb) (ecB1 hb _) hβ.1
theorem HR.ap (H : HR P h s) (hl : 51 ≤ P.1) (hb : isB b) (hβ : BT s b β) : ia h (b + 2) 36 (fun i => nI (β (36 + i))) := H.la hl (okB2 hb) (ecB2 hb _) hβ.2.1
theorem HR.ac (H : HR P h s) (hl : 51 ≤ P.1) (hb : isB b) : h.2.2 (b + 3) = .inl (3, 4, .inr (fun p => if p < 4 then some (b + 4 + p) else none)) := (H.c hl _ (okB3 hb)).trans (ecB3 hb _)
theorem HR.ait (H : HR P h s) (hl : 51 ≤ P.1) {q : Nat} (hq : isS q) : ia h (q + 1) 40 (s (q + 1)) := H.la0 hl (okS1 hq) (ecS1 hq _)
theorem upN_s {j : Nat} : upN β j v j = v := by simp [upN]
theorem upN_n {i j : Nat} (h : i ≠ j) : upN β j v i = β i := by simp [upN, h]
theorem isB_lt (hb : isB b) : b = 1 ∨ b = 9 ∨ b = 17 := hb
theorem BT.fr {S : Nat → Prop} (hβ : BT s b β) (f : sf s s' S) (hs : ∀ i, b ≤ i → i < b + 8 → ¬ S i) : BT s' b β := by
  obtain ⟨h1, h2, h3, h4, h5, h6⟩ := hβ
  have e : ∀ i, b ≤ i → i < b + 8 → s' i = s i := fun i a c => f i (hs i a c)
  refine ⟨fun i hi => ?_, fun i hi => ?_, fun p hp i hi => ?_, ?_, ?_, ?_⟩
  · rw [e _ (by omega) (by omega)]; exact h1 i hi
  · rw [e _ (by omega) (by omega)]; exact h2 i hi
  · rw [e _ (by omega) (by omega)]; exact h3 p hp i hi
  · rw [e _ (by omega) (by omega)]; exact h4
  · rw [e _ (by omega) (by omega)]; exact h5
  · rw [e _ (by omega) (by omega)]; exact h6
/-- one number of a beach is put -/
theorem BT.pt {c j i : Nat} (hβ : BT s b β) (hj : (c = b + 1 ∧ i < 36 ∧ j = i) ∨ (c = b + 2 ∧ i < 36 ∧ j = 36 + i) ∨ (∃ p, p < 4 ∧ c = b + 4 + p ∧ i < 4 ∧ j = 72 + 4 * p + i) ∨ (c = b ∧ 3 ≤ i ∧ i < 6 ∧ j = 85 + i)) : BT (stv s c i (nI v)) b (upN β j v) := by
  obtain ⟨h1, h2, h3, h4, h5, h6⟩ := hβ
  have key : ∀ c' i' j', s c' i' = nI (β j') → ((c' = c ∧ i' = i) ↔ j' = j) → stv s c i (nI v) c' i' = nI (upN β j v j') := by
    intro c' i' j' e e2
    by_cases z : j' = j
    · obtain ⟨r1, r2⟩ := e2.mpr z
      subst r1; subst r2; subst z
      rw [stv_a, upN_s]
    · rw [upN_n z, ← e]
      by_cases z1 : c' = c
      · subst z1
        exact stv_o (fun z2 => z (e2.mp ⟨rfl, z2⟩))
      · rw [stv_n z1]
  refine ⟨fun i' hi => key _ _ _ (h1 i' hi) ?_, fun i' hi => key _ _ _ (h2 i' hi) ?_, fun p' hp i' hi => key _ _ _ (h3 p' hp i' hi) ?_, key _ _ _ h4 ?_, key _ _ _ h5 ?_, key _ _ _ h6 ?_⟩ <;>
  · rcases hj with ⟨a1, a2, a3⟩ | ⟨a1, a2, a3⟩ | ⟨p, a0, a1, a2, a3⟩ | ⟨a1, a2, a3, a4⟩ <;> omega
end BT
end
section
/-! ===== sets of cells as numbers ===== -/
theorem lN_or (x y : Nat) : lN x ||| lN y = lN (x ||| y) := by
  apply Int64.toBitVec_inj.mp
  show BitVec.ofNat 64 x ||| BitVec.ofNat 64 y = BitVec.ofNat 64 (x ||| y)
  rw [BitVec.ofNat_or]
theorem lN_and (x y : Nat) : lN x &&& lN y = lN (x &&& y) := by
  apply Int64.toBitVec_inj.mp
  show BitVec.ofNat 64 x &&& BitVec.ofNat 64 y = BitVec.ofNat 64 (x &&& y)
  rw [BitVec.ofNat_and]
theorem lN_inj {x y : Nat} (hx : x < 2 ^ 64) (hy : y < 2 ^ 64) (h : lN x = lN y) : x = y := by
  have h2 : BitVec.ofNat 64 x = BitVec.ofNat 64 y := congrArg Int64.toBitVec h
  have h3 := congrArg BitVec.toNat h2
  rwa [BitVec.toNat_ofNat, BitVec.toNat_ofNat, Nat.mod_eq_of_lt hx, Nat.mod_eq_of_lt hy] at h3
def bset (f : Nat → Bool) : Nat → Nat
  | 0 => 0
  | n + 1 => if f n = true then bset f n ||| 2 ^ n else bset f n
theorem bset_t {f : Nat → Bool} {n : Nat} (h : f n = true) : bset f (n + 1) = bset f n ||| 2 ^ n := by rw [bset, if_pos h]
theorem bset_f {f : Nat → Bool} {n : Nat} (h : f n = false) : bset f (n + 1) = bset f n := by rw [bset, if_neg (by rw [h]; decide)]
theorem bset_test (f : Nat → Bool) (n i : Nat) : (bset f n).testBit i = (decide (i < n) && f i) := by
  induction n with
  | zero => simp [bset]
  | succ n ih =>
    cases hf : f n with
    | true =>
      rw [bset_t hf, Nat.testBit_or, ih, Nat.testBit_two_pow]
      by_cases e : n = i
      · subst e; simp [hf]
      · have : (i < n + 1) ↔ i < n := by omega
        simp [e, this]
    | false =>
      rw [bset_f hf, ih]
      by_cases e : i = n
      · subst e; simp [hf]
      · have : (i < n + 1) ↔ i < n := by omega
        simp [this]
theorem bset_lt (f : Nat → Bool) (n : Nat) : bset f n < 2 ^ n := by
  induction n with
  | zero => show 0 < 1; decide
  | succ n ih =>
    rw [bset]
    split
    · exact Nat.or_lt_two_pow (by omega) (by omega)
    · omega
def cntf (f : Nat → Bool) : Nat → Nat
  | 0 => 0
  | n + 1 => cntf f n + (f n).toNat
theorem cntf_le (f : Nat → Bool) (n : Nat) : cntf f n ≤ n := by
  induction n with
  | zero => exact Nat.le_refl _
  | succ n ih => rw [cntf]; have := Bool.toNat_le (f n); omega
def wrn (β : Nat → Nat) (c : Nat) : Bool := decide (β c ≠ β (36 + c))
theorem wrn_t {β : Nat → Nat} {c : Nat} (h : β c ≠ β (36 + c)) : wrn β c = true := decide_eq_true h
theorem wrn_f {β : Nat → Nat} {c : Nat} (h : β c = β (36 + c)) : wrn β c = false := decide_eq_false (fun z => z h)
def wbs (β : Nat → Nat) : Nat := bset (wrn β) 36
theorem iw_1 {p q : Prop} [Decidable p] [Decidable q] (hp : p) (hq : q) : 1 = (decide p && decide q).toNat := by simp [hp, hq]
theorem iw_0 {p q : Prop} [Decidable p] [Decidable q] (h : p → q → False) : 0 = (decide p && decide q).toNat := by
  by_cases hp : p
  · by_cases hq : q
    · exact (h hp hq).elim
    · simp [hq]
  · simp [hp]
theorem bit_lN : ∀ c, c < 36 → (1 : Int64) <<< ((nI c).toInt64 &&& 63) = lN (2 ^ c) := by decide +kernel
theorem lgc1 : ∀ c, c < 36 → lg_cmp (lN (true.toNat * 2 ^ c)) 0 = 1 := by decide +kernel
def fnd (f : Nat → Bool) : Nat → Nat → Nat
  | 0, c => c
  | n + 1, c => if f c = true then c else fnd f n (c + 1)
theorem fnd_eq (f : Nat → Bool) : ∀ (n a c : Nat), a ≤ c → c < a + n → f c = true → (∀ i, a ≤ i → i < c → f i = false) → fnd f n a = c := by
  intro n
  induction n with
  | zero => intro a c h1 h2; omega
  | succ n ih =>
    intro a c h1 h2 h3 h4
    rw [fnd]
    by_cases e : f a = true
    · rw [if_pos e]
      rcases Nat.lt_or_ge a c with g | g
      · rw [h4 a (Nat.le_refl _) g] at e; cases e
      · omega
    · rw [if_neg e]
      have : a ≠ c := fun z => e (by rw [z]; exact h3)
      exact ih (a + 1) c (by omega) (by omega) h3 (fun i g1 g2 => h4 i (by omega) g2)
theorem fnd_no (f : Nat → Bool) : ∀ (n a : Nat), (∀ i, a ≤ i → i < a + n → f i = false) → fnd f n a = a + n := by
  intro n
  induction n with
  | zero => intro a _; rfl
  | succ n ih =>
    intro a h
    rw [fnd, if_neg (by rw [h a (Nat.le_refl _) (by omega)]; decide), ih (a + 1) (fun i g1 g2 => h i (by omega) (by omega))]
    omega
/-- a cell as the answer says it: 36 is none -/
def oc (m : Nat) : Int32 := if m < 36 then nI m else -1
def fsw (β : Nat → Nat) : Nat := fnd (wrn β) 36 0
def w4 (β : Nat → Nat) (c : Nat) : Nat := (decide (6 ≤ c) && wrn β (c - 6)).toNat + (decide (c < 30) && wrn β (c + 6)).toNat + (decide (0 < c % 6) && wrn β (c - 1)).toNat + (decide (c % 6 < 5) && wrn β (c + 1)).toNat
/-- the nearest, the first of like ones -/
def nst (f : Nat → Bool) (g : Nat → Nat) : Nat → Nat
  | 0 => 36
  | n + 1 => if f n = true ∧ (nst f g n = 36 ∨ g n < g (nst f g n)) then n else nst f g n
theorem nst_lt (f : Nat → Bool) (g : Nat → Nat) (n : Nat) : nst f g n < n ∨ nst f g n = 36 := by
  induction n with
  | zero => exact Or.inr rfl
  | succ n ih =>
    rw [nst]
    split
    · exact Or.inl (Nat.lt_succ_self _)
    · omega
theorem k6 {k : Nat} (h : k ≤ 5) : k = 0 ∨ k = 1 ∨ k = 2 ∨ k = 3 ∨ k = 4 ∨ k = 5 := by omega
def tkb (kind num v plan : Nat) : Nat := if kind = 1 then v / 2 else if kind = 2 then 2 * v else if kind = 3 then (if plan = 0 then v / 2 + 1 else v / 2) else if kind = 4 then (if plan = 9 then 1 else 2 * v) else if kind = 5 then v + num else v
def boyb (v c : Nat) : Nat := if c % 2 = 0 then v else min (v + 1) 9
def lyb (kind num v plan c : Nat) : Nat := if kind = 1 then boyb v c else if kind = 2 then plan else if kind = 3 then (if c / 6 = num then 0 else boyb v c) else if kind = 4 then plan else if kind = 5 then (if v = plan then v else 0) else v
section P20
variable {d k pc a i j c p b n : Nat} {v : Int} {L L' : mx_L} {st r : List Value} {P : mx_Pm} {h : mx_H} {s : mx_St} {Q : Option Value → mx_H → Prop} {x y : Int32} {β : Nat → Nat}
theorem n_lor (hc : mx_tb k pc = some (.lor, a, v)) (kk : wq d k (pc + 1) L (.long (lN (i ||| j)) :: r) h Q) : wq d k pc L (.long (lN j) :: .long (lN i) :: r) h Q := q_lor hc (by rw [lN_or]; exact kk)
theorem n_land (hc : mx_tb k pc = some (.land, a, v)) (kk : wq d k (pc + 1) L (.long (lN (i &&& j)) :: r) h Q) : wq d k pc L (.long (lN j) :: .long (lN i) :: r) h Q := q_land hc (by rw [lN_and]; exact kk)
theorem n_max {j0 : Nat} (hc : mx_tb k pc = some (.invokestatic j0, a, 20)) (h8 : mx_ok8 r = true) (hi : i < 2 ^ 31) (hj : j < 2 ^ 31) (kk : wq d k (pc + 3) L (.int (nI (max i j)) :: r) h Q) : wq d k pc L (.int (nI j) :: .int (nI i) :: r) h Q := q_max hc h8 (by
  have e : (if nI i < nI j then nI j else nI i) = nI (max i j) := by
    by_cases g : i < j
    · rw [if_pos (nI_lt g hj), Nat.max_eq_right (by omega)]
    · rw [if_neg (nI_nlt (by omega) hi), Nat.max_eq_left (by omega)]
  rw [e]; exact kk)
theorem n_min {j0 : Nat} (hc : mx_tb k pc = some (.invokestatic j0, a, 21)) (h8 : mx_ok8 r = true) (hi : i < 2 ^ 31) (hj : j < 2 ^ 31) (kk : wq d k (pc + 3) L (.int (nI (min i j)) :: r) h Q) : wq d k pc L (.int (nI j) :: .int (nI i) :: r) h Q := q_min hc h8 (by
  have e : (if nI j < nI i then nI j else nI i) = nI (min i j) := by
    by_cases g : j < i
    · rw [if_pos (nI_lt g hi), Nat.min_eq_right (by omega)]
    · rw [if_neg (nI_nlt (by omega) hj), Nat.min_eq_left (by omega)]
  rw [e]; exact kk)
theorem c_bitN (hc : c < 36) (hq : Q (some (.long (lN (2 ^ c)))) h) : wc d 128 [.int (nI c)] h Q := c_bit (by rw [bit_lN c hc]; exact hq)
theorem c_cellN (hc : c < 36) (hq : Q (some (.int 1)) h) : wc d 126 [.int (nI c)] h Q := c_isCell (fun _ _ _ => hq) (fun g => by
  rcases g with g | g
  · exact absurd g (nI_pos (by omega))
  · exact absurd (x_le g (by omega) (by omega)) (by omega))
theorem and_bit (m c : Nat) : m &&& 2 ^ c = (m.testBit c).toNat * 2 ^ c := by
  apply Nat.eq_of_testBit_eq
  intro i
  rw [Nat.testBit_and, Nat.testBit_two_pow]
  by_cases e : c = i
  · subst e
    cases m.testBit c <;> simp [Nat.testBit_two_pow]
  · cases m.testBit c <;> simp [Nat.testBit_two_pow, e]
theorem c_hasT {m : Nat} (hd : 1 ≤ d) (hc : c < 36) (hm : m < 2 ^ 36) (ht : m.testBit c = true → Q (some (.int 1)) h) (hf : m.testBit c = false → Q (some (.int 0)) h) : wc d 129 [.long (lN m), .int (nI c)] h Q := by
  have key : lg_cmp (lN (m &&& 2 ^ c)) 0 = if m.testBit c = true then 1 else 0 := by
    rw [and_bit]
    cases e : m.testBit c with
    | true => exact lgc1 c hc
    | false => rw [show (false.toNat * 2 ^ c) = 0 by simp]; decide
  refine wc.go [_, _, _] rfl ?_
  refine q_lload_n (pc := 0) rfl rfl ?_
  refine q_iload_n (pc := 1) rfl rfl ?_
  refine q_callS (pc := 2) _ (by decide) rfl rfl rfl rfl (Nat.le_of_ble_eq_true rfl) (by omega) _ rfl ?_
  refine c_bitN hc ?_
  first | refine n_land (pc := 5) rfl ?_ | refine q_land (pc := 5) rfl ?_
  refine q_lconst (pc := 6) rfl (0) (by decide) ?_
  refine q_lcmp (pc := 7) rfl ?_
  rw [key]
  refine q_ifeq (pc := 8) rfl (fun h8 => ?_) (fun h8 => ?_)
  · refine q_iconst (pc := 15) rfl (nI 0) (by decide) ?_
    refine q_iret (pc := 16) rfl (rfl) ?_
    first | (refine ht ?_; revert h8; cases m.testBit c <;> simp; done) | (refine hf ?_; revert h8; cases m.testBit c <;> simp; done)
  · refine q_iconst (pc := 11) rfl (nI 1) (by decide) ?_
    refine q_goto (pc := 12) rfl ?_
    refine q_iret (pc := 16) rfl (rfl) ?_
    first | (refine ht ?_; revert h8; cases m.testBit c <;> simp; done) | (refine hf ?_; revert h8; cases m.testBit c <;> simp; done)
theorem c_planOf (hd : 1 ≤ d) (H : HR P h s) (hl : 51 ≤ P.1) (hb : isB b) (hβ : BT s b β) (hc : c < 36) (hq : Q (some (.int (nI (β (36 + c))))) h) : wc d 4 [.ref b, .int (nI c)] h Q := by
  refine wc.go [_, _] rfl ?_
  refine q_iload_n (pc := 0) rfl rfl ?_
  refine q_callS (pc := 1) _ (by decide) rfl rfl rfl rfl (Nat.le_of_ble_eq_true rfl) (by omega) _ rfl ?_
  refine c_cellN hc ?_
  · refine q_ifeq (pc := 4) rfl (fun z => absurd z (by decide)) (fun _ => ?_)
    refine q_aload_n (pc := 7) rfl rfl rfl ?_
    refine q_getf (pc := 8) rfl (by exact HR.B H hl hb hβ) rfl rfl ?_
    refine q_iload_n (pc := 11) rfl rfl ?_
    refine n_ild (pc := 12) rfl (by first | exact HR.am H hl hb hβ | exact HR.ap H hl hb hβ) rfl (by omega) (by omega) ?_
    refine q_goto (pc := 13) rfl ?_
    refine q_iret (pc := 18) rfl (rfl) ?_
    exact hq
theorem c_planOfX (hd : 1 ≤ d) (H : HR P h s) (hl : 51 ≤ P.1) (hb : isB b) (hβ : BT s b β) (ht : ∀ j, j < 36 → x = nI j → Q (some (.int (nI (β (36 + j))))) h) (hf : (x < 0 ∨ nI 36 ≤ x) → Q (some (.int (-2))) h) : wc d 4 [.ref b, .int x] h Q := by
  refine wc.go [_, _] rfl ?_
  refine q_iload_n (pc := 0) rfl rfl ?_
  refine q_callS (pc := 1) _ (by decide) rfl rfl rfl rfl (Nat.le_of_ble_eq_true rfl) (by omega) _ rfl ?_
  refine c_isCell (fun j hj hx => ?_) (fun g => ?_)
  · refine q_ifeq (pc := 4) rfl (fun z => absurd z (by decide)) (fun _ => ?_)
    refine q_aload_n (pc := 7) rfl rfl rfl ?_
    refine q_getf (pc := 8) rfl (by exact HR.B H hl hb hβ) rfl rfl ?_
    refine q_iload_n (pc := 11) rfl rfl ?_
    refine n_ild (pc := 12) rfl (by first | exact HR.am H hl hb hβ | exact HR.ap H hl hb hβ) hx (by omega) (by omega) ?_
    refine q_goto (pc := 13) rfl ?_
    refine q_iret (pc := 18) rfl (rfl) ?_
    first | exact ht j hj hx | exact hf g
  · refine q_ifeq (pc := 4) rfl (fun _ => ?_) (fun z => absurd (by decide) z)
    refine q_bipush (pc := 16) rfl (-2) (by decide) ?_
    refine q_iret (pc := 18) rfl (rfl) ?_
    first | exact ht j hj hx | exact hf g
theorem c_isWrong (hd : 1 ≤ d) (H : HR P h s) (hl : 51 ≤ P.1) (hb : isB b) (hβ : BT s b β) (hc : c < 36) (ht : wrn β c = true → Q (some (.int 1)) h) (hf : wrn β c = false → Q (some (.int 0)) h) (hk : ∀ i, i < 72 → β i ≤ 9) : wc d 5 [.ref b, .int (nI c)] h Q := by
  have g1 := hk c (by omega)
  have g2 := hk (36 + c) (by omega)
  refine wc.go [_, _] rfl ?_
  refine q_iload_n (pc := 0) rfl rfl ?_
  refine q_callS (pc := 1) _ (by decide) rfl rfl rfl rfl (Nat.le_of_ble_eq_true rfl) (by omega) _ rfl ?_
  refine c_cellN hc ?_
  · refine q_ifeq (pc := 4) rfl (fun z => absurd z (by decide)) (fun _ => ?_)
    refine q_aload_n (pc := 7) rfl rfl rfl ?_
    refine q_getf (pc := 8) rfl (by exact HR.B H hl hb hβ) rfl rfl ?_
    refine q_iload_n (pc := 11) rfl rfl ?_
    refine n_ild (pc := 12) rfl (by first | exact HR.am H hl hb hβ | exact HR.ap H hl hb hβ) rfl (by omega) (by omega) ?_
    refine q_aload_n (pc := 13) rfl rfl rfl ?_
    refine q_getf (pc := 14) rfl (by exact HR.B H hl hb hβ) rfl rfl ?_
    refine q_iload_n (pc := 17) rfl rfl ?_
    refine n_ild (pc := 18) rfl (by first | exact HR.am H hl hb hβ | exact HR.ap H hl hb hβ) rfl (by omega) (by omega) ?_
    first | refine n_icmpeq (pc := 19) rfl (by omega) (by omega) (fun h19 => ?_) (fun h19 => ?_) | refine q_icmpeq (pc := 19) rfl (fun h19 => ?_) (fun h19 => ?_)
    · refine q_iconst (pc := 26) rfl (nI 0) (by decide) ?_
      refine q_iret (pc := 27) rfl (rfl) ?_
      first | exact ht (wrn_t h19) | exact hf (wrn_f h19)
    · refine q_iconst (pc := 22) rfl (nI 1) (by decide) ?_
      refine q_goto (pc := 23) rfl ?_
      refine q_iret (pc := 27) rfl (rfl) ?_
      first | exact ht (wrn_t h19) | exact hf (wrn_f h19)
theorem c_wbitsL (hd : 1 ≤ d) (H : HR P h s) (hl : 51 ≤ P.1) (hb : isB b) (hβ : BT s b β) (hk : ∀ i, i < 72 → β i ≤ 9) (hq : Q (some (.long (lN (wbs β)))) h) (c : Nat) (hc : c ≤ 36) : wq d 7 4 [some (.ref b), some (.long (lN (bset (wrn β) c))), none, some (.int (nI c))] [] h Q := by
  refine q_iload_n (pc := 4) rfl rfl ?_
  refine q_bipush (pc := 5) rfl (nI 36) (by decide) ?_
  first | refine n_icmpge (pc := 7) rfl (by omega) (by omega) (fun h7 => ?_) (fun h7 => ?_) | refine q_icmpge (pc := 7) rfl (fun h7 => ?_) (fun h7 => ?_)
  · obtain rfl : c = 36 := by omega
    refine q_lload_n (pc := 38) rfl rfl ?_
    refine q_lret (pc := 39) rfl rfl ?_
    exact hq
  · have g1 := hk c (by omega)
    have g2 := hk (36 + c) (by omega)
    refine q_aload_n (pc := 10) rfl rfl rfl ?_
    refine q_getf (pc := 11) rfl (by exact HR.B H hl hb hβ) rfl rfl ?_
    refine q_iload_n (pc := 14) rfl rfl ?_
    refine n_ild (pc := 15) rfl (by first | exact HR.am H hl hb hβ | exact HR.ap H hl hb hβ) rfl (by omega) (by omega) ?_
    refine q_aload_n (pc := 16) rfl rfl rfl ?_
    refine q_getf (pc := 17) rfl (by exact HR.B H hl hb hβ) rfl rfl ?_
    refine q_iload_n (pc := 20) rfl rfl ?_
    refine n_ild (pc := 21) rfl (by first | exact HR.am H hl hb hβ | exact HR.ap H hl hb hβ) rfl (by omega) (by omega) ?_
    first | refine n_icmpeq (pc := 22) rfl (by omega) (by omega) (fun h22 => ?_) (fun h22 => ?_) | refine q_icmpeq (pc := 22) rfl (fun h22 => ?_) (fun h22 => ?_)
    · rw [← bset_f (wrn_f h22)]
      first | refine n_iinc (pc := 32) rfl [_, _, _, _] 1 (by decide) rfl rfl ?_ | refine q_iinc (pc := 32) [_, _, _, _] (1) rfl rfl (by decide) rfl ?_
      refine q_goto (pc := 35) rfl ?_
      exact c_wbitsL hd H hl hb hβ hk hq (c + 1) (by omega)
    · 
      refine q_lload_n (pc := 25) rfl rfl ?_
      refine q_iload_n (pc := 26) rfl rfl ?_
      refine q_callS (pc := 27) _ (by decide) rfl rfl rfl rfl (Nat.le_of_ble_eq_true rfl) (by omega) _ rfl ?_
      refine c_bitN h7 ?_
      first | refine n_lor (pc := 30) rfl ?_ | refine q_lor (pc := 30) rfl ?_
      rw [← bset_t (wrn_t h22)]
      refine q_lstore_n (pc := 31) [_, _, _, _] rfl (Nat.le_of_ble_eq_true rfl) rfl ?_
      first | refine n_iinc (pc := 32) rfl [_, _, _, _] 1 (by decide) rfl rfl ?_ | refine q_iinc (pc := 32) [_, _, _, _] (1) rfl rfl (by decide) rfl ?_
      refine q_goto (pc := 35) rfl ?_
      exact c_wbitsL hd H hl hb hβ hk hq (c + 1) (by omega)
termination_by 36 - c
theorem c_wbits (hd : 1 ≤ d) (H : HR P h s) (hl : 51 ≤ P.1) (hb : isB b) (hβ : BT s b β) (hk : ∀ i, i < 72 → β i ≤ 9) (hq : Q (some (.long (lN (wbs β)))) h) : wc d 7 [.ref b] h Q := by
  refine wc.go [_, _, _, _] rfl ?_
  refine q_lconst (pc := 0) rfl (0) (by decide) ?_
  refine q_lstore_n (pc := 1) [_, _, _, _] rfl (Nat.le_of_ble_eq_true rfl) rfl ?_
  refine q_iconst (pc := 2) rfl (nI 0) (by decide) ?_
  refine q_istore_n (pc := 3) [_, _, _, _] rfl (Nat.le_of_ble_eq_true rfl) rfl ?_
  exact c_wbitsL hd H hl hb hβ hk hq 0 (by omega)
theorem c_firstWrongL (H : HR P h s) (hl : 51 ≤ P.1) (hb : isB b) (hβ : BT s b β) (hk : ∀ i, i < 72 → β i ≤ 9) (hq : Q (some (.int (oc (fsw β)))) h) (c : Nat) (hc : c ≤ 36) (hf : ∀ i, i < c → wrn β i = false) : wq d 8 2 [some (.ref b), some (.int (nI c))] [] h Q := by
  refine q_iload_n (pc := 2) rfl rfl ?_
  refine q_bipush (pc := 3) rfl (nI 36) (by decide) ?_
  first | refine n_icmpge (pc := 5) rfl (by omega) (by omega) (fun h5 => ?_) (fun h5 => ?_) | refine q_icmpge (pc := 5) rfl (fun h5 => ?_) (fun h5 => ?_)
  · obtain rfl : c = 36 := by omega
    refine q_iconst (pc := 31) rfl (-1) (by decide) ?_
    refine q_iret (pc := 32) rfl (rfl) ?_
    unfold fsw at hq
    first | (rw [fnd_no _ _ _ (fun i _ g => hf i (by omega))] at hq; exact hq) | (rw [fnd_eq _ 36 0 c (by omega) (by omega) (wrn_t h20) (fun i _ g => hf i g), oc, if_pos h5] at hq; exact hq)
  · have g1 := hk c (by omega)
    have g2 := hk (36 + c) (by omega)
    refine q_aload_n (pc := 8) rfl rfl rfl ?_
    refine q_getf (pc := 9) rfl (by exact HR.B H hl hb hβ) rfl rfl ?_
    refine q_iload_n (pc := 12) rfl rfl ?_
    refine n_ild (pc := 13) rfl (by first | exact HR.am H hl hb hβ | exact HR.ap H hl hb hβ) rfl (by omega) (by omega) ?_
    refine q_aload_n (pc := 14) rfl rfl rfl ?_
    refine q_getf (pc := 15) rfl (by exact HR.B H hl hb hβ) rfl rfl ?_
    refine q_iload_n (pc := 18) rfl rfl ?_
    refine n_ild (pc := 19) rfl (by first | exact HR.am H hl hb hβ | exact HR.ap H hl hb hβ) rfl (by omega) (by omega) ?_
    first | refine n_icmpeq (pc := 20) rfl (by omega) (by omega) (fun h20 => ?_) (fun h20 => ?_) | refine q_icmpeq (pc := 20) rfl (fun h20 => ?_) (fun h20 => ?_)
    · first | refine n_iinc (pc := 25) rfl [_, _] 1 (by decide) rfl rfl ?_ | refine q_iinc (pc := 25) [_, _] (1) rfl rfl (by decide) rfl ?_
      refine q_goto (pc := 28) rfl ?_
      exact c_firstWrongL H hl hb hβ hk hq (c + 1) (by omega) (lt_s hf (wrn_f h20))
    · refine q_iload_n (pc := 23) rfl rfl ?_
      refine q_iret (pc := 24) rfl (rfl) ?_
      unfold fsw at hq
      first | (rw [fnd_no _ _ _ (fun i _ g => hf i (by omega))] at hq; exact hq) | (rw [fnd_eq _ 36 0 c (by omega) (by omega) (wrn_t h20) (fun i _ g => hf i g), oc, if_pos h5] at hq; exact hq)
termination_by 36 - c
theorem c_firstWrong (H : HR P h s) (hl : 51 ≤ P.1) (hb : isB b) (hβ : BT s b β) (hk : ∀ i, i < 72 → β i ≤ 9) (hq : Q (some (.int (oc (fsw β)))) h) : wc d 8 [.ref b] h Q := by
  refine wc.go [_, _] rfl ?_
  refine q_iconst (pc := 0) rfl (nI 0) (by decide) ?_
  refine q_istore_n (pc := 1) [_, _] rfl (Nat.le_of_ble_eq_true rfl) rfl ?_
  exact c_firstWrongL H hl hb hβ hk hq 0 (by omega) (fun i hi => by omega)
theorem c_wrongBeside (H : HR P h s) (hl : 51 ≤ P.1) (hb : isB b) (hβ : BT s b β) (hk : ∀ i, i < 72 → β i ≤ 9) (hc : c < 36) (hq : Q (some (.int (nI (w4 β c)))) h) : wc d 9 [.ref b, .int (nI c)] h Q := by
  have g1 := fun (z : Nat) (hz : z < 72) => hk z hz
  have k1 := hk (c - 6) (by omega)
  have k2 := hk (36 + (c - 6)) (by omega)
  have k3 := hk (c - 1) (by omega)
  have k4 := hk (36 + (c - 1)) (by omega)
  have k5 := hk (c + 1) (by omega)
  have k7 := hk (c + 6) (by omega)
  have k8 : c < 30 → β (36 + (c + 6)) ≤ 9 := fun z => hk _ (by omega)
  have k9 : c < 35 → β (36 + (c + 1)) ≤ 9 := fun z => hk _ (by omega)
  have t4 : ∀ z n, z = (decide (c % 6 < 5) && wrn β (c + 1)).toNat → n = (decide (6 ≤ c) && wrn β (c - 6)).toNat + (decide (c < 30) && wrn β (c + 6)).toNat + (decide (0 < c % 6) && wrn β (c - 1)).toNat → wq d 9 146 [some (.ref b), some (.int (nI c)), some (.int (nI (c % 6))), some (.int (nI n))] [.int (nI z), .int (nI n)] h Q := by
    intro z n hz hn
    first | refine n_iadd (pc := 146) rfl ?_ | refine q_iadd (pc := 146) rfl ?_
    refine q_istore_n (pc := 147) [_, _, _, _] rfl (Nat.le_of_ble_eq_true rfl) rfl ?_
    refine q_iload_n (pc := 148) rfl rfl ?_
    refine q_iret (pc := 149) rfl (rfl) ?_
    rw [hz, hn]; exact hq
  have t3 : ∀ z n, z = (decide (0 < c % 6) && wrn β (c - 1)).toNat → n = (decide (6 ≤ c) && wrn β (c - 6)).toNat + (decide (c < 30) && wrn β (c + 6)).toNat → wq d 9 114 [some (.ref b), some (.int (nI c)), some (.int (nI (c % 6))), some (.int (nI n))] [.int (nI z), .int (nI n)] h Q := by
    intro z n hz hn
    first | refine n_iadd (pc := 114) rfl ?_ | refine q_iadd (pc := 114) rfl ?_
    refine q_istore_n (pc := 115) [_, _, _, _] rfl (Nat.le_of_ble_eq_true rfl) rfl ?_
    refine q_iload_n (pc := 116) rfl rfl ?_
    refine q_iload_n (pc := 117) rfl rfl ?_
    refine q_iconst (pc := 118) rfl (nI 5) (by decide) ?_
    first | refine n_icmpge (pc := 119) rfl (by omega) (by omega) (fun h119 => ?_) (fun h119 => ?_) | refine q_icmpge (pc := 119) rfl (fun h119 => ?_) (fun h119 => ?_)
    · refine q_iconst (pc := 145) rfl (nI 0) (by decide) ?_
      first | exact t4 _ _ (iw_1 (by omega) (by omega)) (by rw [hz, hn]) | exact t4 _ _ (iw_0 (fun _ _ => by omega)) (by rw [hz, hn])
    · have k9' := k9 (by omega)
      refine q_aload_n (pc := 122) rfl rfl rfl ?_
      refine q_getf (pc := 123) rfl (by exact HR.B H hl hb hβ) rfl rfl ?_
      refine q_iload_n (pc := 126) rfl rfl ?_
      refine q_iconst (pc := 127) rfl (nI 1) (by decide) ?_
      first | refine n_iadd (pc := 128) rfl ?_ | refine q_iadd (pc := 128) rfl ?_
      refine n_ild (pc := 129) rfl (by first | exact HR.am H hl hb hβ | exact HR.ap H hl hb hβ) rfl (by omega) (by omega) ?_
      refine q_aload_n (pc := 130) rfl rfl rfl ?_
      refine q_getf (pc := 131) rfl (by exact HR.B H hl hb hβ) rfl rfl ?_
      refine q_iload_n (pc := 134) rfl rfl ?_
      refine q_iconst (pc := 135) rfl (nI 1) (by decide) ?_
      first | refine n_iadd (pc := 136) rfl ?_ | refine q_iadd (pc := 136) rfl ?_
      refine n_ild (pc := 137) rfl (by first | exact HR.am H hl hb hβ | exact HR.ap H hl hb hβ) rfl (by omega) (by omega) ?_
      first | refine n_icmpeq (pc := 138) rfl (by omega) (by omega) (fun h138 => ?_) (fun h138 => ?_) | refine q_icmpeq (pc := 138) rfl (fun h138 => ?_) (fun h138 => ?_)
      · refine q_iconst (pc := 145) rfl (nI 0) (by decide) ?_
        first | exact t4 _ _ (iw_1 (by omega) (by omega)) (by rw [hz, hn]) | exact t4 _ _ (iw_0 (fun _ _ => by omega)) (by rw [hz, hn])
      · refine q_iconst (pc := 141) rfl (nI 1) (by decide) ?_
        refine q_goto (pc := 142) rfl ?_
        first | exact t4 _ _ (iw_1 (by omega) (by omega)) (by rw [hz, hn]) | exact t4 _ _ (iw_0 (fun _ _ => by omega)) (by rw [hz, hn])
  have t2 : ∀ z n, z = (decide (c < 30) && wrn β (c + 6)).toNat → n = (decide (6 ≤ c) && wrn β (c - 6)).toNat → wq d 9 83 [some (.ref b), some (.int (nI c)), some (.int (nI (c % 6))), some (.int (nI n))] [.int (nI z), .int (nI n)] h Q := by
    intro z n hz hn
    first | refine n_iadd (pc := 83) rfl ?_ | refine q_iadd (pc := 83) rfl ?_
    refine q_istore_n (pc := 84) [_, _, _, _] rfl (Nat.le_of_ble_eq_true rfl) rfl ?_
    refine q_iload_n (pc := 85) rfl rfl ?_
    refine q_iload_n (pc := 86) rfl rfl ?_
    first | refine n_ifle (pc := 87) rfl (by omega) (fun h87 => ?_) (fun h87 => ?_) | refine q_ifle (pc := 87) rfl (fun h87 => ?_) (fun h87 => ?_)
    · refine q_iconst (pc := 113) rfl (nI 0) (by decide) ?_
      first | exact t3 _ _ (iw_1 (by omega) (by omega)) (by rw [hz, hn]) | exact t3 _ _ (iw_0 (fun _ _ => by omega)) (by rw [hz, hn])
    · refine q_aload_n (pc := 90) rfl rfl rfl ?_
      refine q_getf (pc := 91) rfl (by exact HR.B H hl hb hβ) rfl rfl ?_
      refine q_iload_n (pc := 94) rfl rfl ?_
      refine q_iconst (pc := 95) rfl (nI 1) (by decide) ?_
      first | refine n_isub (pc := 96) rfl (by omega) ?_ | refine q_isub (pc := 96) rfl ?_
      refine n_ild (pc := 97) rfl (by first | exact HR.am H hl hb hβ | exact HR.ap H hl hb hβ) rfl (by omega) (by omega) ?_
      refine q_aload_n (pc := 98) rfl rfl rfl ?_
      refine q_getf (pc := 99) rfl (by exact HR.B H hl hb hβ) rfl rfl ?_
      refine q_iload_n (pc := 102) rfl rfl ?_
      refine q_iconst (pc := 103) rfl (nI 1) (by decide) ?_
      first | refine n_isub (pc := 104) rfl (by omega) ?_ | refine q_isub (pc := 104) rfl ?_
      refine n_ild (pc := 105) rfl (by first | exact HR.am H hl hb hβ | exact HR.ap H hl hb hβ) rfl (by omega) (by omega) ?_
      first | refine n_icmpeq (pc := 106) rfl (by omega) (by omega) (fun h106 => ?_) (fun h106 => ?_) | refine q_icmpeq (pc := 106) rfl (fun h106 => ?_) (fun h106 => ?_)
      · refine q_iconst (pc := 113) rfl (nI 0) (by decide) ?_
        first | exact t3 _ _ (iw_1 (by omega) (by omega)) (by rw [hz, hn]) | exact t3 _ _ (iw_0 (fun _ _ => by omega)) (by rw [hz, hn])
      · refine q_iconst (pc := 109) rfl (nI 1) (by decide) ?_
        refine q_goto (pc := 110) rfl ?_
        first | exact t3 _ _ (iw_1 (by omega) (by omega)) (by rw [hz, hn]) | exact t3 _ _ (iw_0 (fun _ _ => by omega)) (by rw [hz, hn])
  have t1 : ∀ z, z = (decide (6 ≤ c) && wrn β (c - 6)).toNat → wq d 9 49 [some (.ref b), some (.int (nI c)), some (.int (nI (c % 6))), none] [.int (nI z)] h Q := by
    intro z hz
    refine q_istore_n (pc := 49) [_, _, _, _] rfl (Nat.le_of_ble_eq_true rfl) rfl ?_
    refine q_iload_n (pc := 50) rfl rfl ?_
    refine q_iload_n (pc := 51) rfl rfl ?_
    refine q_bipush (pc := 52) rfl (nI 30) (by decide) ?_
    first | refine n_icmpge (pc := 54) rfl (by omega) (by omega) (fun h54 => ?_) (fun h54 => ?_) | refine q_icmpge (pc := 54) rfl (fun h54 => ?_) (fun h54 => ?_)
    · refine q_iconst (pc := 82) rfl (nI 0) (by decide) ?_
      first | exact t2 _ _ (iw_1 (by omega) (by omega)) hz | exact t2 _ _ (iw_0 (fun _ _ => by omega)) hz
    · have k8' := k8 (by omega)
      refine q_aload_n (pc := 57) rfl rfl rfl ?_
      refine q_getf (pc := 58) rfl (by exact HR.B H hl hb hβ) rfl rfl ?_
      refine q_iload_n (pc := 61) rfl rfl ?_
      refine q_bipush (pc := 62) rfl (nI 6) (by decide) ?_
      first | refine n_iadd (pc := 64) rfl ?_ | refine q_iadd (pc := 64) rfl ?_
      refine n_ild (pc := 65) rfl (by first | exact HR.am H hl hb hβ | exact HR.ap H hl hb hβ) rfl (by omega) (by omega) ?_
      refine q_aload_n (pc := 66) rfl rfl rfl ?_
      refine q_getf (pc := 67) rfl (by exact HR.B H hl hb hβ) rfl rfl ?_
      refine q_iload_n (pc := 70) rfl rfl ?_
      refine q_bipush (pc := 71) rfl (nI 6) (by decide) ?_
      first | refine n_iadd (pc := 73) rfl ?_ | refine q_iadd (pc := 73) rfl ?_
      refine n_ild (pc := 74) rfl (by first | exact HR.am H hl hb hβ | exact HR.ap H hl hb hβ) rfl (by omega) (by omega) ?_
      first | refine n_icmpeq (pc := 75) rfl (by omega) (by omega) (fun h75 => ?_) (fun h75 => ?_) | refine q_icmpeq (pc := 75) rfl (fun h75 => ?_) (fun h75 => ?_)
      · refine q_iconst (pc := 82) rfl (nI 0) (by decide) ?_
        first | exact t2 _ _ (iw_1 (by omega) (by omega)) hz | exact t2 _ _ (iw_0 (fun _ _ => by omega)) hz
      · refine q_iconst (pc := 78) rfl (nI 1) (by decide) ?_
        refine q_goto (pc := 79) rfl ?_
        first | exact t2 _ _ (iw_1 (by omega) (by omega)) hz | exact t2 _ _ (iw_0 (fun _ _ => by omega)) hz
  refine wc.go [_, _, _, _] rfl ?_
  refine q_iload_n (pc := 0) rfl rfl ?_
  refine q_iflt (pc := 1) rfl (fun h1 => ?_) (fun h1 => ?_)
  · first | (exfalso; omega) | exact absurd h1 (nI_pos (by omega)) | exact absurd (nI_pos' (by omega)) h1
  · refine q_iload_n (pc := 4) rfl rfl ?_
    refine q_bipush (pc := 5) rfl (nI 36) (by decide) ?_
    first | refine n_icmplt (pc := 7) rfl (by omega) (by omega) (fun h7 => ?_) (fun h7 => ?_) | refine q_icmplt (pc := 7) rfl (fun h7 => ?_) (fun h7 => ?_)
    · refine q_iload_n (pc := 12) rfl rfl ?_
      refine q_bipush (pc := 13) rfl (nI 6) (by decide) ?_
      first | refine n_irem (pc := 15) rfl (by omega) (by omega) (by omega) ?_ | refine q_irem (pc := 15) rfl (by decide) ?_
      refine q_istore_n (pc := 16) [_, _, _, _] rfl (Nat.le_of_ble_eq_true rfl) rfl ?_
      refine q_iload_n (pc := 17) rfl rfl ?_
      refine q_bipush (pc := 18) rfl (nI 6) (by decide) ?_
      first | refine n_icmplt (pc := 20) rfl (by omega) (by omega) (fun h20 => ?_) (fun h20 => ?_) | refine q_icmplt (pc := 20) rfl (fun h20 => ?_) (fun h20 => ?_)
      · refine q_iconst (pc := 48) rfl (nI 0) (by decide) ?_
        first | exact t1 _ (iw_1 (by omega) (by omega)) | exact t1 _ (iw_0 (fun _ _ => by omega))
      · refine q_aload_n (pc := 23) rfl rfl rfl ?_
        refine q_getf (pc := 24) rfl (by exact HR.B H hl hb hβ) rfl rfl ?_
        refine q_iload_n (pc := 27) rfl rfl ?_
        refine q_bipush (pc := 28) rfl (nI 6) (by decide) ?_
        first | refine n_isub (pc := 30) rfl (by omega) ?_ | refine q_isub (pc := 30) rfl ?_
        refine n_ild (pc := 31) rfl (by first | exact HR.am H hl hb hβ | exact HR.ap H hl hb hβ) rfl (by omega) (by omega) ?_
        refine q_aload_n (pc := 32) rfl rfl rfl ?_
        refine q_getf (pc := 33) rfl (by exact HR.B H hl hb hβ) rfl rfl ?_
        refine q_iload_n (pc := 36) rfl rfl ?_
        refine q_bipush (pc := 37) rfl (nI 6) (by decide) ?_
        first | refine n_isub (pc := 39) rfl (by omega) ?_ | refine q_isub (pc := 39) rfl ?_
        refine n_ild (pc := 40) rfl (by first | exact HR.am H hl hb hβ | exact HR.ap H hl hb hβ) rfl (by omega) (by omega) ?_
        first | refine n_icmpeq (pc := 41) rfl (by omega) (by omega) (fun h41 => ?_) (fun h41 => ?_) | refine q_icmpeq (pc := 41) rfl (fun h41 => ?_) (fun h41 => ?_)
        · refine q_iconst (pc := 48) rfl (nI 0) (by decide) ?_
          first | exact t1 _ (iw_1 (by omega) (by omega)) | exact t1 _ (iw_0 (fun _ _ => by omega))
        · refine q_iconst (pc := 44) rfl (nI 1) (by decide) ?_
          refine q_goto (pc := 45) rfl ?_
          first | exact t1 _ (iw_1 (by omega) (by omega)) | exact t1 _ (iw_0 (fun _ _ => by omega))
    · first | (exfalso; omega) | exact absurd h7 (nI_pos (by omega)) | exact absurd (nI_pos' (by omega)) h7
theorem c_member (H : HR P h s) (hl : 51 ≤ P.1) (hb : isB b) (hβ : BT s b β) (ht : ∀ j, j < 4 → j < β 88 → x = nI j → Q (some (.ref (b + 4 + j))) h) (hf : (x < 0 ∨ nI (β 88) ≤ x) → Q (some .null) h) (h4 : β 88 ≤ 4) : wc d 2 [.ref b, .int x] h Q := by
  refine wc.go [_, _] rfl ?_
  refine q_iload_n (pc := 0) rfl rfl ?_
  refine q_iflt (pc := 1) rfl (fun h1 => ?_) (fun h1 => ?_)
  · have g : x < 0 ∨ nI (β 88) ≤ x := Or.inl h1
    refine q_null (pc := 26) rfl ?_
    first | (refine q_aret (pc := 27) rfl rfl ?_; exact ht j (by omega) (by omega) rfl) | (refine q_aretN (pc := 27) rfl rfl ?_; exact hf g)
  · 
    refine q_iload_n (pc := 4) rfl rfl ?_
    refine q_aload_n (pc := 5) rfl rfl rfl ?_
    refine q_getf (pc := 6) rfl (by exact HR.B H hl hb hβ) rfl rfl ?_
    first | refine n_icmpge (pc := 9) rfl (by omega) (by omega) (fun h9 => ?_) (fun h9 => ?_) | refine q_icmpge (pc := 9) rfl (fun h9 => ?_) (fun h9 => ?_)
    · have g : x < 0 ∨ nI (β 88) ≤ x := Or.inr h9
      refine q_null (pc := 26) rfl ?_
      first | (refine q_aret (pc := 27) rfl rfl ?_; exact ht j (by omega) (by omega) rfl) | (refine q_aretN (pc := 27) rfl rfl ?_; exact hf g)
    · obtain ⟨j, hj, rfl⟩ := x_big (by omega) h1 h9
      refine q_iload_n (pc := 12) rfl rfl ?_
      refine q_iconst (pc := 13) rfl (nI 4) (by decide) ?_
      first | refine n_icmpge (pc := 14) rfl (by omega) (by omega) (fun h14 => ?_) (fun h14 => ?_) | refine q_icmpge (pc := 14) rfl (fun h14 => ?_) (fun h14 => ?_)
      · first | (exfalso; omega) | exact absurd h14 (nI_pos (by omega)) | exact absurd (nI_pos' (by omega)) h14
      · refine q_aload_n (pc := 17) rfl rfl rfl ?_
        refine q_getf (pc := 18) rfl (by exact HR.B H hl hb hβ) rfl rfl ?_
        refine q_iload_n (pc := 21) rfl rfl ?_
        refine q_aaload (pc := 22) rfl (by exact HR.ac H hl hb) (by decide) (by rcases hb with rfl | rfl | rfl <;> decide) (by exact x_vin (n := 4) (by omega) (by decide)) ?_
        rw [x_cl (by omega), if_pos (by omega)]
        refine q_goto (pc := 23) rfl ?_
        first | (refine q_aret (pc := 27) rfl rfl ?_; exact ht j (by omega) (by omega) rfl) | (refine q_aretN (pc := 27) rfl rfl ?_; exact hf g)
theorem c_takesBy (H : HR P h s) (hl : 51 ≤ P.1) (hb : isB b) (hβ : BT s b β) (hp : p < 4) (hk : bok β n) {v plan : Nat} (hv : v ≤ 99) (hpl : plan ≤ 9) (hq : Q (some (.int (nI (tkb (β (72 + 4 * p)) (β (72 + 4 * p + 1)) v plan)))) h) : wc d 16 [.ref (b + 4 + p), .int (nI v), .int (nI plan)] h Q := by
  obtain ⟨-, hk, -⟩ := hk
  obtain ⟨hk1, hk2, -⟩ := hk p hp
  have hO := HR.O H hl hb hβ hp
  unfold tkb at hq
  refine wc.go [_, _, _] rfl ?_
  refine q_aload_n (pc := 0) rfl rfl rfl ?_
  refine q_getf (pc := 1) rfl (by exact hO) rfl rfl ?_
  rcases k6 hk1 with e | e | e | e | e | e <;> rw [e] at hq hO ⊢
  · refine q_tsw (pc := 4) (t := 85) rfl (by decide) ?_
    refine q_iload_n (pc := 85) rfl rfl ?_
    refine q_iret (pc := 86) rfl (rfl) ?_
    first | exact hq | (revert hq; (repeat' split) <;> intro hq <;> first | exact hq | (exfalso; omega))
  · refine q_tsw (pc := 4) (t := 40) rfl (by decide) ?_
    refine q_iload_n (pc := 40) rfl rfl ?_
    refine q_iconst (pc := 41) rfl (nI 2) (by decide) ?_
    first | refine n_idiv (pc := 42) rfl (by omega) (by omega) (by omega) ?_ | refine q_idiv (pc := 42) rfl (by decide) ?_
    refine q_iret (pc := 43) rfl (rfl) ?_
    first | exact hq | (revert hq; (repeat' split) <;> intro hq <;> first | exact hq | (exfalso; omega))
  · refine q_tsw (pc := 4) (t := 44) rfl (by decide) ?_
    refine q_iconst (pc := 44) rfl (nI 2) (by decide) ?_
    refine q_iload_n (pc := 45) rfl rfl ?_
    first | refine n_imul (pc := 46) rfl ?_ | refine q_imul (pc := 46) rfl ?_
    refine q_iret (pc := 47) rfl (rfl) ?_
    first | exact hq | (revert hq; (repeat' split) <;> intro hq <;> first | exact hq | (exfalso; omega))
  · refine q_tsw (pc := 4) (t := 48) rfl (by decide) ?_
    refine q_iload_n (pc := 48) rfl rfl ?_
    first | refine n_ifne (pc := 49) rfl (by omega) (fun h49 => ?_) (fun h49 => ?_) | refine q_ifne (pc := 49) rfl (fun h49 => ?_) (fun h49 => ?_)
    · refine q_iload_n (pc := 60) rfl rfl ?_
      refine q_iconst (pc := 61) rfl (nI 2) (by decide) ?_
      first | refine n_idiv (pc := 62) rfl (by omega) (by omega) (by omega) ?_ | refine q_idiv (pc := 62) rfl (by decide) ?_
      refine q_iret (pc := 63) rfl (rfl) ?_
      first | exact hq | (revert hq; (repeat' split) <;> intro hq <;> first | exact hq | (exfalso; omega))
    · refine q_iload_n (pc := 52) rfl rfl ?_
      refine q_iconst (pc := 53) rfl (nI 2) (by decide) ?_
      first | refine n_idiv (pc := 54) rfl (by omega) (by omega) (by omega) ?_ | refine q_idiv (pc := 54) rfl (by decide) ?_
      refine q_iconst (pc := 55) rfl (nI 1) (by decide) ?_
      first | refine n_iadd (pc := 56) rfl ?_ | refine q_iadd (pc := 56) rfl ?_
      refine q_goto (pc := 57) rfl ?_
      refine q_iret (pc := 63) rfl (rfl) ?_
      first | exact hq | (revert hq; (repeat' split) <;> intro hq <;> first | exact hq | (exfalso; omega))
  · refine q_tsw (pc := 4) (t := 64) rfl (by decide) ?_
    refine q_iload_n (pc := 64) rfl rfl ?_
    refine q_bipush (pc := 65) rfl (nI 9) (by decide) ?_
    first | refine n_icmpne (pc := 67) rfl (by omega) (by omega) (fun h67 => ?_) (fun h67 => ?_) | refine q_icmpne (pc := 67) rfl (fun h67 => ?_) (fun h67 => ?_)
    · refine q_iconst (pc := 74) rfl (nI 2) (by decide) ?_
      refine q_iload_n (pc := 75) rfl rfl ?_
      first | refine n_imul (pc := 76) rfl ?_ | refine q_imul (pc := 76) rfl ?_
      refine q_iret (pc := 77) rfl (rfl) ?_
      first | exact hq | (revert hq; (repeat' split) <;> intro hq <;> first | exact hq | (exfalso; omega))
    · refine q_iconst (pc := 70) rfl (nI 1) (by decide) ?_
      refine q_goto (pc := 71) rfl ?_
      refine q_iret (pc := 77) rfl (rfl) ?_
      first | exact hq | (revert hq; (repeat' split) <;> intro hq <;> first | exact hq | (exfalso; omega))
  · refine q_tsw (pc := 4) (t := 78) rfl (by decide) ?_
    refine q_iload_n (pc := 78) rfl rfl ?_
    refine q_aload_n (pc := 79) rfl rfl rfl ?_
    refine q_getf (pc := 80) rfl (by exact hO) rfl rfl ?_
    first | refine n_iadd (pc := 83) rfl ?_ | refine q_iadd (pc := 83) rfl ?_
    refine q_iret (pc := 84) rfl (rfl) ?_
    first | exact hq | (revert hq; (repeat' split) <;> intro hq <;> first | exact hq | (exfalso; omega))
theorem c_laysBy (H : HR P h s) (hl : 51 ≤ P.1) (hb : isB b) (hβ : BT s b β) (hp : p < 4) (hk : bok β n) {v plan : Nat} (hv : v ≤ 9) (hpl : plan ≤ 9) (hc : c < 36) (hq : Q (some (.int (nI (lyb (β (72 + 4 * p)) (β (72 + 4 * p + 1)) v plan c)))) h) : wc d 17 [.ref (b + 4 + p), .int (nI v), .int (nI plan), .int (nI c)] h Q := by
  obtain ⟨-, hk, -⟩ := hk
  obtain ⟨hk1, hk2, -⟩ := hk p hp
  have hO := HR.O H hl hb hβ hp
  unfold lyb at hq
  have t : wq d 17 18 [some (.ref (b + 4 + p)), some (.int (nI v)), some (.int (nI plan)), some (.int (nI c)), none] [.int (nI (boyb v c))] h Q := by
    have hby : boyb v c ≤ 9 := by unfold boyb; split <;> (try split) <;> omega
    refine q_istore (pc := 18) [_, _, _, _, _] rfl (Nat.le_of_ble_eq_true rfl) rfl ?_
    refine q_aload_n (pc := 20) rfl rfl rfl ?_
    refine q_getf (pc := 21) rfl (by exact hO) rfl rfl ?_
    rcases k6 hk1 with e | e | e | e | e | e <;> rw [e] at hq hO ⊢
    · refine q_tsw (pc := 24) (t := 94) rfl (by decide) ?_
      refine q_iload_n (pc := 94) rfl rfl ?_
      refine q_iret (pc := 95) rfl (rfl) ?_
      first | exact hq | (revert hq; (repeat' split) <;> intro hq <;> first | exact hq | (exfalso; omega))
    · refine q_tsw (pc := 24) (t := 60) rfl (by decide) ?_
      refine q_iload (pc := 60) rfl rfl ?_
      refine q_iret (pc := 62) rfl (rfl) ?_
      first | exact hq | (revert hq; (repeat' split) <;> intro hq <;> first | exact hq | (exfalso; omega))
    · refine q_tsw (pc := 24) (t := 81) rfl (by decide) ?_
      refine q_iload_n (pc := 81) rfl rfl ?_
      refine q_iret (pc := 82) rfl (rfl) ?_
      first | exact hq | (revert hq; (repeat' split) <;> intro hq <;> first | exact hq | (exfalso; omega))
    · refine q_tsw (pc := 24) (t := 63) rfl (by decide) ?_
      refine q_iload_n (pc := 63) rfl rfl ?_
      refine q_bipush (pc := 64) rfl (nI 6) (by decide) ?_
      first | refine n_idiv (pc := 66) rfl (by omega) (by omega) (by omega) ?_ | refine q_idiv (pc := 66) rfl (by decide) ?_
      refine q_aload_n (pc := 67) rfl rfl rfl ?_
      refine q_getf (pc := 68) rfl (by exact hO) rfl rfl ?_
      first | refine n_icmpne (pc := 71) rfl (by omega) (by omega) (fun h71 => ?_) (fun h71 => ?_) | refine q_icmpne (pc := 71) rfl (fun h71 => ?_) (fun h71 => ?_)
      · refine q_iload (pc := 78) rfl rfl ?_
        refine q_iret (pc := 80) rfl (rfl) ?_
        first | exact hq | (revert hq; (repeat' split) <;> intro hq <;> first | exact hq | (exfalso; omega))
      · refine q_iconst (pc := 74) rfl (nI 0) (by decide) ?_
        refine q_goto (pc := 75) rfl ?_
        refine q_iret (pc := 80) rfl (rfl) ?_
        first | exact hq | (revert hq; (repeat' split) <;> intro hq <;> first | exact hq | (exfalso; omega))
    · refine q_tsw (pc := 24) (t := 81) rfl (by decide) ?_
      refine q_iload_n (pc := 81) rfl rfl ?_
      refine q_iret (pc := 82) rfl (rfl) ?_
      first | exact hq | (revert hq; (repeat' split) <;> intro hq <;> first | exact hq | (exfalso; omega))
    · refine q_tsw (pc := 24) (t := 83) rfl (by decide) ?_
      refine q_iload_n (pc := 83) rfl rfl ?_
      refine q_iload_n (pc := 84) rfl rfl ?_
      first | refine n_icmpne (pc := 85) rfl (by omega) (by omega) (fun h85 => ?_) (fun h85 => ?_) | refine q_icmpne (pc := 85) rfl (fun h85 => ?_) (fun h85 => ?_)
      · refine q_iconst (pc := 92) rfl (nI 0) (by decide) ?_
        refine q_iret (pc := 93) rfl (rfl) ?_
        first | exact hq | (revert hq; (repeat' split) <;> intro hq <;> first | exact hq | (exfalso; omega))
      · refine q_iload_n (pc := 88) rfl rfl ?_
        refine q_goto (pc := 89) rfl ?_
        refine q_iret (pc := 93) rfl (rfl) ?_
        first | exact hq | (revert hq; (repeat' split) <;> intro hq <;> first | exact hq | (exfalso; omega))
  unfold boyb at t
  refine wc.go [_, _, _, _, _] rfl ?_
  refine q_iload_n (pc := 0) rfl rfl ?_
  refine q_iconst (pc := 1) rfl (nI 2) (by decide) ?_
  first | refine n_irem (pc := 2) rfl (by omega) (by omega) (by omega) ?_ | refine q_irem (pc := 2) rfl (by decide) ?_
  first | refine n_ifeq (pc := 3) rfl (by omega) (fun h3 => ?_) (fun h3 => ?_) | refine q_ifeq (pc := 3) rfl (fun h3 => ?_) (fun h3 => ?_)
  · refine q_iload_n (pc := 17) rfl rfl ?_
    first | (rw [if_pos h3] at t; exact t) | (rw [if_neg h3] at t; exact t)
  · refine q_iload_n (pc := 6) rfl rfl ?_
    refine q_iconst (pc := 7) rfl (nI 1) (by decide) ?_
    first | refine n_iadd (pc := 8) rfl ?_ | refine q_iadd (pc := 8) rfl ?_
    refine q_bipush (pc := 9) rfl (nI 9) (by decide) ?_
    first | refine n_min (pc := 11) rfl rfl (by omega) (by omega) ?_ | refine q_min (pc := 11) rfl rfl ?_
    refine q_goto (pc := 14) rfl ?_
    first | (rw [if_pos h3] at t; exact t) | (rw [if_neg h3] at t; exact t)
end P20
end
section
/-! ===== the beach, more ===== -/
theorem nI_m1 {m : Nat} (h : m < 2 ^ 31) : ¬ nI m = -1 := fun e => by
  have := nI_pos h
  rw [e] at this
  exact this (by decide)
theorem isB_ne {b b2 : Nat} (h1 : isB b) (h2 : isB b2) (hn : b ≠ b2) : b + 8 ≤ b2 ∨ b2 + 8 ≤ b := by unfold isB at h1 h2; omega
/-- of a beach, so far: the marks, the plans, so many of the staff -/
def BTi (s : mx_St) (b : Nat) (β : Nat → Nat) (n : Nat) : Prop := (∀ i, i < 36 → s (b + 1) i = nI (β i)) ∧ (∀ i, i < 36 → s (b + 2) i = nI (β (36 + i))) ∧ (∀ p, p < n → ∀ i, i < 4 → s (b + 4 + p) i = nI (β (72 + 4 * p + i)))
def joinb (β : Nat → Nat) (kind num on : Nat) : Nat → Nat := upN (upN (upN (upN (upN β (72 + 4 * β 88 + 0) kind) (72 + 4 * β 88 + 1) num) (72 + 4 * β 88 + 2) on) (72 + 4 * β 88 + 3) 0) 88 (β 88 + 1)
section P21
variable {d k pc a i j c p b b2 e n m n0 : Nat} {v : Int} {L L' : mx_L} {st r : List Value} {P : mx_Pm} {h : mx_H} {s : mx_St} {Q : Option Value → mx_H → Prop} {x y : Int32} {β : Nat → Nat}
theorem n_aal {u w : Nat} {f : Nat → Option Nat} (hc : mx_tb k pc = some (.aaload, a, v)) (H : HR P h s) (hl : n ≤ P.1) (hok : okc n e = true) (he : hr_c e (s e) = .inl (u, m, .inr f)) (hx : x = nI i) (hi : i < m) (hw : f i = some w) (hu : 3 ≤ u ∧ u ≤ 5 ∧ m < 2 ^ 31) (kk : wq d k (pc + 1) L (.ref w :: r) h Q) : wq d k pc L (.int x :: .ref e :: r) h Q := by
  subst hx
  have := okc_spec hok
  refine q_aaload hc ((H.c hl e hok).trans he) ⟨hu.1, hu.2.1⟩ (by have := H.1.1; show e < 1000000; omega) (x_vin hi hu.2.2) ?_
  rw [x_cl (by omega), hw]
  exact kk
theorem n_copy {j0 sp dp : Nat} (hc : mx_tb k pc = some (.invokestatic j0, a, 23)) (H : HR P h s) (hl : n ≤ P.1) (oke : okc n e = true) (okb : okc n b = true) (he : hr_c e (s e) = .inl (0, n0, .inl (s e))) (hb : ∀ F, hr_c b F = .inl (0, m, .inl F)) (h8 : mx_ok8 r = true) (h1 : sp + i ≤ n0 ∧ n0 < 2 ^ 31) (h2 : dp + i ≤ m ∧ m < 2 ^ 31) (kk : ∀ h', HR P h' (stF s b (va_cpy (s e) (s b) sp dp i)) → wq d k (pc + 3) L r h' Q) : wq d k pc L (.int (nI i) :: .int (nI dp) :: .ref b :: .int (nI sp) :: .ref e :: r) h Q := by
  have o1 := okc_spec oke
  have o2 := okc_spec okb
  have o3 := H.1.1
  refine q_copy hc ((H.c hl e oke).trans he) ((H.c hl b okb).trans (hb _)) ⟨h8, by show e < 1000000; omega, by show b < 1000000; omega, nI_pos (by omega), nI_pos (by omega), nI_pos (by omega), ?_, ?_⟩ ?_
  · rw [x_cl (by omega), x_cl (by omega)]; exact h1.1
  · rw [x_cl (by omega), x_cl (by omega)]; exact h2.1
  · rw [x_cl (by omega), x_cl (by omega), x_cl (by omega)]
    exact kk _ (H.set hl okb (hb _))
theorem nst_t {f : Nat → Bool} {g : Nat → Nat} {n m : Nat} (h1 : f n = true) (h2 : nst f g n = m) (h3 : m = 36 ∨ g n < g m) (hn : n < 36) : nI n = oc (nst f g (n + 1)) := by
  rw [nst, h2, if_pos ⟨h1, h3⟩, oc, if_pos hn]
theorem nst_f1 {f : Nat → Bool} {g : Nat → Nat} {n : Nat} {z : Int32} (h1 : f n = false) (h2 : z = oc (nst f g n)) : z = oc (nst f g (n + 1)) := by
  rw [nst, if_neg (fun q => by have := q.1; rw [h1] at this; cases this)]; exact h2
theorem nst_f2 {f : Nat → Bool} {g : Nat → Nat} {n m : Nat} {z : Int32} (hm : nst f g n = m) (h1 : m ≠ 36) (h3 : g m ≤ g n) (h2 : z = oc (nst f g n)) : z = oc (nst f g (n + 1)) := by
  rw [nst, hm, if_neg (fun q => by have := q.2; omega)]; rw [hm] at h2; exact h2
def nfr (β : Nat → Nat) (w c : Nat) : Bool := wrn β c && !(w.testBit c)
theorem nfr_t {w : Nat} (h1 : β c ≠ β (36 + c)) (h2 : w.testBit c = false) : nfr β w c = true := by unfold nfr; rw [wrn_t h1, h2]; rfl
theorem nfr_f {w : Nat} (h1 : β c = β (36 + c)) : nfr β w c = false := by unfold nfr; rw [wrn_f h1]; rfl
theorem nfr_g {w : Nat} (h1 : w.testBit c = true) : nfr β w c = false := by unfold nfr; rw [h1]; cases wrn β c <;> rfl
theorem c_nearL {w at0 : Nat} (hd : 2 ≤ d) (H : HR P h s) (hl : 51 ≤ P.1) (hb : isB b) (hβ : BT s b β) (hk : ∀ i, i < 72 → β i ≤ 9) (hw : w < 2 ^ 36) (ha : at0 < 36) (hq : Q (some (.int (oc (nst (nfr β w) (apN at0) 36)))) h) (c : Nat) (hc : c ≤ 36) (z : Int32) (hz : z = oc (nst (nfr β w) (apN at0) c)) (z6 : Option Value) : wq d 10 6 [some (.ref b), some (.int (nI at0)), some (.long (lN w)), none, some (.int z), some (.int (nI c)), z6] [] h Q := by
  have hz0 := hz
  rcases nst_lt (nfr β w) (apN at0) c with q | q
  · generalize hm : nst (nfr β w) (apN at0) c = m at q hz
    rw [oc, if_pos (by omega)] at hz
    subst hz
    have a1 := apN_le ha (show m < 36 by omega)
    refine q_iload (pc := 6) rfl rfl ?_
    refine q_bipush (pc := 8) rfl (nI 36) (by decide) ?_
    first | refine n_icmpge (pc := 10) rfl (by omega) (by omega) (fun h10 => ?_) (fun h10 => ?_) | refine q_icmpge (pc := 10) rfl (fun h10 => ?_) (fun h10 => ?_)
    · obtain rfl : c = 36 := by omega
      refine q_iload (pc := 82) rfl rfl ?_
      refine q_iret (pc := 84) rfl (rfl) ?_
      rw [hm, oc, if_pos (by omega)] at hq
      exact hq
    · have g1 := hk c (by omega)
      have g2 := hk (36 + c) (by omega)
      have a2 := apN_le ha h10
      refine q_aload_n (pc := 13) rfl rfl rfl ?_
      refine q_getf (pc := 14) rfl (by exact HR.B H hl hb hβ) rfl rfl ?_
      refine q_iload (pc := 17) rfl rfl ?_
      refine n_ild (pc := 19) rfl (by first | exact HR.am H hl hb hβ | exact HR.ap H hl hb hβ) rfl (by omega) (by omega) ?_
      refine q_aload_n (pc := 20) rfl rfl rfl ?_
      refine q_getf (pc := 21) rfl (by exact HR.B H hl hb hβ) rfl rfl ?_
      refine q_iload (pc := 24) rfl rfl ?_
      refine n_ild (pc := 26) rfl (by first | exact HR.am H hl hb hβ | exact HR.ap H hl hb hβ) rfl (by omega) (by omega) ?_
      first | refine n_icmpeq (pc := 27) rfl (by omega) (by omega) (fun h27 => ?_) (fun h27 => ?_) | refine q_icmpeq (pc := 27) rfl (fun h27 => ?_) (fun h27 => ?_)
      · refine q_iconst (pc := 43) rfl (nI 0) (by decide) ?_
        refine q_istore (pc := 44) [_, _, _, _, _, _, _] rfl (Nat.le_of_ble_eq_true rfl) rfl ?_
        refine q_iload (pc := 46) rfl rfl ?_
        first | refine n_ifeq (pc := 48) rfl (by omega) (fun h48 => ?_) (fun h48 => ?_) | refine q_ifeq (pc := 48) rfl (fun h48 => ?_) (fun h48 => ?_)
        · first
          | (exfalso; omega)
          | skip
            first | refine n_iinc (pc := 76) rfl [_, _, _, _, _, _, _] 1 (by decide) rfl rfl ?_ | refine q_iinc (pc := 76) [_, _, _, _, _, _, _] (1) rfl rfl (by decide) rfl ?_
            refine q_goto (pc := 79) rfl ?_
            refine c_nearL hd H hl hb hβ hk hw ha hq (c + 1) (by omega) _ ?_ _
            first | exact nst_f1 (nfr_f h27) hz0 | exact nst_f1 (nfr_g g33) hz0 | exact nst_t (nfr_t h27 g33) hm (Or.inr (by omega)) h10 | exact nst_f2 hm (by omega) (by omega) hz0
        · first
          | (exfalso; omega)
          | skip
            refine q_iload (pc := 51) rfl rfl ?_
            refine q_iconst (pc := 53) rfl (-1) (by decide) ?_
            first | refine n_icmpeq (pc := 54) rfl (by omega) (by omega) (fun h54 => ?_) (fun h54 => ?_) | refine q_icmpeq (pc := 54) rfl (fun h54 => ?_) (fun h54 => ?_)
            · exact absurd h54 (nI_m1 (by omega))
            · refine q_iload_n (pc := 57) rfl rfl ?_
              refine q_iload (pc := 58) rfl rfl ?_
              refine q_callS (pc := 60) _ (by decide) rfl rfl rfl rfl (Nat.le_of_ble_eq_true rfl) (by omega) _ rfl ?_
              refine c_apart (by omega) (by omega) ?_
              refine q_iload_n (pc := 63) rfl rfl ?_
              refine q_iload (pc := 64) rfl rfl ?_
              refine q_callS (pc := 66) _ (by decide) rfl rfl rfl rfl (Nat.le_of_ble_eq_true rfl) (by omega) _ rfl ?_
              refine c_apart (by omega) (by omega) ?_
              first | refine n_icmpge (pc := 69) rfl (by omega) (by omega) (fun h69 => ?_) (fun h69 => ?_) | refine q_icmpge (pc := 69) rfl (fun h69 => ?_) (fun h69 => ?_)
              · first | refine n_iinc (pc := 76) rfl [_, _, _, _, _, _, _] 1 (by decide) rfl rfl ?_ | refine q_iinc (pc := 76) [_, _, _, _, _, _, _] (1) rfl rfl (by decide) rfl ?_
                refine q_goto (pc := 79) rfl ?_
                refine c_nearL hd H hl hb hβ hk hw ha hq (c + 1) (by omega) _ ?_ _
                first | exact nst_f1 (nfr_f h27) hz0 | exact nst_f1 (nfr_g g33) hz0 | exact nst_t (nfr_t h27 g33) hm (Or.inr (by omega)) h10 | exact nst_f2 hm (by omega) (by omega) hz0
              · refine q_iload (pc := 72) rfl rfl ?_
                refine q_istore (pc := 74) [_, _, _, _, _, _, _] rfl (Nat.le_of_ble_eq_true rfl) rfl ?_
                first | refine n_iinc (pc := 76) rfl [_, _, _, _, _, _, _] 1 (by decide) rfl rfl ?_ | refine q_iinc (pc := 76) [_, _, _, _, _, _, _] (1) rfl rfl (by decide) rfl ?_
                refine q_goto (pc := 79) rfl ?_
                refine c_nearL hd H hl hb hβ hk hw ha hq (c + 1) (by omega) _ ?_ _
                first | exact nst_f1 (nfr_f h27) hz0 | exact nst_f1 (nfr_g g33) hz0 | exact nst_t (nfr_t h27 g33) hm (Or.inr (by omega)) h10 | exact nst_f2 hm (by omega) (by omega) hz0
      · refine q_lload_n (pc := 30) rfl rfl ?_
        refine q_iload (pc := 31) rfl rfl ?_
        refine q_callS (pc := 33) _ (by decide) rfl rfl rfl rfl (Nat.le_of_ble_eq_true rfl) (by omega) _ rfl ?_
        refine c_hasT (by omega) (by omega) (by assumption) (fun g33 => ?_) (fun g33 => ?_)
        · refine q_ifne (pc := 36) rfl (fun _ => ?_) (fun z => absurd z (by decide))
          refine q_iconst (pc := 43) rfl (nI 0) (by decide) ?_
          refine q_istore (pc := 44) [_, _, _, _, _, _, _] rfl (Nat.le_of_ble_eq_true rfl) rfl ?_
          refine q_iload (pc := 46) rfl rfl ?_
          first | refine n_ifeq (pc := 48) rfl (by omega) (fun h48 => ?_) (fun h48 => ?_) | refine q_ifeq (pc := 48) rfl (fun h48 => ?_) (fun h48 => ?_)
          · first
            | (exfalso; omega)
            | skip
              first | refine n_iinc (pc := 76) rfl [_, _, _, _, _, _, _] 1 (by decide) rfl rfl ?_ | refine q_iinc (pc := 76) [_, _, _, _, _, _, _] (1) rfl rfl (by decide) rfl ?_
              refine q_goto (pc := 79) rfl ?_
              refine c_nearL hd H hl hb hβ hk hw ha hq (c + 1) (by omega) _ ?_ _
              first | exact nst_f1 (nfr_f h27) hz0 | exact nst_f1 (nfr_g g33) hz0 | exact nst_t (nfr_t h27 g33) hm (Or.inr (by omega)) h10 | exact nst_f2 hm (by omega) (by omega) hz0
          · first
            | (exfalso; omega)
            | skip
              refine q_iload (pc := 51) rfl rfl ?_
              refine q_iconst (pc := 53) rfl (-1) (by decide) ?_
              first | refine n_icmpeq (pc := 54) rfl (by omega) (by omega) (fun h54 => ?_) (fun h54 => ?_) | refine q_icmpeq (pc := 54) rfl (fun h54 => ?_) (fun h54 => ?_)
              · exact absurd h54 (nI_m1 (by omega))
              · refine q_iload_n (pc := 57) rfl rfl ?_
                refine q_iload (pc := 58) rfl rfl ?_
                refine q_callS (pc := 60) _ (by decide) rfl rfl rfl rfl (Nat.le_of_ble_eq_true rfl) (by omega) _ rfl ?_
                refine c_apart (by omega) (by omega) ?_
                refine q_iload_n (pc := 63) rfl rfl ?_
                refine q_iload (pc := 64) rfl rfl ?_
                refine q_callS (pc := 66) _ (by decide) rfl rfl rfl rfl (Nat.le_of_ble_eq_true rfl) (by omega) _ rfl ?_
                refine c_apart (by omega) (by omega) ?_
                first | refine n_icmpge (pc := 69) rfl (by omega) (by omega) (fun h69 => ?_) (fun h69 => ?_) | refine q_icmpge (pc := 69) rfl (fun h69 => ?_) (fun h69 => ?_)
                · first | refine n_iinc (pc := 76) rfl [_, _, _, _, _, _, _] 1 (by decide) rfl rfl ?_ | refine q_iinc (pc := 76) [_, _, _, _, _, _, _] (1) rfl rfl (by decide) rfl ?_
                  refine q_goto (pc := 79) rfl ?_
                  refine c_nearL hd H hl hb hβ hk hw ha hq (c + 1) (by omega) _ ?_ _
                  first | exact nst_f1 (nfr_f h27) hz0 | exact nst_f1 (nfr_g g33) hz0 | exact nst_t (nfr_t h27 g33) hm (Or.inr (by omega)) h10 | exact nst_f2 hm (by omega) (by omega) hz0
                · refine q_iload (pc := 72) rfl rfl ?_
                  refine q_istore (pc := 74) [_, _, _, _, _, _, _] rfl (Nat.le_of_ble_eq_true rfl) rfl ?_
                  first | refine n_iinc (pc := 76) rfl [_, _, _, _, _, _, _] 1 (by decide) rfl rfl ?_ | refine q_iinc (pc := 76) [_, _, _, _, _, _, _] (1) rfl rfl (by decide) rfl ?_
                  refine q_goto (pc := 79) rfl ?_
                  refine c_nearL hd H hl hb hβ hk hw ha hq (c + 1) (by omega) _ ?_ _
                  first | exact nst_f1 (nfr_f h27) hz0 | exact nst_f1 (nfr_g g33) hz0 | exact nst_t (nfr_t h27 g33) hm (Or.inr (by omega)) h10 | exact nst_f2 hm (by omega) (by omega) hz0
        · refine q_ifne (pc := 36) rfl (fun z => absurd z (by decide)) (fun _ => ?_)
          refine q_iconst (pc := 39) rfl (nI 1) (by decide) ?_
          refine q_goto (pc := 40) rfl ?_
          refine q_istore (pc := 44) [_, _, _, _, _, _, _] rfl (Nat.le_of_ble_eq_true rfl) rfl ?_
          refine q_iload (pc := 46) rfl rfl ?_
          first | refine n_ifeq (pc := 48) rfl (by omega) (fun h48 => ?_) (fun h48 => ?_) | refine q_ifeq (pc := 48) rfl (fun h48 => ?_) (fun h48 => ?_)
          · first
            | (exfalso; omega)
            | skip
              first | refine n_iinc (pc := 76) rfl [_, _, _, _, _, _, _] 1 (by decide) rfl rfl ?_ | refine q_iinc (pc := 76) [_, _, _, _, _, _, _] (1) rfl rfl (by decide) rfl ?_
              refine q_goto (pc := 79) rfl ?_
              refine c_nearL hd H hl hb hβ hk hw ha hq (c + 1) (by omega) _ ?_ _
              first | exact nst_f1 (nfr_f h27) hz0 | exact nst_f1 (nfr_g g33) hz0 | exact nst_t (nfr_t h27 g33) hm (Or.inr (by omega)) h10 | exact nst_f2 hm (by omega) (by omega) hz0
          · first
            | (exfalso; omega)
            | skip
              refine q_iload (pc := 51) rfl rfl ?_
              refine q_iconst (pc := 53) rfl (-1) (by decide) ?_
              first | refine n_icmpeq (pc := 54) rfl (by omega) (by omega) (fun h54 => ?_) (fun h54 => ?_) | refine q_icmpeq (pc := 54) rfl (fun h54 => ?_) (fun h54 => ?_)
              · exact absurd h54 (nI_m1 (by omega))
              · refine q_iload_n (pc := 57) rfl rfl ?_
                refine q_iload (pc := 58) rfl rfl ?_
                refine q_callS (pc := 60) _ (by decide) rfl rfl rfl rfl (Nat.le_of_ble_eq_true rfl) (by omega) _ rfl ?_
                refine c_apart (by omega) (by omega) ?_
                refine q_iload_n (pc := 63) rfl rfl ?_
                refine q_iload (pc := 64) rfl rfl ?_
                refine q_callS (pc := 66) _ (by decide) rfl rfl rfl rfl (Nat.le_of_ble_eq_true rfl) (by omega) _ rfl ?_
                refine c_apart (by omega) (by omega) ?_
                first | refine n_icmpge (pc := 69) rfl (by omega) (by omega) (fun h69 => ?_) (fun h69 => ?_) | refine q_icmpge (pc := 69) rfl (fun h69 => ?_) (fun h69 => ?_)
                · first | refine n_iinc (pc := 76) rfl [_, _, _, _, _, _, _] 1 (by decide) rfl rfl ?_ | refine q_iinc (pc := 76) [_, _, _, _, _, _, _] (1) rfl rfl (by decide) rfl ?_
                  refine q_goto (pc := 79) rfl ?_
                  refine c_nearL hd H hl hb hβ hk hw ha hq (c + 1) (by omega) _ ?_ _
                  first | exact nst_f1 (nfr_f h27) hz0 | exact nst_f1 (nfr_g g33) hz0 | exact nst_t (nfr_t h27 g33) hm (Or.inr (by omega)) h10 | exact nst_f2 hm (by omega) (by omega) hz0
                · refine q_iload (pc := 72) rfl rfl ?_
                  refine q_istore (pc := 74) [_, _, _, _, _, _, _] rfl (Nat.le_of_ble_eq_true rfl) rfl ?_
                  first | refine n_iinc (pc := 76) rfl [_, _, _, _, _, _, _] 1 (by decide) rfl rfl ?_ | refine q_iinc (pc := 76) [_, _, _, _, _, _, _] (1) rfl rfl (by decide) rfl ?_
                  refine q_goto (pc := 79) rfl ?_
                  refine c_nearL hd H hl hb hβ hk hw ha hq (c + 1) (by omega) _ ?_ _
                  first | exact nst_f1 (nfr_f h27) hz0 | exact nst_f1 (nfr_g g33) hz0 | exact nst_t (nfr_t h27 g33) hm (Or.inr (by omega)) h10 | exact nst_f2 hm (by omega) (by omega) hz0
  · rw [q, oc, if_neg (by decide)] at hz
    subst hz
    refine q_iload (pc := 6) rfl rfl ?_
    refine q_bipush (pc := 8) rfl (nI 36) (by decide) ?_
    first | refine n_icmpge (pc := 10) rfl (by omega) (by omega) (fun h10 => ?_) (fun h10 => ?_) | refine q_icmpge (pc := 10) rfl (fun h10 => ?_) (fun h10 => ?_)
    · obtain rfl : c = 36 := by omega
      refine q_iload (pc := 82) rfl rfl ?_
      refine q_iret (pc := 84) rfl (rfl) ?_
      rw [q] at hq
      exact hq
    · have g1 := hk c (by omega)
      have g2 := hk (36 + c) (by omega)
      have a2 := apN_le ha h10
      refine q_aload_n (pc := 13) rfl rfl rfl ?_
      refine q_getf (pc := 14) rfl (by exact HR.B H hl hb hβ) rfl rfl ?_
      refine q_iload (pc := 17) rfl rfl ?_
      refine n_ild (pc := 19) rfl (by first | exact HR.am H hl hb hβ | exact HR.ap H hl hb hβ) rfl (by omega) (by omega) ?_
      refine q_aload_n (pc := 20) rfl rfl rfl ?_
      refine q_getf (pc := 21) rfl (by exact HR.B H hl hb hβ) rfl rfl ?_
      refine q_iload (pc := 24) rfl rfl ?_
      refine n_ild (pc := 26) rfl (by first | exact HR.am H hl hb hβ | exact HR.ap H hl hb hβ) rfl (by omega) (by omega) ?_
      first | refine n_icmpeq (pc := 27) rfl (by omega) (by omega) (fun h27 => ?_) (fun h27 => ?_) | refine q_icmpeq (pc := 27) rfl (fun h27 => ?_) (fun h27 => ?_)
      · refine q_iconst (pc := 43) rfl (nI 0) (by decide) ?_
        refine q_istore (pc := 44) [_, _, _, _, _, _, _] rfl (Nat.le_of_ble_eq_true rfl) rfl ?_
        refine q_iload (pc := 46) rfl rfl ?_
        first | refine n_ifeq (pc := 48) rfl (by omega) (fun h48 => ?_) (fun h48 => ?_) | refine q_ifeq (pc := 48) rfl (fun h48 => ?_) (fun h48 => ?_)
        · first
          | (exfalso; omega)
          | skip
            first | refine n_iinc (pc := 76) rfl [_, _, _, _, _, _, _] 1 (by decide) rfl rfl ?_ | refine q_iinc (pc := 76) [_, _, _, _, _, _, _] (1) rfl rfl (by decide) rfl ?_
            refine q_goto (pc := 79) rfl ?_
            refine c_nearL hd H hl hb hβ hk hw ha hq (c + 1) (by omega) _ ?_ _
            first | exact nst_f1 (nfr_f h27) hz0 | exact nst_f1 (nfr_g g33) hz0 | exact nst_t (nfr_t h27 g33) q (Or.inl rfl) h10
        · first
          | (exfalso; omega)
          | skip
            refine q_iload (pc := 51) rfl rfl ?_
            refine q_iconst (pc := 53) rfl (-1) (by decide) ?_
            first | refine n_icmpeq (pc := 54) rfl (by omega) (by omega) (fun h54 => ?_) (fun h54 => ?_) | refine q_icmpeq (pc := 54) rfl (fun h54 => ?_) (fun h54 => ?_)
            · refine q_iload (pc := 72) rfl rfl ?_
              refine q_istore (pc := 74) [_, _, _, _, _, _, _] rfl (Nat.le_of_ble_eq_true rfl) rfl ?_
              first | refine n_iinc (pc := 76) rfl [_, _, _, _, _, _, _] 1 (by decide) rfl rfl ?_ | refine q_iinc (pc := 76) [_, _, _, _, _, _, _] (1) rfl rfl (by decide) rfl ?_
              refine q_goto (pc := 79) rfl ?_
              refine c_nearL hd H hl hb hβ hk hw ha hq (c + 1) (by omega) _ ?_ _
              first | exact nst_f1 (nfr_f h27) hz0 | exact nst_f1 (nfr_g g33) hz0 | exact nst_t (nfr_t h27 g33) q (Or.inl rfl) h10
            · exact absurd rfl h54
      · refine q_lload_n (pc := 30) rfl rfl ?_
        refine q_iload (pc := 31) rfl rfl ?_
        refine q_callS (pc := 33) _ (by decide) rfl rfl rfl rfl (Nat.le_of_ble_eq_true rfl) (by omega) _ rfl ?_
        refine c_hasT (by omega) (by omega) (by assumption) (fun g33 => ?_) (fun g33 => ?_)
        · refine q_ifne (pc := 36) rfl (fun _ => ?_) (fun z => absurd z (by decide))
          refine q_iconst (pc := 43) rfl (nI 0) (by decide) ?_
          refine q_istore (pc := 44) [_, _, _, _, _, _, _] rfl (Nat.le_of_ble_eq_true rfl) rfl ?_
          refine q_iload (pc := 46) rfl rfl ?_
          first | refine n_ifeq (pc := 48) rfl (by omega) (fun h48 => ?_) (fun h48 => ?_) | refine q_ifeq (pc := 48) rfl (fun h48 => ?_) (fun h48 => ?_)
          · first
            | (exfalso; omega)
            | skip
              first | refine n_iinc (pc := 76) rfl [_, _, _, _, _, _, _] 1 (by decide) rfl rfl ?_ | refine q_iinc (pc := 76) [_, _, _, _, _, _, _] (1) rfl rfl (by decide) rfl ?_
              refine q_goto (pc := 79) rfl ?_
              refine c_nearL hd H hl hb hβ hk hw ha hq (c + 1) (by omega) _ ?_ _
              first | exact nst_f1 (nfr_f h27) hz0 | exact nst_f1 (nfr_g g33) hz0 | exact nst_t (nfr_t h27 g33) q (Or.inl rfl) h10
          · first
            | (exfalso; omega)
            | skip
              refine q_iload (pc := 51) rfl rfl ?_
              refine q_iconst (pc := 53) rfl (-1) (by decide) ?_
              first | refine n_icmpeq (pc := 54) rfl (by omega) (by omega) (fun h54 => ?_) (fun h54 => ?_) | refine q_icmpeq (pc := 54) rfl (fun h54 => ?_) (fun h54 => ?_)
              · refine q_iload (pc := 72) rfl rfl ?_
                refine q_istore (pc := 74) [_, _, _, _, _, _, _] rfl (Nat.le_of_ble_eq_true rfl) rfl ?_
                first | refine n_iinc (pc := 76) rfl [_, _, _, _, _, _, _] 1 (by decide) rfl rfl ?_ | refine q_iinc (pc := 76) [_, _, _, _, _, _, _] (1) rfl rfl (by decide) rfl ?_
                refine q_goto (pc := 79) rfl ?_
                refine c_nearL hd H hl hb hβ hk hw ha hq (c + 1) (by omega) _ ?_ _
                first | exact nst_f1 (nfr_f h27) hz0 | exact nst_f1 (nfr_g g33) hz0 | exact nst_t (nfr_t h27 g33) q (Or.inl rfl) h10
              · exact absurd rfl h54
        · refine q_ifne (pc := 36) rfl (fun z => absurd z (by decide)) (fun _ => ?_)
          refine q_iconst (pc := 39) rfl (nI 1) (by decide) ?_
          refine q_goto (pc := 40) rfl ?_
          refine q_istore (pc := 44) [_, _, _, _, _, _, _] rfl (Nat.le_of_ble_eq_true rfl) rfl ?_
          refine q_iload (pc := 46) rfl rfl ?_
          first | refine n_ifeq (pc := 48) rfl (by omega) (fun h48 => ?_) (fun h48 => ?_) | refine q_ifeq (pc := 48) rfl (fun h48 => ?_) (fun h48 => ?_)
          · first
            | (exfalso; omega)
            | skip
              first | refine n_iinc (pc := 76) rfl [_, _, _, _, _, _, _] 1 (by decide) rfl rfl ?_ | refine q_iinc (pc := 76) [_, _, _, _, _, _, _] (1) rfl rfl (by decide) rfl ?_
              refine q_goto (pc := 79) rfl ?_
              refine c_nearL hd H hl hb hβ hk hw ha hq (c + 1) (by omega) _ ?_ _
              first | exact nst_f1 (nfr_f h27) hz0 | exact nst_f1 (nfr_g g33) hz0 | exact nst_t (nfr_t h27 g33) q (Or.inl rfl) h10
          · first
            | (exfalso; omega)
            | skip
              refine q_iload (pc := 51) rfl rfl ?_
              refine q_iconst (pc := 53) rfl (-1) (by decide) ?_
              first | refine n_icmpeq (pc := 54) rfl (by omega) (by omega) (fun h54 => ?_) (fun h54 => ?_) | refine q_icmpeq (pc := 54) rfl (fun h54 => ?_) (fun h54 => ?_)
              · refine q_iload (pc := 72) rfl rfl ?_
                refine q_istore (pc := 74) [_, _, _, _, _, _, _] rfl (Nat.le_of_ble_eq_true rfl) rfl ?_
                first | refine n_iinc (pc := 76) rfl [_, _, _, _, _, _, _] 1 (by decide) rfl rfl ?_ | refine q_iinc (pc := 76) [_, _, _, _, _, _, _] (1) rfl rfl (by decide) rfl ?_
                refine q_goto (pc := 79) rfl ?_
                refine c_nearL hd H hl hb hβ hk hw ha hq (c + 1) (by omega) _ ?_ _
                first | exact nst_f1 (nfr_f h27) hz0 | exact nst_f1 (nfr_g g33) hz0 | exact nst_t (nfr_t h27 g33) q (Or.inl rfl) h10
              · exact absurd rfl h54
termination_by 36 - c
theorem c_nearest {w at0 : Nat} (hd : 2 ≤ d) (H : HR P h s) (hl : 51 ≤ P.1) (hb : isB b) (hβ : BT s b β) (hk : ∀ i, i < 72 → β i ≤ 9) (hw : w < 2 ^ 36) (ha : at0 < 36) (hq : Q (some (.int (oc (nst (nfr β w) (apN at0) 36)))) h) : wc d 10 [.ref b, .int (nI at0), .long (lN w)] h Q := by
  refine wc.go [_, _, _, _, _, _, _] rfl ?_
  refine q_iconst (pc := 0) rfl (-1) (by decide) ?_
  refine q_istore (pc := 1) [_, _, _, _, _, _, _] rfl (Nat.le_of_ble_eq_true rfl) rfl ?_
  refine q_iconst (pc := 3) rfl (nI 0) (by decide) ?_
  refine q_istore (pc := 4) [_, _, _, _, _, _, _] rfl (Nat.le_of_ble_eq_true rfl) rfl ?_
  exact c_nearL hd H hl hb hβ hk hw ha hq 0 (by omega) _ rfl _
theorem c_join (H : HR P h s) (hl : 51 ≤ P.1) (hb : isB b) (hβ : BT s b β) (hk : bok β n) {kind num on : Nat} (ht : β 88 < 4 → ∀ h' s', HR P h' s' → BT s' b (joinb β kind num on) → sf s s' (fun i => b ≤ i ∧ i < b + 8) → Q (some (.int (nI (β 88)))) h') (hf : β 88 = 4 → Q (some (.int (-4))) h) : wc d 3 [.ref b, .int (nI kind), .int (nI num), .int (nI on)] h Q := by
  obtain ⟨-, -, hk4, -⟩ := hk
  refine wc.go [_, _, _, _, _] rfl ?_
  refine q_aload_n (pc := 0) rfl rfl rfl ?_
  refine q_getf (pc := 1) rfl (by exact HR.B H hl hb hβ) rfl rfl ?_
  refine q_iflt (pc := 4) rfl (fun h4 => ?_) (fun h4 => ?_)
  · first | (exfalso; omega) | exact absurd h4 (nI_pos (by omega)) | exact absurd (nI_pos' (by omega)) h4
  · refine q_aload_n (pc := 7) rfl rfl rfl ?_
    refine q_getf (pc := 8) rfl (by exact HR.B H hl hb hβ) rfl rfl ?_
    refine q_iconst (pc := 11) rfl (nI 4) (by decide) ?_
    first | refine n_icmpge (pc := 12) rfl (by omega) (by omega) (fun h12 => ?_) (fun h12 => ?_) | refine q_icmpge (pc := 12) rfl (fun h12 => ?_) (fun h12 => ?_)
    · 
      refine q_bipush (pc := 27) rfl (-4) (by decide) ?_
      refine q_iret (pc := 29) rfl (rfl) ?_
      exact hf (by omega)
    · have hp : β 88 < 4 := by omega
      refine q_aload_n (pc := 15) rfl rfl rfl ?_
      refine q_getf (pc := 16) rfl (by exact HR.B H hl hb hβ) rfl rfl ?_
      refine q_aload_n (pc := 19) rfl rfl rfl ?_
      refine q_getf (pc := 20) rfl (by exact HR.B H hl hb hβ) rfl rfl ?_
      refine n_aal (pc := 23) rfl H hl (okB3 hb) (ecB3 hb _) rfl (by omega) (if_pos (by omega)) (by decide) ?_
      refine q_ifnonnull (pc := 24) rfl ?_
      refine q_aload_n (pc := 30) rfl rfl rfl ?_
      refine q_getf (pc := 31) rfl (by exact HR.B H hl hb hβ) rfl rfl ?_
      refine q_aload_n (pc := 34) rfl rfl rfl ?_
      refine q_getf (pc := 35) rfl (by exact HR.B H hl hb hβ) rfl rfl ?_
      refine n_aal (pc := 38) rfl H hl (okB3 hb) (ecB3 hb _) rfl (by omega) (if_pos (by omega)) (by decide) ?_
      refine q_astore (pc := 39) [_, _, _, _, _] rfl rfl (Nat.le_of_ble_eq_true rfl) rfl ?_
      refine q_aload (pc := 41) rfl rfl rfl ?_
      refine q_iload_n (pc := 43) rfl rfl ?_
      refine r_pf2 (pc := 44) (i := 0) rfl H hl (okO hb hp) (ecO hb hp _) rfl rfl (Nat.le_of_ble_eq_true rfl) rfl (ecO hb hp _) ?_
      intro h H
      have hβ := BT.pt (v := kind) (c := b + 4 + β 88) (i := 0) hβ (Or.inr (Or.inr (Or.inl ⟨_, hp, rfl, by decide, rfl⟩)))
      refine q_aload (pc := 47) rfl rfl rfl ?_
      refine q_iload_n (pc := 49) rfl rfl ?_
      refine r_pf2 (pc := 50) (i := 1) rfl H hl (okO hb hp) (ecO hb hp _) rfl rfl (Nat.le_of_ble_eq_true rfl) rfl (ecO hb hp _) ?_
      intro h H
      have hβ := BT.pt (v := num) (c := b + 4 + β 88) (i := 1) hβ (Or.inr (Or.inr (Or.inl ⟨_, hp, rfl, by decide, rfl⟩)))
      refine q_aload (pc := 53) rfl rfl rfl ?_
      refine q_iload_n (pc := 55) rfl rfl ?_
      refine r_pf2 (pc := 56) (i := 2) rfl H hl (okO hb hp) (ecO hb hp _) rfl rfl (Nat.le_of_ble_eq_true rfl) rfl (ecO hb hp _) ?_
      intro h H
      have hβ := BT.pt (v := on) (c := b + 4 + β 88) (i := 2) hβ (Or.inr (Or.inr (Or.inl ⟨_, hp, rfl, by decide, rfl⟩)))
      refine q_aload (pc := 59) rfl rfl rfl ?_
      refine q_iconst (pc := 61) rfl (nI 0) (by decide) ?_
      refine r_pf2 (pc := 62) (i := 3) rfl H hl (okO hb hp) (ecO hb hp _) rfl rfl (Nat.le_of_ble_eq_true rfl) rfl (ecO hb hp _) ?_
      intro h H
      have hβ := BT.pt (v := 0) (c := b + 4 + β 88) (i := 3) hβ (Or.inr (Or.inr (Or.inl ⟨_, hp, rfl, by decide, rfl⟩)))
      refine q_aload_n (pc := 65) rfl rfl rfl ?_
      refine q_dup (pc := 66) rfl rfl ?_
      refine q_getf (pc := 67) rfl (by exact HR.B H hl hb hβ) rfl rfl ?_
      rw [upN_n (by omega), upN_n (by omega), upN_n (by omega), upN_n (by omega)]
      refine q_iconst (pc := 70) rfl (nI 1) (by decide) ?_
      first | refine n_iadd (pc := 71) rfl ?_ | refine q_iadd (pc := 71) rfl ?_
      refine r_pf2 (pc := 72) (i := 3) rfl H hl (okB hb) (ecB hb _) rfl rfl (Nat.le_of_ble_eq_true rfl) rfl (ecB hb _) ?_
      intro h H
      have hβ := BT.pt (v := β 88 + 1) (c := b) (i := 3) (j := 88) hβ (Or.inr (Or.inr (Or.inr ⟨rfl, by decide, by decide, rfl⟩)))
      refine q_aload_n (pc := 75) rfl rfl rfl ?_
      refine q_getf (pc := 76) rfl (by exact HR.B H hl hb hβ) rfl rfl ?_
      rw [upN_s]
      refine q_iconst (pc := 79) rfl (nI 1) (by decide) ?_
      first | refine n_isub (pc := 80) rfl (by omega) ?_ | refine q_isub (pc := 80) rfl ?_
      rw [Nat.add_sub_cancel]
      refine q_iret (pc := 81) rfl (rfl) ?_
      exact ht hp _ _ H hβ (((((sf.rf.st (by omega)).st (by omega)).st (by omega)).st (by omega)).st (by omega))
theorem c_oneBecome (hl : 51 ≤ P.1) (H : HR P h s) (hb : isB b) (hb2 : isB b2) (hn : b ≠ b2) (hβ : BT s b2 β) (hp : p < 4) (kk : ∀ h' s', HR P h' s' → (∀ j, j < 4 → s' (b + 4 + p) j = nI (β (72 + 4 * p + j))) → sf s s' (fun i => i = b + 4 + p) → Q none h') : wc d 15 [.ref (b + 4 + p), .ref (b2 + 4 + p)] h Q := by
  have hn2 := isB_ne hb hb2 hn
  have fr1 : ∀ {s1 : mx_St} {j : Nat} {v : Int32}, BT s1 b2 β → BT (stv s1 (b + 4 + p) j v) b2 β := fun g => BT.fr (S := fun i => i = b + 4 + p) g (sf.rf.st rfl) (fun i g1 g2 => by omega)
  refine wc.go [_, _] rfl ?_
  refine q_aload_n (pc := 0) rfl rfl rfl ?_
  refine q_aload_n (pc := 1) rfl rfl rfl ?_
  refine q_getf (pc := 2) rfl (by exact HR.O H hl hb2 hβ hp) rfl rfl ?_
  refine r_pf2 (pc := 5) (i := 0) rfl H hl (okO hb hp) (ecO hb hp _) rfl rfl (Nat.le_of_ble_eq_true rfl) rfl (ecO hb hp _) ?_
  intro h H
  have hβ := fr1 (j := 0) (v := nI (β (72 + 4 * p))) hβ
  refine q_aload_n (pc := 8) rfl rfl rfl ?_
  refine q_aload_n (pc := 9) rfl rfl rfl ?_
  refine q_getf (pc := 10) rfl (by exact HR.O H hl hb2 hβ hp) rfl rfl ?_
  refine r_pf2 (pc := 13) (i := 1) rfl H hl (okO hb hp) (ecO hb hp _) rfl rfl (Nat.le_of_ble_eq_true rfl) rfl (ecO hb hp _) ?_
  intro h H
  have hβ := fr1 (j := 1) (v := nI (β (72 + 4 * p + 1))) hβ
  refine q_aload_n (pc := 16) rfl rfl rfl ?_
  refine q_aload_n (pc := 17) rfl rfl rfl ?_
  refine q_getf (pc := 18) rfl (by exact HR.O H hl hb2 hβ hp) rfl rfl ?_
  refine r_pf2 (pc := 21) (i := 2) rfl H hl (okO hb hp) (ecO hb hp _) rfl rfl (Nat.le_of_ble_eq_true rfl) rfl (ecO hb hp _) ?_
  intro h H
  have hβ := fr1 (j := 2) (v := nI (β (72 + 4 * p + 2))) hβ
  refine q_aload_n (pc := 24) rfl rfl rfl ?_
  refine q_aload_n (pc := 25) rfl rfl rfl ?_
  refine q_getf (pc := 26) rfl (by exact HR.O H hl hb2 hβ hp) rfl rfl ?_
  refine r_pf2 (pc := 29) (i := 3) rfl H hl (okO hb hp) (ecO hb hp _) rfl rfl (Nat.le_of_ble_eq_true rfl) rfl (ecO hb hp _) ?_
  intro h H
  refine q_vret (pc := 32) rfl rfl ?_
  refine kk _ _ H (fun j hj => ?_) ((((sf.rf.st (by rfl)).st (by rfl)).st (by rfl)).st (by rfl))
  rcases p4 hj with rfl | rfl | rfl | rfl
  · rw [stv_o (by decide), stv_o (by decide), stv_o (by decide), stv_a]; rfl
  · rw [stv_o (by decide), stv_o (by decide), stv_a]
  · rw [stv_o (by decide), stv_a]
  · rw [stv_a]
theorem c_becomeL (hd : 1 ≤ d) (hl : 51 ≤ P.1) (hb : isB b) (hb2 : isB b2) (hn : b ≠ b2) {s0 : mx_St} (kk : ∀ h' s', HR P h' s' → BT s' b β → sf s0 s' (fun i => b ≤ i ∧ i < b + 8) → Q none h') (i : Nat) (hi : i ≤ 4) (h : mx_H) (s : mx_St) (H : HR P h s) (hβ : BT s b2 β) (hf : sf s0 s (fun i => b ≤ i ∧ i < b + 8)) (hi2 : BTi s b β i) : wq d 1 32 [some (.ref b), some (.ref b2), some (.int (nI i))] [] h Q := by
  have hn2 := isB_ne hb hb2 hn
  refine q_iload_n (pc := 32) rfl rfl ?_
  refine q_iconst (pc := 33) rfl (nI 4) (by decide) ?_
  first | refine n_icmpge (pc := 34) rfl (by omega) (by omega) (fun h34 => ?_) (fun h34 => ?_) | refine q_icmpge (pc := 34) rfl (fun h34 => ?_) (fun h34 => ?_)
  · refine q_aload_n (pc := 76) rfl rfl rfl ?_
    refine q_aload_n (pc := 77) rfl rfl rfl ?_
    refine q_getf (pc := 78) rfl (by first | exact HR.B' H hl hb | exact HR.B H hl hb2 hβ) rfl rfl ?_
    refine r_pf2 (pc := 81) (i := 3) rfl H hl (okB hb) (ecB hb _) rfl rfl (Nat.le_of_ble_eq_true rfl) rfl (ecB hb _) ?_
    intro h H
    have hβ := BT.fr (S := fun i => b ≤ i ∧ i < b + 8) (b := b2) (s' := stv s b 3 (nI (β 88))) hβ (sf.rf.st (by omega)) (fun i g1 g2 => by omega)
    refine q_aload_n (pc := 84) rfl rfl rfl ?_
    refine q_aload_n (pc := 85) rfl rfl rfl ?_
    refine q_getf (pc := 86) rfl (by first | exact HR.B' H hl hb | exact HR.B H hl hb2 hβ) rfl rfl ?_
    refine r_pf2 (pc := 89) (i := 4) rfl H hl (okB hb) (ecB hb _) rfl rfl (Nat.le_of_ble_eq_true rfl) rfl (ecB hb _) ?_
    intro h H
    have hβ := BT.fr (S := fun i => b ≤ i ∧ i < b + 8) (b := b2) (s' := stv (stv s b 3 (nI (β 88))) b 4 (nI (β 89))) hβ (sf.rf.st (by omega)) (fun i g1 g2 => by omega)
    refine q_aload_n (pc := 92) rfl rfl rfl ?_
    refine q_aload_n (pc := 93) rfl rfl rfl ?_
    refine q_getf (pc := 94) rfl (by first | exact HR.B' H hl hb | exact HR.B H hl hb2 hβ) rfl rfl ?_
    refine r_pf2 (pc := 97) (i := 5) rfl H hl (okB hb) (ecB hb _) rfl rfl (Nat.le_of_ble_eq_true rfl) rfl (ecB hb _) ?_
    intro h H
    refine q_vret (pc := 100) rfl rfl ?_
    obtain rfl : i = 4 := by omega
    refine kk _ _ H ⟨fun j hj => ?_, fun j hj => ?_, fun q hq j hj => ?_, ?_, ?_, ?_⟩ (((hf.st (by omega)).st (by omega)).st (by omega))
    · rw [stv_n (by omega), stv_n (by omega), stv_n (by omega)]; exact hi2.1 j hj
    · rw [stv_n (by omega), stv_n (by omega), stv_n (by omega)]; exact hi2.2.1 j hj
    · rw [stv_n (by omega), stv_n (by omega), stv_n (by omega)]; exact hi2.2.2 q hq j hj
    · rw [stv_o (by decide), stv_o (by decide), stv_a]
    · rw [stv_o (by decide), stv_a]
    · rw [stv_a]
  · refine q_aload_n (pc := 37) rfl rfl rfl ?_
    refine q_getf (pc := 38) rfl (by first | exact HR.B' H hl hb | exact HR.B H hl hb2 hβ) rfl rfl ?_
    refine q_iload_n (pc := 41) rfl rfl ?_
    refine n_aal (pc := 42) rfl H hl (okB3 hb) (ecB3 hb _) rfl (by omega) (if_pos (by omega)) (by decide) ?_
    refine q_ifnull (pc := 43) rfl ?_
    refine q_aload_n (pc := 46) rfl rfl rfl ?_
    refine q_getf (pc := 47) rfl (by first | exact HR.B' H hl hb | exact HR.B H hl hb2 hβ) rfl rfl ?_
    refine q_iload_n (pc := 50) rfl rfl ?_
    refine n_aal (pc := 51) rfl H hl (okB3 hb2) (ecB3 hb2 _) rfl (by omega) (if_pos (by omega)) (by decide) ?_
    refine q_ifnull (pc := 52) rfl ?_
    refine q_aload_n (pc := 55) rfl rfl rfl ?_
    refine q_getf (pc := 56) rfl (by first | exact HR.B' H hl hb | exact HR.B H hl hb2 hβ) rfl rfl ?_
    refine q_iload_n (pc := 59) rfl rfl ?_
    refine n_aal (pc := 60) rfl H hl (okB3 hb) (ecB3 hb _) rfl (by omega) (if_pos (by omega)) (by decide) ?_
    refine q_aload_n (pc := 61) rfl rfl rfl ?_
    refine q_getf (pc := 62) rfl (by first | exact HR.B' H hl hb | exact HR.B H hl hb2 hβ) rfl rfl ?_
    refine q_iload_n (pc := 65) rfl rfl ?_
    refine n_aal (pc := 66) rfl H hl (okB3 hb2) (ecB3 hb2 _) rfl (by omega) (if_pos (by omega)) (by decide) ?_
    refine q_callV (pc := 67) _ rfl rfl rfl (by exact HR.O' H hl hb h34) rfl (Nat.le_of_ble_eq_true rfl) (by omega) _ rfl ?_
    refine c_oneBecome hl H hb hb2 hn hβ h34 ?_
    intro h s1 H k1 k2
    first | refine n_iinc (pc := 70) rfl [_, _, _] 1 (by decide) rfl rfl ?_ | refine q_iinc (pc := 70) [_, _, _] (1) rfl rfl (by decide) rfl ?_
    refine q_goto (pc := 73) rfl ?_
    exact c_becomeL hd hl hb hb2 hn kk (i + 1) (by omega) h s1 H (hβ.fr k2 (fun i g1 g2 => by omega)) (hf.tr (k2.mono (fun i g => by omega))) ⟨fun j hj => (congrFun (k2 _ (by omega)) _).trans (hi2.1 j hj), fun j hj => (congrFun (k2 _ (by omega)) _).trans (hi2.2.1 j hj), fun q hq j hj => by
      by_cases e : q = i
      · subst e; exact k1 j hj
      · exact (congrFun (k2 _ (by omega)) _).trans (hi2.2.2 q (by omega) j hj)⟩
termination_by 4 - i
theorem c_become (hd : 2 ≤ d) (hl : 51 ≤ P.1) (H : HR P h s) (hb : isB b) (hb2 : isB b2) (hn : b ≠ b2) (hβ : BT s b2 β) (kk : ∀ h' s', HR P h' s' → BT s' b β → sf s s' (fun i => b ≤ i ∧ i < b + 8) → Q none h') : wc d 1 [.ref b, .ref b2] h Q := by
  have hn2 := isB_ne hb hb2 hn
  have stn : ∀ {s1 : mx_St} {c : Nat} {F : Nat → Int32}, b ≤ c → c < b + 8 → sf s1 (stF s1 c F) (fun i => b ≤ i ∧ i < b + 8) := fun g1 g2 i hi => stF_n _ _ (by omega)
  refine wc.go [_, _, _] rfl ?_
  refine q_aload_n (pc := 0) rfl rfl rfl ?_
  refine q_getf (pc := 1) rfl (by first | exact HR.B' H hl hb | exact HR.B' H hl hb2) rfl rfl ?_
  refine q_iconst (pc := 4) rfl (nI 0) (by decide) ?_
  refine q_aload_n (pc := 5) rfl rfl rfl ?_
  refine q_getf (pc := 6) rfl (by first | exact HR.B' H hl hb | exact HR.B' H hl hb2) rfl rfl ?_
  refine q_iconst (pc := 9) rfl (nI 0) (by decide) ?_
  refine q_bipush (pc := 10) rfl (nI 36) (by decide) ?_
  refine n_copy (pc := 12) rfl H hl (okB1 hb2) (okB1 hb) (ecB1 hb2 _) (ecB1 hb) rfl (by omega) (by omega) ?_
  intro h H
  have hβ1 := BT.fr (b := b2) hβ (stn (s1 := s) (c := b + 1) (F := va_cpy (s (b2 + 1)) (s (b + 1)) 0 0 36) (by omega) (by omega)) (fun i g1 g2 => by omega)
  refine q_aload_n (pc := 15) rfl rfl rfl ?_
  refine q_getf (pc := 16) rfl (by first | exact HR.B' H hl hb | exact HR.B' H hl hb2) rfl rfl ?_
  refine q_iconst (pc := 19) rfl (nI 0) (by decide) ?_
  refine q_aload_n (pc := 20) rfl rfl rfl ?_
  refine q_getf (pc := 21) rfl (by first | exact HR.B' H hl hb | exact HR.B' H hl hb2) rfl rfl ?_
  refine q_iconst (pc := 24) rfl (nI 0) (by decide) ?_
  refine q_bipush (pc := 25) rfl (nI 36) (by decide) ?_
  refine n_copy (pc := 27) rfl H hl (okB2 hb2) (okB2 hb) (ecB2 hb2 _) (ecB2 hb) rfl (by omega) (by omega) ?_
  intro h H
  refine q_iconst (pc := 30) rfl (nI 0) (by decide) ?_
  refine q_istore_n (pc := 31) [_, _, _] rfl (Nat.le_of_ble_eq_true rfl) rfl ?_
  refine c_becomeL (by omega) hl hb hb2 hn kk 0 (by omega) _ _ H (BT.fr (b := b2) hβ1 (stn (by omega) (by omega)) (fun i g1 g2 => by omega)) (sf.tr (stn (by omega) (by omega)) (stn (by omega) (by omega))) ⟨fun j hj => ?_, fun j hj => ?_, fun q hq => by omega⟩
  · rw [stF_n _ _ (by omega), stF_s, pk_cpy_in (by omega) (by omega)]
    exact (congrArg _ (by omega)).trans (hβ.1 j hj)
  · rw [stF_s, pk_cpy_in (by omega) (by omega), stF_n _ _ (by omega)]
    exact (congrArg _ (by omega)).trans (hβ.2.1 j hj)
end P21
end
section
/-! ===== sheets; what is laid as a sheet says ===== -/
theorem HR.S2 {P : mx_Pm} {h : mx_H} {s : mx_St} {q n : Nat} (H : HR P h s) (hl : 51 ≤ P.1) (hq : isS q) (hn : s q 2 = nI n) : h.2.2 q = .inr (5, [.ref (q + 1), .int (s q 1), .int (nI n)]) := by rw [H.S hl hq, hn]
def narS (σ y : Int32) : Int32 := if σ = 0 then y.toInt8.toInt32 else if σ = 1 then y.toInt16.toInt32 else y
def bdN (lo hi : Nat) (x : Int32) : Nat := if x < 0 then lo else max lo (min x.toNatClampNeg hi)
theorem bdN_n {lo hi v : Nat} (hv : v < 2 ^ 31) : bdN lo hi (nI v) = max lo (min v hi) := by unfold bdN; rw [if_neg (nI_pos hv), nI_clamp hv]
theorem bdN_le {lo hi : Nat} {x : Int32} (h : lo ≤ hi) : lo ≤ bdN lo hi x ∧ bdN lo hi x ≤ hi := by unfold bdN; split <;> omega
theorem bd_eq {lo hi : Nat} {x : Int32} (h : lo ≤ hi) (hh : hi < 2 ^ 30) : mxx32 (nI lo) (mn32 x (nI hi)) = nI (bdN lo hi x) := by
  unfold bdN
  by_cases hx : x < 0
  · rw [if_pos hx]
    have h0 : x < nI hi := Int32.lt_of_lt_of_le hx (nI_pos' (by omega))
    have h1 : ¬ nI hi < x := Int32.not_lt.mpr (Int32.le_of_lt h0)
    unfold mxx32 mn32
    rw [if_neg h1, if_neg (Int32.not_lt.mpr (Int32.le_of_lt (Int32.lt_of_lt_of_le hx (nI_pos' (by omega)))))]
  · obtain ⟨j, hj, rfl⟩ := x_of hx
    rw [if_neg hx, nI_clamp hj]
    unfold mxx32 mn32
    by_cases g : hi < j
    · rw [if_pos (nI_lt g hj)]
      by_cases g2 : lo < hi
      · rw [if_pos (nI_lt g2 (by omega))]; congr 1; omega
      · rw [if_neg (nI_nlt (show hi ≤ lo by omega) (by omega))]; congr 1; omega
    · rw [if_neg (nI_nlt (show j ≤ hi by omega) (by omega))]
      by_cases g2 : lo < j
      · rw [if_pos (nI_lt g2 (by omega))]; congr 1; omega
      · rw [if_neg (nI_nlt (show j ≤ lo by omega) (by omega))]; congr 1; omega
theorem mn_comm (x y : Int32) : mn32 x y = mn32 y x := by
  unfold mn32
  by_cases h : y < x
  · rw [if_pos h, if_neg (Int32.not_lt.mpr (Int32.le_of_lt h))]
  · by_cases h2 : x < y
    · rw [if_neg h, if_pos h2]
    · rw [if_neg h, if_neg h2]; exact Int32.le_antisymm (Int32.not_lt.mp h) (Int32.not_lt.mp h2)
section P22
variable {d k pc a i j c p b q n m : Nat} {v : Int} {L L' : mx_L} {st r : List Value} {P : mx_Pm} {h : mx_H} {s : mx_St} {Q : Option Value → mx_H → Prop} {x y : Int32} {β : Nat → Nat}
theorem c_boundX {lo hi : Nat} (h1 : lo ≤ hi) (h2 : hi < 2 ^ 30) (hq : Q (some (.int (nI (bdN lo hi x)))) h) : wc d 130 [.int x, .int (nI lo), .int (nI hi)] h Q := c_bound (by rw [bd_eq h1 h2]; exact hq)
theorem m_boundX {lo hi : Nat} (h1 : lo ≤ hi) (h2 : hi < 2 ^ 30) (hq : Q (some (.int (nI (bdN lo hi x)))) h) : wc d 133 [.int x, .int (nI lo), .int (nI hi)] h Q := m_bound (by rw [mn_comm, bd_eq h1 h2]; exact hq)
theorem c_isThere (H : HR P h s) (hl : 51 ≤ P.1) (hq : isS q) (ht : s q 1 ≠ -1 → Q (some (.int 1)) h) (hf : s q 1 = -1 → Q (some (.int 0)) h) : wc d 57 [.ref q] h Q := by
  refine wc.go [_] rfl ?_
  refine q_aload_n (pc := 0) rfl rfl rfl ?_
  refine q_getf (pc := 1) rfl (by exact HR.S H hl hq) rfl rfl ?_
  refine q_iconst (pc := 4) rfl (-1) (by decide) ?_
  first | refine n_icmpeq (pc := 5) rfl (by omega) (by omega) (fun h5 => ?_) (fun h5 => ?_) | refine q_icmpeq (pc := 5) rfl (fun h5 => ?_) (fun h5 => ?_)
  · refine q_iconst (pc := 12) rfl (nI 0) (by decide) ?_
    refine q_iret (pc := 13) rfl (rfl) ?_
    first | exact ht h5 | exact hf h5
  · refine q_iconst (pc := 8) rfl (nI 1) (by decide) ?_
    refine q_goto (pc := 9) rfl ?_
    refine q_iret (pc := 13) rfl (rfl) ?_
    first | exact ht h5 | exact hf h5
theorem c_item (H : HR P h s) (hl : 51 ≤ P.1) (hq : isS q) (hn : s q 2 = nI n) (hn40 : n ≤ 40) (hj : j < n) (hQ : Q (some (.int (s (q + 1) j))) h) : wc d 59 [.ref q, .int (nI j)] h Q := by
  refine wc.go [_, _] rfl ?_
  refine q_iload_n (pc := 0) rfl rfl ?_
  refine q_iflt (pc := 1) rfl (fun h1 => ?_) (fun h1 => ?_)
  · first | (exfalso; omega) | exact absurd h1 (nI_pos (by omega)) | exact absurd (nI_pos' (by omega)) h1
  · refine q_iload_n (pc := 4) rfl rfl ?_
    refine q_aload_n (pc := 5) rfl rfl rfl ?_
    refine q_getf (pc := 6) rfl (by exact HR.S2 H hl hq hn) rfl rfl ?_
    first | refine n_icmpge (pc := 9) rfl (by omega) (by omega) (fun h9 => ?_) (fun h9 => ?_) | refine q_icmpge (pc := 9) rfl (fun h9 => ?_) (fun h9 => ?_)
    · first | (exfalso; omega) | exact absurd h9 (nI_pos (by omega)) | exact absurd (nI_pos' (by omega)) h9
    · refine q_iload_n (pc := 12) rfl rfl ?_
      refine q_bipush (pc := 13) rfl (nI 40) (by decide) ?_
      first | refine n_icmpge (pc := 15) rfl (by omega) (by omega) (fun h15 => ?_) (fun h15 => ?_) | refine q_icmpge (pc := 15) rfl (fun h15 => ?_) (fun h15 => ?_)
      · first | (exfalso; omega) | exact absurd h15 (nI_pos (by omega)) | exact absurd (nI_pos' (by omega)) h15
      · refine q_aload_n (pc := 18) rfl rfl rfl ?_
        refine q_getf (pc := 19) rfl (by exact HR.S2 H hl hq hn) rfl rfl ?_
        refine q_iload_n (pc := 22) rfl rfl ?_
        refine n_ild (pc := 23) rfl (by exact HR.ait H hl hq) rfl (by omega) (by omega) ?_
        refine q_goto (pc := 24) rfl ?_
        refine q_iret (pc := 28) rfl (rfl) ?_
        exact hQ
theorem c_itemX (H : HR P h s) (hl : 51 ≤ P.1) (hq : isS q) (hn : s q 2 = nI n) (hn40 : n ≤ 40) (ht : ∀ j, j < n → x = nI j → Q (some (.int (s (q + 1) j))) h) (hf : (x < 0 ∨ nI n ≤ x) → Q (some (.int 0)) h) : wc d 59 [.ref q, .int x] h Q := by
  refine wc.go [_, _] rfl ?_
  refine q_iload_n (pc := 0) rfl rfl ?_
  refine q_iflt (pc := 1) rfl (fun h1 => ?_) (fun h1 => ?_)
  · refine q_iconst (pc := 27) rfl (nI 0) (by decide) ?_
    refine q_iret (pc := 28) rfl (rfl) ?_
    first | exact ht j hj rfl | exact hf (Or.inl h1) | exact hf (Or.inr h9)
  · refine q_iload_n (pc := 4) rfl rfl ?_
    refine q_aload_n (pc := 5) rfl rfl rfl ?_
    refine q_getf (pc := 6) rfl (by exact HR.S2 H hl hq hn) rfl rfl ?_
    first | refine n_icmpge (pc := 9) rfl (by omega) (by omega) (fun h9 => ?_) (fun h9 => ?_) | refine q_icmpge (pc := 9) rfl (fun h9 => ?_) (fun h9 => ?_)
    · refine q_iconst (pc := 27) rfl (nI 0) (by decide) ?_
      refine q_iret (pc := 28) rfl (rfl) ?_
      first | exact ht j hj rfl | exact hf (Or.inl h1) | exact hf (Or.inr h9)
    · obtain ⟨j, hj, rfl⟩ := x_big (by omega) h1 h9
      refine q_iload_n (pc := 12) rfl rfl ?_
      refine q_bipush (pc := 13) rfl (nI 40) (by decide) ?_
      first | refine n_icmpge (pc := 15) rfl (by omega) (by omega) (fun h15 => ?_) (fun h15 => ?_) | refine q_icmpge (pc := 15) rfl (fun h15 => ?_) (fun h15 => ?_)
      · first | (exfalso; omega) | exact absurd h15 (nI_pos (by omega)) | exact absurd (nI_pos' (by omega)) h15
      · refine q_aload_n (pc := 18) rfl rfl rfl ?_
        refine q_getf (pc := 19) rfl (by exact HR.S2 H hl hq hn) rfl rfl ?_
        refine q_iload_n (pc := 22) rfl rfl ?_
        refine n_ild (pc := 23) rfl (by exact HR.ait H hl hq) rfl (by omega) (by omega) ?_
        refine q_goto (pc := 24) rfl ?_
        refine q_iret (pc := 28) rfl (rfl) ?_
        first | exact ht j hj rfl | exact hf (Or.inl h1) | exact hf (Or.inr h9)
theorem c_put (H : HR P h s) (hl : 51 ≤ P.1) (hq : isS q) (hn : s q 2 = nI n) (hn40 : n ≤ 40) (hj : j < n) (kk : ∀ h', HR P h' (stv s (q + 1) j (narS (s q 1) y)) → Q none h') : wc d 60 [.ref q, .int (nI j), .int y] h Q := by
  unfold narS at kk
  refine wc.go [_, _, _] rfl ?_
  refine q_iload_n (pc := 0) rfl rfl ?_
  refine q_iflt (pc := 1) rfl (fun h1 => ?_) (fun h1 => ?_)
  · first | (exfalso; omega) | exact absurd h1 (nI_pos (by omega)) | exact absurd (nI_pos' (by omega)) h1
  · refine q_iload_n (pc := 4) rfl rfl ?_
    refine q_aload_n (pc := 5) rfl rfl rfl ?_
    refine q_getf (pc := 6) rfl (by exact HR.S2 H hl hq hn) rfl rfl ?_
    first | refine n_icmpge (pc := 9) rfl (by omega) (by omega) (fun h9 => ?_) (fun h9 => ?_) | refine q_icmpge (pc := 9) rfl (fun h9 => ?_) (fun h9 => ?_)
    · first | (exfalso; omega) | exact absurd h9 (nI_pos (by omega)) | exact absurd (nI_pos' (by omega)) h9
    · refine q_iload_n (pc := 12) rfl rfl ?_
      refine q_bipush (pc := 13) rfl (nI 40) (by decide) ?_
      first | refine n_icmpge (pc := 15) rfl (by omega) (by omega) (fun h15 => ?_) (fun h15 => ?_) | refine q_icmpge (pc := 15) rfl (fun h15 => ?_) (fun h15 => ?_)
      · first | (exfalso; omega) | exact absurd h15 (nI_pos (by omega)) | exact absurd (nI_pos' (by omega)) h15
      · refine q_aload_n (pc := 18) rfl rfl rfl ?_
        refine q_getf (pc := 19) rfl (by exact HR.S2 H hl hq hn) rfl rfl ?_
        refine q_iload_n (pc := 22) rfl rfl ?_
        refine q_aload_n (pc := 23) rfl rfl rfl ?_
        refine q_getf (pc := 24) rfl (by exact HR.S2 H hl hq hn) rfl rfl ?_
        first | refine n_ifne (pc := 27) rfl (by omega) (fun h27 => ?_) (fun h27 => ?_) | refine q_ifne (pc := 27) rfl (fun h27 => ?_) (fun h27 => ?_)
        · refine q_aload_n (pc := 35) rfl rfl rfl ?_
          refine q_getf (pc := 36) rfl (by exact HR.S2 H hl hq hn) rfl rfl ?_
          refine q_iconst (pc := 39) rfl (nI 1) (by decide) ?_
          first | refine n_icmpne (pc := 40) rfl (by omega) (by omega) (fun h40 => ?_) (fun h40 => ?_) | refine q_icmpne (pc := 40) rfl (fun h40 => ?_) (fun h40 => ?_)
          · refine q_iload_n (pc := 48) rfl rfl ?_
            refine r_ist2 (pc := 49) rfl H hl (okS1 hq) (ecS1 hq) rfl (by omega) (by omega) ?_
            intro h H
            refine q_vret (pc := 50) rfl rfl ?_
            first | (rw [if_pos h27] at kk; exact kk _ H) | (rw [if_neg h27, if_pos (show s q 1 = 1 from h40)] at kk; exact kk _ H) | (rw [if_neg h27, if_neg (show ¬ s q 1 = 1 from h40)] at kk; exact kk _ H)
          · refine q_iload_n (pc := 43) rfl rfl ?_
            refine q_i2s (pc := 44) rfl ?_
            refine q_goto (pc := 45) rfl ?_
            refine r_ist2 (pc := 49) rfl H hl (okS1 hq) (ecS1 hq) rfl (by omega) (by omega) ?_
            intro h H
            refine q_vret (pc := 50) rfl rfl ?_
            first | (rw [if_pos h27] at kk; exact kk _ H) | (rw [if_neg h27, if_pos (show s q 1 = 1 from h40)] at kk; exact kk _ H) | (rw [if_neg h27, if_neg (show ¬ s q 1 = 1 from h40)] at kk; exact kk _ H)
        · refine q_iload_n (pc := 30) rfl rfl ?_
          refine q_i2b (pc := 31) rfl ?_
          refine q_goto (pc := 32) rfl ?_
          refine r_ist2 (pc := 49) rfl H hl (okS1 hq) (ecS1 hq) rfl (by omega) (by omega) ?_
          intro h H
          refine q_vret (pc := 50) rfl rfl ?_
          first | (rw [if_pos h27] at kk; exact kk _ H) | (rw [if_neg h27, if_pos (show s q 1 = 1 from h40)] at kk; exact kk _ H) | (rw [if_neg h27, if_neg (show ¬ s q 1 = 1 from h40)] at kk; exact kk _ H)
theorem c_cleanL (hl : 51 ≤ P.1) (hq : isS q) {s0 : mx_St} {x y : Int32} (kk : ∀ h' s', HR P h' s' → sf s0 s' (fun i => i = q + 1) → (∀ i, i < 40 → s' (q + 1) i = 0) → Q none h') (i : Nat) (hi : i ≤ 40) (h : mx_H) (s : mx_St) (H : HR P h s) (hs : sf s0 s (fun i => i = q + 1)) (h0 : ∀ j, j < i → s (q + 1) j = 0) : wq d 58 18 [some (.ref q), some (.int x), some (.int y), some (.int (nI i))] [] h Q := by
  refine q_iload_n (pc := 18) rfl rfl ?_
  refine q_bipush (pc := 19) rfl (nI 40) (by decide) ?_
  first | refine n_icmpge (pc := 21) rfl (by omega) (by omega) (fun h21 => ?_) (fun h21 => ?_) | refine q_icmpge (pc := 21) rfl (fun h21 => ?_) (fun h21 => ?_)
  · refine q_vret (pc := 37) rfl rfl ?_
    exact kk _ _ H hs (fun j hj => h0 j (by omega))
  · refine q_aload_n (pc := 24) rfl rfl rfl ?_
    refine q_getf (pc := 25) rfl (by exact HR.S H hl hq) rfl rfl ?_
    refine q_iload_n (pc := 28) rfl rfl ?_
    refine q_iconst (pc := 29) rfl (nI 0) (by decide) ?_
    refine r_ist2 (pc := 30) rfl H hl (okS1 hq) (ecS1 hq) rfl (by omega) (by omega) ?_
    intro h H
    first | refine n_iinc (pc := 31) rfl [_, _, _, _] 1 (by decide) rfl rfl ?_ | refine q_iinc (pc := 31) [_, _, _, _] (1) rfl rfl (by decide) rfl ?_
    refine q_goto (pc := 34) rfl ?_
    refine c_cleanL hl hq kk (i + 1) (by omega) h _ H (hs.st rfl) (lt_s (fun j hj => ?_) stv_a)
    rw [stv_o (by omega)]
    exact h0 j hj
termination_by 40 - i
theorem c_sbecome (hd : 1 ≤ d) (H : HR P h s) (hl : 51 ≤ P.1) (hq : isS q) (hn : n ≤ 40) (kk : ∀ h' s', HR P h' s' → sf s s' (fun i => q ≤ i ∧ i < q + 2) → s' q 1 = x → s' q 2 = nI n → (∀ i, i < 40 → s' (q + 1) i = 0) → Q none h') : wc d 58 [.ref q, .int x, .int (nI n)] h Q := by
  refine wc.go [_, _, _, _] rfl ?_
  refine q_aload_n (pc := 0) rfl rfl rfl ?_
  refine q_iload_n (pc := 1) rfl rfl ?_
  refine r_pf2 (pc := 2) (i := 1) rfl H hl (okS hq) (ecS hq _) rfl rfl (Nat.le_of_ble_eq_true rfl) rfl (ecS hq _) ?_
  intro h H
  refine q_aload_n (pc := 5) rfl rfl rfl ?_
  refine q_iload_n (pc := 6) rfl rfl ?_
  refine q_iconst (pc := 7) rfl (nI 0) (by decide) ?_
  refine q_bipush (pc := 8) rfl (nI 40) (by decide) ?_
  refine q_callS (pc := 10) _ (by decide) rfl rfl rfl rfl (Nat.le_of_ble_eq_true rfl) (by omega) _ rfl ?_
  refine c_boundX (by omega) (by omega) ?_
  rw [bdN_n (by omega), show max 0 (min n 40) = n by omega]
  refine r_pf2 (pc := 13) (i := 2) rfl H hl (okS hq) (ecS hq _) rfl rfl (Nat.le_of_ble_eq_true rfl) rfl (ecS hq _) ?_
  intro h H
  refine q_iconst (pc := 16) rfl (nI 0) (by decide) ?_
  refine q_istore_n (pc := 17) [_, _, _, _] rfl (Nat.le_of_ble_eq_true rfl) rfl ?_
  refine c_cleanL hl hq (fun h' s' H' k1 k2 => kk h' s' H' (((sf.rf.st (by omega)).st (by omega)).tr (k1.mono (fun i g => by omega))) ?_ ?_ k2) 0 (by omega) h _ H sf.rf (fun j hj => by omega)
  · rw [k1 q (by omega), stv_o (by decide), stv_a]
  · rw [k1 q (by omega), stv_a]
theorem c_liesL (hd : 1 ≤ d) (H : HR P h s) (hl : 51 ≤ P.1) (hq : isS q) (hn : s q 2 = nI n) (hn40 : n ≤ 40) (hb : isB b) (hβ : BT s b β) (ht : (∀ c, c < n → c < 36 → nI (β c) = s (q + 1) c) → Q (some (.int 1)) h) (hf : (¬ ∀ c, c < n → c < 36 → nI (β c) = s (q + 1) c) → Q (some (.int 0)) h) (c : Nat) (hc : c ≤ 36 ∧ c ≤ n) (hi : ∀ j, j < c → nI (β j) = s (q + 1) j) : wq d 11 2 [some (.ref b), some (.ref q), some (.int (nI c))] [] h Q := by
  refine q_iload_n (pc := 2) rfl rfl ?_
  refine q_aload_n (pc := 3) rfl rfl rfl ?_
  refine q_getf (pc := 4) rfl (by first | exact HR.S2 H hl hq hn | exact HR.B H hl hb hβ) rfl rfl ?_
  first | refine n_icmpge (pc := 7) rfl (by omega) (by omega) (fun h7 => ?_) (fun h7 => ?_) | refine q_icmpge (pc := 7) rfl (fun h7 => ?_) (fun h7 => ?_)
  · refine q_iconst (pc := 38) rfl (nI 1) (by decide) ?_
    refine q_iret (pc := 39) rfl (rfl) ?_
    first | exact ht (fun j g1 g2 => hi j (by omega)) | exact hf (fun z => h27 (z c (by omega) (by omega)))
  · refine q_iload_n (pc := 10) rfl rfl ?_
    refine q_bipush (pc := 11) rfl (nI 36) (by decide) ?_
    first | refine n_icmpge (pc := 13) rfl (by omega) (by omega) (fun h13 => ?_) (fun h13 => ?_) | refine q_icmpge (pc := 13) rfl (fun h13 => ?_) (fun h13 => ?_)
    · refine q_iconst (pc := 38) rfl (nI 1) (by decide) ?_
      refine q_iret (pc := 39) rfl (rfl) ?_
      first | exact ht (fun j g1 g2 => hi j (by omega)) | exact hf (fun z => h27 (z c (by omega) (by omega)))
    · refine q_aload_n (pc := 16) rfl rfl rfl ?_
      refine q_getf (pc := 17) rfl (by first | exact HR.S2 H hl hq hn | exact HR.B H hl hb hβ) rfl rfl ?_
      refine q_iload_n (pc := 20) rfl rfl ?_
      refine n_ild (pc := 21) rfl (by exact HR.am H hl hb hβ) rfl (by omega) (by omega) ?_
      refine q_aload_n (pc := 22) rfl rfl rfl ?_
      refine q_iload_n (pc := 23) rfl rfl ?_
      refine q_callV (pc := 24) _ rfl rfl rfl (by first | exact HR.S2 H hl hq hn | exact HR.B H hl hb hβ) rfl (Nat.le_of_ble_eq_true rfl) (by omega) _ rfl ?_
      refine c_item H hl hq hn hn40 h7 ?_
      refine q_icmpeq (pc := 27) rfl (fun h27 => ?_) (fun h27 => ?_)
      · first | refine n_iinc (pc := 32) rfl [_, _, _] 1 (by decide) rfl rfl ?_ | refine q_iinc (pc := 32) [_, _, _] (1) rfl rfl (by decide) rfl ?_
        refine q_goto (pc := 35) rfl ?_
        exact c_liesL hd H hl hq hn hn40 hb hβ ht hf (c + 1) (by omega) (lt_s hi h27)
      · refine q_iconst (pc := 30) rfl (nI 0) (by decide) ?_
        refine q_iret (pc := 31) rfl (rfl) ?_
        first | exact ht (fun j g1 g2 => hi j (by omega)) | exact hf (fun z => h27 (z c (by omega) (by omega)))
termination_by 36 - c
theorem c_liesAs (hd : 1 ≤ d) (H : HR P h s) (hl : 51 ≤ P.1) (hq : isS q) (hn : s q 2 = nI n) (hn40 : n ≤ 40) (hb : isB b) (hβ : BT s b β) (ht : (∀ c, c < n → c < 36 → nI (β c) = s (q + 1) c) → Q (some (.int 1)) h) (hf : (¬ ∀ c, c < n → c < 36 → nI (β c) = s (q + 1) c) → Q (some (.int 0)) h) : wc d 11 [.ref b, .ref q] h Q := by
  refine wc.go [_, _, _] rfl ?_
  refine q_iconst (pc := 0) rfl (nI 0) (by decide) ?_
  refine q_istore_n (pc := 1) [_, _, _] rfl (Nat.le_of_ble_eq_true rfl) rfl ?_
  exact c_liesL hd H hl hq hn hn40 hb hβ ht hf 0 (by omega) (fun j hj => by omega)
/-- of its items so many are cells, no two alike -/
def onceN (F : Nat → Int32) (n : Nat) : Prop := (∀ i, i < n → ∃ c, c < 36 ∧ F i = nI c) ∧ ∀ i j, i < j → j < n → F i ≠ F j
theorem c_onceL (hd : 2 ≤ d) (H : HR P h s) (hl : 51 ≤ P.1) (hq : isS q) (hn : s q 2 = nI n) (hn40 : n ≤ 40) (ht : onceN (s (q + 1)) n → Q (some (.int 1)) h) (hf : ¬ onceN (s (q + 1)) n → Q (some (.int 0)) h) (i : Nat) (hi : i ≤ n) (w : Nat) (hw : w < 2 ^ 36) (hwi : ∀ c, c < 36 → (w.testBit c = true ↔ ∃ j, j < i ∧ s (q + 1) j = nI c)) (h1 : onceN (s (q + 1)) i) (z : Option Value) : wq d 61 4 [some (.ref q), some (.long (lN w)), none, some (.int (nI i)), z] [] h Q := by
  refine q_iload_n (pc := 4) rfl rfl ?_
  refine q_aload_n (pc := 5) rfl rfl rfl ?_
  refine q_getf (pc := 6) rfl (by exact HR.S2 H hl hq hn) rfl rfl ?_
  first | refine n_icmpge (pc := 9) rfl (by omega) (by omega) (fun h9 => ?_) (fun h9 => ?_) | refine q_icmpge (pc := 9) rfl (fun h9 => ?_) (fun h9 => ?_)
  · refine q_iconst (pc := 52) rfl (nI 1) (by decide) ?_
    refine q_iret (pc := 53) rfl (rfl) ?_
    obtain rfl : i = n := by omega
    exact ht h1
  · refine q_aload_n (pc := 12) rfl rfl rfl ?_
    refine q_iload_n (pc := 13) rfl rfl ?_
    refine q_callV (pc := 14) _ rfl rfl rfl (by exact HR.S2 H hl hq hn) rfl (Nat.le_of_ble_eq_true rfl) (by omega) _ rfl ?_
    refine c_item H hl hq hn hn40 h9 ?_
    refine q_istore (pc := 17) [_, _, _, _, _] rfl (Nat.le_of_ble_eq_true rfl) rfl ?_
    refine q_iload (pc := 19) rfl rfl ?_
    refine q_callS (pc := 21) _ (by decide) rfl rfl rfl rfl (Nat.le_of_ble_eq_true rfl) (by omega) _ rfl ?_
    refine c_isCell (fun c0 hc0 hx0 => ?_) (fun g => ?_)
    · rw [hx0]
      refine q_ifeq (pc := 24) rfl (fun z => absurd z (by decide)) (fun _ => ?_)
      refine q_lload_n (pc := 27) rfl rfl ?_
      refine q_iload (pc := 28) rfl rfl ?_
      refine q_callS (pc := 30) _ (by decide) rfl rfl rfl rfl (Nat.le_of_ble_eq_true rfl) (by omega) _ rfl ?_
      refine c_hasT (by omega) hc0 hw (fun g => ?_) (fun g => ?_)
      · refine q_ifeq (pc := 33) rfl (fun z => absurd z (by decide)) (fun _ => ?_)
        refine q_iconst (pc := 36) rfl (nI 0) (by decide) ?_
        refine q_iret (pc := 37) rfl (rfl) ?_
        first | exact hf (fun z => by
          obtain ⟨j, hj, e⟩ := (hwi c0 hc0).mp g
          exact z.2 j i hj h9 (e.trans hx0.symm)) | exact hf (fun z => by
          obtain ⟨c, hc, e⟩ := z.1 i h9
          rw [e] at g
          rcases g with g | g
          · exact absurd g (nI_pos (by omega))
          · exact absurd (x_le g (by omega) (by omega)) (by omega))
      · refine q_ifeq (pc := 33) rfl (fun _ => ?_) (fun z => absurd (by decide) z)
        refine q_lload_n (pc := 38) rfl rfl ?_
        refine q_iload (pc := 39) rfl rfl ?_
        refine q_callS (pc := 41) _ (by decide) rfl rfl rfl rfl (Nat.le_of_ble_eq_true rfl) (by omega) _ rfl ?_
        refine c_bitN hc0 ?_
        first | refine n_lor (pc := 44) rfl ?_ | refine q_lor (pc := 44) rfl ?_
        refine q_lstore_n (pc := 45) [_, _, _, _, _] rfl (Nat.le_of_ble_eq_true rfl) rfl ?_
        first | refine n_iinc (pc := 46) rfl [_, _, _, _, _] 1 (by decide) rfl rfl ?_ | refine q_iinc (pc := 46) [_, _, _, _, _] (1) rfl rfl (by decide) rfl ?_
        refine q_goto (pc := 49) rfl ?_
        refine c_onceL hd H hl hq hn hn40 ht hf (i + 1) (by omega) _ (Nat.or_lt_two_pow hw (Nat.pow_lt_pow_right (by decide) hc0)) (fun c hc => ?_) ⟨lt_s h1.1 ⟨c0, hc0, hx0⟩, fun j1 j2 g1 g2 => ?_⟩ _
        · rw [Nat.testBit_or, Nat.testBit_two_pow, Bool.or_eq_true, hwi c hc]
          constructor
          · rintro (⟨j, hj, e⟩ | e)
            · exact ⟨j, by omega, e⟩
            · exact ⟨i, by omega, by rw [hx0, of_decide_eq_true e]⟩
          · rintro ⟨j, hj, e⟩
            by_cases g : j < i
            · exact Or.inl ⟨j, g, e⟩
            · obtain rfl : j = i := by omega
              exact Or.inr (decide_eq_true (x_eq (hx0.symm.trans e) (by omega) (by omega)))
        · by_cases g3 : j2 < i
          · exact h1.2 j1 j2 g1 g3
          · obtain rfl : j2 = i := by omega
            intro e
            have := (hwi c0 hc0).mpr ⟨j1, g1, e.trans hx0⟩
            rw [g] at this
            cases this
    · refine q_ifeq (pc := 24) rfl (fun _ => ?_) (fun z => absurd (by decide) z)
      refine q_iconst (pc := 36) rfl (nI 0) (by decide) ?_
      refine q_iret (pc := 37) rfl (rfl) ?_
      first | exact hf (fun z => by
        obtain ⟨j, hj, e⟩ := (hwi c0 hc0).mp g
        exact z.2 j i hj h9 (e.trans hx0.symm)) | exact hf (fun z => by
        obtain ⟨c, hc, e⟩ := z.1 i h9
        rw [e] at g
        rcases g with g | g
        · exact absurd g (nI_pos (by omega))
        · exact absurd (x_le g (by omega) (by omega)) (by omega))
termination_by n - i
theorem c_once (hd : 2 ≤ d) (H : HR P h s) (hl : 51 ≤ P.1) (hq : isS q) (hn : s q 2 = nI n) (hn40 : n ≤ 40) (ht : onceN (s (q + 1)) n → Q (some (.int 1)) h) (hf : ¬ onceN (s (q + 1)) n → Q (some (.int 0)) h) : wc d 61 [.ref q] h Q := by
  refine wc.go [_, _, _, _, _] rfl ?_
  refine q_lconst (pc := 0) rfl (0) (by decide) ?_
  refine q_lstore_n (pc := 1) [_, _, _, _, _] rfl (Nat.le_of_ble_eq_true rfl) rfl ?_
  refine q_iconst (pc := 2) rfl (nI 0) (by decide) ?_
  refine q_istore_n (pc := 3) [_, _, _, _, _] rfl (Nat.le_of_ble_eq_true rfl) rfl ?_
  exact c_onceL hd H hl hq hn hn40 ht hf 0 (by omega) 0 (by decide) (fun c hc => ⟨fun z => (by rw [Nat.zero_testBit] at z; cases z), fun ⟨j, hj, _⟩ => by omega⟩) ⟨fun i hi => by omega, fun i j g1 g2 => by omega⟩ _
end P22
end
section
/-! ===== Long.bitCount, Integer.bitCount ===== -/
theorem ush_k : ∀ k, k < 64 → ((nI k).toInt64.toUInt64 &&& Int64.toUInt64 63).toBitVec % 64#64 = BitVec.ofNat 64 k := by decide +kernel
theorem lN_ush {x k : Nat} (hx : x < 2 ^ 64) (hk : k < 64) : ((lN x).toUInt64 >>> ((nI k).toInt64.toUInt64 &&& Int64.toUInt64 63)).toInt64 = lN (x / 2 ^ k) := by
  apply Int64.toBitVec_inj.mp
  show BitVec.ofNat 64 x >>> (((nI k).toInt64.toUInt64 &&& Int64.toUInt64 63).toBitVec % 64#64) = BitVec.ofNat 64 (x / 2 ^ k)
  rw [ush_k k hk]
  apply BitVec.eq_of_toNat_eq
  have h1 : x / 2 ^ k < 2 ^ 64 := Nat.lt_of_le_of_lt (Nat.div_le_self _ _) hx
  have h2 : k < 2 ^ 64 := by omega
  rw [BitVec.ushiftRight_eq', BitVec.toNat_ushiftRight, BitVec.toNat_ofNat, BitVec.toNat_ofNat, BitVec.toNat_ofNat, Nat.mod_eq_of_lt hx, Nat.mod_eq_of_lt h1, Nat.mod_eq_of_lt h2, Nat.shiftRight_eq_div_pow]
theorem and_256 {a c : Nat} (b e : Nat) (ha : a < 256) (hc : c < 256) : (a + 256 * b) &&& (c + 256 * e) = (a &&& c) + 256 * (b &&& e) := by
  apply Nat.eq_of_testBit_eq
  intro i
  have h1 : a &&& c < 2 ^ 8 := Nat.and_lt_two_pow _ hc
  rw [Nat.testBit_and, show a + 256 * b = 2 ^ 8 * b + a by omega, show c + 256 * e = 2 ^ 8 * e + c by omega, show (a &&& c) + 256 * (b &&& e) = 2 ^ 8 * (b &&& e) + (a &&& c) by omega, Nat.testBit_two_pow_mul_add _ ha, Nat.testBit_two_pow_mul_add _ hc, Nat.testBit_two_pow_mul_add _ h1]
  split
  · rw [Nat.testBit_and]
  · rw [Nat.testBit_and]
/-- the masks by bytes: w, then again -/
def mkN (w : Nat) : Nat → Nat
  | 0 => 0
  | n + 1 => w + 256 * mkN w n
def bc1 (n x : Nat) : Nat := x - ((x / 2) &&& mkN 85 n)
def bc2 (n x : Nat) : Nat := (bc1 n x &&& mkN 51 n) + ((bc1 n x / 4) &&& mkN 51 n)
def bc3 (n x : Nat) : Nat := (bc2 n x + bc2 n x / 16) &&& mkN 15 n
theorem bc_byte : ∀ a, a < 256 → ((a / 2) &&& 85 ≤ a ∧ (a - ((a / 2) &&& 85)) < 256) ∧ (((a - ((a / 2) &&& 85)) &&& 51) + (((a - ((a / 2) &&& 85)) / 4) &&& 51)) ≤ 68 ∧ (((a - ((a / 2) &&& 85)) &&& 51) + (((a - ((a / 2) &&& 85)) / 4) &&& 51)) % 16 ≤ 4 ∧ ((((a - ((a / 2) &&& 85)) &&& 51) + (((a - ((a / 2) &&& 85)) / 4) &&& 51)) + (((a - ((a / 2) &&& 85)) &&& 51) + (((a - ((a / 2) &&& 85)) / 4) &&& 51)) / 16) &&& 15 = cntf a.testBit 8 := by decide +kernel
theorem and_hi : ∀ m, m = 85 ∨ m = 51 ∨ m = 15 → ∀ a, a < 256 → (a &&& m) ≤ a ∧ (a + 128 &&& m) = (a % 128 &&& m) ∨ True := fun _ _ _ _ => Or.inr trivial
theorem and85 : ∀ a, a < 128 → ∀ t, t < 2 → (a + 128 * t) &&& 85 = a &&& 85 := by decide +kernel
theorem and51 : ∀ a, a < 64 → ∀ t, t < 4 → (a + 64 * t) &&& 51 = a &&& 51 := by decide +kernel
theorem and15 : ∀ a, a < 256 → a &&& 15 = a % 16 := by decide +kernel
theorem bc1_s {a b n : Nat} (ha : a < 256) (hb : (b / 2) &&& mkN 85 n ≤ b) : bc1 (n + 1) (a + 256 * b) = (a - ((a / 2) &&& 85)) + 256 * bc1 n b ∧ ((a + 256 * b) / 2) &&& mkN 85 (n + 1) ≤ a + 256 * b := by
  have e : ((a + 256 * b) / 2) &&& mkN 85 (n + 1) = ((a / 2) &&& 85) + 256 * ((b / 2) &&& mkN 85 n) := by
    rw [show (a + 256 * b) / 2 = (a / 2 + 128 * (b % 2)) + 256 * (b / 2) by omega, mkN, and_256 _ _ (by omega) (by decide), and85 _ (by omega) _ (by omega)]
  have h1 := (bc_byte a ha).1.1
  unfold bc1
  rw [e]
  exact ⟨by omega, by omega⟩
theorem bc2_s {a b n : Nat} (ha : a < 256) (hb : (b / 2) &&& mkN 85 n ≤ b) : bc2 (n + 1) (a + 256 * b) = (((a - ((a / 2) &&& 85)) &&& 51) + (((a - ((a / 2) &&& 85)) / 4) &&& 51)) + 256 * bc2 n b := by
  have h1 := (bc_byte a ha).1.2
  unfold bc2
  rw [(bc1_s ha hb).1]
  generalize a - ((a / 2) &&& 85) = u at h1
  generalize bc1 n b = w
  rw [mkN, and_256 _ _ h1 (by decide), show (u + 256 * w) / 4 = (u / 4 + 64 * (w % 4)) + 256 * (w / 4) by omega, and_256 _ _ (by omega) (by decide), and51 _ (by omega) _ (by omega)]
  omega
theorem bc3_s {a b n : Nat} (ha : a < 256) (hb : (b / 2) &&& mkN 85 n ≤ b) (hb2 : bc2 n b % 16 ≤ 4) : bc3 (n + 1) (a + 256 * b) = cntf a.testBit 8 + 256 * bc3 n b := by
  have h1 := (bc_byte a ha).2
  unfold bc3
  rw [bc2_s ha hb]
  generalize ((a - ((a / 2) &&& 85)) &&& 51) + (((a - ((a / 2) &&& 85)) / 4) &&& 51) = u at h1
  generalize bc2 n b = w at hb2
  rw [← h1.2.2, show u + 256 * w + (u + 256 * w) / 16 = (u + u / 16 + 16 * (w % 16)) + 256 * (w + w / 16) by omega, mkN, and_256 _ _ (by omega) (by decide), and15 _ (by omega), and15 _ (by omega)]
  omega
theorem bc_i (n : Nat) : ∀ x, x < 256 ^ n → (x / 2) &&& mkN 85 n ≤ x ∧ bc2 n x % 16 ≤ 4 := by
  induction n with
  | zero =>
    intro x hx
    obtain rfl : x = 0 := by have : x < 1 := hx; omega
    decide
  | succ n ih =>
    intro x hx
    have h1 : x / 256 < 256 ^ n := by rw [Nat.pow_succ] at hx; exact Nat.div_lt_of_lt_mul (by omega)
    obtain ⟨i1, i2⟩ := ih _ h1
    have e : x = x % 256 + 256 * (x / 256) := by omega
    have hm : x % 256 < 256 := by omega
    rw [e]
    refine ⟨(bc1_s hm i1).2, ?_⟩
    rw [bc2_s hm i1]
    have := (bc_byte _ hm).2.2.1
    omega
theorem bc_r {n x : Nat} (hx : x < 256 ^ (n + 1)) : bc3 (n + 1) x = cntf (x % 256).testBit 8 + 256 * bc3 n (x / 256) := by
  have h1 : x / 256 < 256 ^ n := by rw [Nat.pow_succ] at hx; exact Nat.div_lt_of_lt_mul (by omega)
  obtain ⟨i1, i2⟩ := bc_i n _ h1
  have e : x = x % 256 + 256 * (x / 256) := by omega
  have := bc3_s (a := x % 256) (b := x / 256) (n := n) (by omega) i1 i2
  rw [← e] at this
  exact this
theorem cntf_add (f : Nat → Bool) (n m : Nat) : cntf f (n + m) = cntf f n + cntf (fun i => f (n + i)) m := by
  induction m with
  | zero => rfl
  | succ m ih => rw [← Nat.add_assoc, cntf, cntf, ih]; omega
theorem cntf_congr {f g : Nat → Bool} {n : Nat} (h : ∀ i, i < n → f i = g i) : cntf f n = cntf g n := by
  induction n with
  | zero => rfl
  | succ n ih => rw [cntf, cntf, ih (fun i hi => h i (by omega)), h n (by omega)]
theorem cntf_byte (x n : Nat) : cntf x.testBit (8 + n) = cntf (x % 256).testBit 8 + cntf (x / 256).testBit n := by
  rw [cntf_add]
  congr 1
  · refine cntf_congr (fun i hi => ?_)
    rw [show 256 = 2 ^ 8 by decide, Nat.testBit_mod_two_pow]
    simp [hi]
  · refine cntf_congr (fun i hi => ?_)
    rw [show 256 = 2 ^ 8 by decide, Nat.testBit_div_two_pow, Nat.add_comm]
theorem bc_sum {x : Nat} (hx : x < 2 ^ 36) : ∃ c0 c1 c2 c3 c4 : Nat, c0 ≤ 8 ∧ c1 ≤ 8 ∧ c2 ≤ 8 ∧ c3 ≤ 8 ∧ c4 ≤ 8 ∧ bc3 8 x = c0 + 256 * (c1 + 256 * (c2 + 256 * (c3 + 256 * c4))) ∧ cntf x.testBit 36 = c0 + c1 + c2 + c3 + c4 := by
  have z8 : ∀ y : Nat, cntf y.testBit 8 ≤ 8 := fun y => cntf_le _ _
  refine ⟨cntf (x % 256).testBit 8, cntf (x / 256 % 256).testBit 8, cntf (x / 256 / 256 % 256).testBit 8, cntf (x / 256 / 256 / 256 % 256).testBit 8, cntf (x / 256 / 256 / 256 / 256 % 256).testBit 8, z8 _, z8 _, z8 _, z8 _, z8 _, ?_, ?_⟩
  · have z : bc3 3 0 = 0 := by decide
    rw [bc_r (by omega), bc_r (by omega), bc_r (by omega), bc_r (by omega), bc_r (by omega), show x / 256 / 256 / 256 / 256 / 256 = 0 by omega, z]
    omega
  · rw [show 36 = 8 + 28 by rfl, cntf_byte, show 28 = 8 + 20 by rfl, cntf_byte, show 20 = 8 + 12 by rfl, cntf_byte, show 12 = 8 + 4 by rfl, cntf_byte]
    have : cntf (x / 256 / 256 / 256 / 256).testBit 4 = cntf (x / 256 / 256 / 256 / 256 % 256).testBit 8 := by
      have hy : x / 256 / 256 / 256 / 256 < 16 := by omega
      rw [Nat.mod_eq_of_lt (by omega)]
      revert hy
      generalize x / 256 / 256 / 256 / 256 = y
      intro hy
      have : ∀ y, y < 16 → cntf y.testBit 4 = cntf y.testBit 8 := by decide +kernel
      exact this y hy
    rw [this]
    omega
theorem bc_le (n : Nat) : ∀ x, x < 256 ^ n → bc1 n x ≤ x ∧ bc2 n x < 256 ^ n := by
  induction n with
  | zero =>
    intro x hx
    obtain rfl : x = 0 := by have : x < 1 := hx; omega
    decide
  | succ n ih =>
    intro x hx
    have hp : 0 < 256 ^ n := Nat.pow_pos (by decide)
    rw [Nat.pow_succ] at hx ⊢
    have h1 : x / 256 < 256 ^ n := Nat.div_lt_of_lt_mul (by omega)
    obtain ⟨i1, i2⟩ := bc_i n _ h1
    obtain ⟨j1, j2⟩ := ih _ h1
    refine ⟨Nat.sub_le _ _, ?_⟩
    have e : x = x % 256 + 256 * (x / 256) := by omega
    have hm : x % 256 < 256 := by omega
    have := (bc_byte _ hm).2.1
    rw [e, bc2_s hm i1]
    generalize 256 ^ n = z at *
    omega
theorem bc_fin {c0 c1 c2 c3 c4 y : Nat} (b0 : c0 ≤ 8) (b1 : c1 ≤ 8) (b2 : c2 ≤ 8) (b3 : c3 ≤ 8) (b4 : c4 ≤ 8) (hy : y = c0 + 256 * (c1 + 256 * (c2 + 256 * (c3 + 256 * c4)))) : (y + y / 2 ^ 8 + (y + y / 2 ^ 8) / 2 ^ 16 + (y + y / 2 ^ 8 + (y + y / 2 ^ 8) / 2 ^ 16) / 2 ^ 32) % 128 = c0 + c1 + c2 + c3 + c4 := by
  have h1 : y / 2 ^ 8 = c1 + 256 * (c2 + 256 * (c3 + 256 * c4)) := by omega
  have h2 : y + y / 2 ^ 8 = (c0 + c1) + 256 * ((c1 + c2) + 256 * ((c2 + c3) + 256 * ((c3 + c4) + 256 * c4))) := by omega
  generalize y + y / 2 ^ 8 = u at h2 ⊢
  have h3 : u / 2 ^ 16 = (c2 + c3) + 256 * ((c3 + c4) + 256 * c4) := by omega
  have h4 : u + u / 2 ^ 16 = (c0 + c1 + c2 + c3) + 256 * ((c1 + c2 + c3 + c4) + 256 * ((c2 + c3 + c4) + 256 * ((c3 + c4) + 256 * c4))) := by omega
  generalize u + u / 2 ^ 16 = w at h4 ⊢
  have h5 : w / 2 ^ 32 = c4 := by omega
  rw [h5]
  omega
def popN (x : Nat) : Nat := cntf x.testBit 36
section P23
variable {d k pc a i j n m : Nat} {v : Int} {L L' : mx_L} {st r : List Value} {h : mx_H} {Q : Option Value → mx_H → Prop} {x y : Int32}
theorem n_lushr (hc : mx_tb k pc = some (.lushr, a, v)) (hi : i < 2 ^ 64) (hj : j < 64) (kk : wq d k (pc + 1) L (.long (lN (i / 2 ^ j)) :: r) h Q) : wq d k pc L (.int (nI j) :: .long (lN i) :: r) h Q := q_lushr hc (by rw [lN_ush hi hj]; exact kk)
theorem n_lsub (hc : mx_tb k pc = some (.lsub, a, v)) (hj : j ≤ i) (kk : wq d k (pc + 1) L (.long (lN (i - j)) :: r) h Q) : wq d k pc L (.long (lN j) :: .long (lN i) :: r) h Q := q_lsub hc (by rw [lN_sub hj]; exact kk)
theorem n_ladd (hc : mx_tb k pc = some (.ladd, a, v)) (kk : wq d k (pc + 1) L (.long (lN (i + j)) :: r) h Q) : wq d k pc L (.long (lN j) :: .long (lN i) :: r) h Q := q_ladd hc (by rw [lN_add]; exact kk)
theorem n_l2i (hc : mx_tb k pc = some (.l2i, a, v)) (kk : wq d k (pc + 1) L (.int (nI i) :: r) h Q) : wq d k pc L (.long (lN i) :: r) h Q := q_l2i hc (by rw [lN_i]; exact kk)
theorem n_ldc2 {j0 : Nat} (hc : mx_tb k pc = some (.ldc2_w j0, a, v)) (i : Nat) (hx : Int64.ofInt v = lN i) (kk : wq d k (pc + 3) L (.long (lN i) :: st) h Q) : wq d k pc L st h Q := q_ldc2 hc (lN i) hx kk
theorem j_bitCount (hm : m < 2 ^ 36) (hq : Q (some (.int (nI (popN m)))) h) : wc d 213 [.long (lN m)] h Q := by
  obtain ⟨c0, c1, c2, c3, c4, b0, b1, b2, b3, b4, e1, e2⟩ := bc_sum hm
  have hm8 : m < 256 ^ 8 := Nat.lt_of_lt_of_le hm (by decide)
  obtain ⟨i1, i2⟩ := bc_i 8 m hm8
  obtain ⟨l1, l2⟩ := bc_le 8 m hm8
  have l2 : bc2 8 m < 2 ^ 64 := l2
  unfold popN at hq
  rw [e2] at hq
  refine wc.go [_, _] rfl ?_
  refine q_lload_n (pc := 0) rfl rfl ?_
  refine q_lload_n (pc := 1) rfl rfl ?_
  refine q_iconst (pc := 2) rfl (nI 1) (by decide) ?_
  refine n_lushr (pc := 3) rfl (by omega) (by decide) ?_
  refine n_ldc2 (pc := 4) rfl (mkN 85 8) (by decide) ?_
  first | refine n_land (pc := 7) rfl ?_ | refine q_land (pc := 7) rfl ?_
  refine n_lsub (pc := 8) rfl i1 ?_
  rw [show m - (m / 2 ^ 1 &&& mkN 85 8) = bc1 8 m from rfl]
  refine q_lstore_n (pc := 9) [_, _] rfl (Nat.le_of_ble_eq_true rfl) rfl ?_
  refine q_lload_n (pc := 10) rfl rfl ?_
  refine n_ldc2 (pc := 11) rfl (mkN 51 8) (by decide) ?_
  first | refine n_land (pc := 14) rfl ?_ | refine q_land (pc := 14) rfl ?_
  refine q_lload_n (pc := 15) rfl rfl ?_
  refine q_iconst (pc := 16) rfl (nI 2) (by decide) ?_
  refine n_lushr (pc := 17) rfl (by omega) (by decide) ?_
  refine n_ldc2 (pc := 18) rfl (mkN 51 8) (by decide) ?_
  first | refine n_land (pc := 21) rfl ?_ | refine q_land (pc := 21) rfl ?_
  refine n_ladd (pc := 22) rfl ?_
  rw [show (bc1 8 m &&& mkN 51 8) + (bc1 8 m / 2 ^ 2 &&& mkN 51 8) = bc2 8 m from rfl]
  refine q_lstore_n (pc := 23) [_, _] rfl (Nat.le_of_ble_eq_true rfl) rfl ?_
  refine q_lload_n (pc := 24) rfl rfl ?_
  refine q_lload_n (pc := 25) rfl rfl ?_
  refine q_iconst (pc := 26) rfl (nI 4) (by decide) ?_
  refine n_lushr (pc := 27) rfl (by omega) (by decide) ?_
  refine n_ladd (pc := 28) rfl ?_
  refine n_ldc2 (pc := 29) rfl (mkN 15 8) (by decide) ?_
  first | refine n_land (pc := 32) rfl ?_ | refine q_land (pc := 32) rfl ?_
  rw [show (bc2 8 m + bc2 8 m / 2 ^ 4 &&& mkN 15 8) = bc3 8 m from rfl, e1]
  refine q_lstore_n (pc := 33) [_, _] rfl (Nat.le_of_ble_eq_true rfl) rfl ?_
  refine q_lload_n (pc := 34) rfl rfl ?_
  refine q_lload_n (pc := 35) rfl rfl ?_
  refine q_bipush (pc := 36) rfl (nI 8) (by decide) ?_
  refine n_lushr (pc := 38) rfl (by omega) (by decide) ?_
  refine n_ladd (pc := 39) rfl ?_
  refine q_lstore_n (pc := 40) [_, _] rfl (Nat.le_of_ble_eq_true rfl) rfl ?_
  refine q_lload_n (pc := 41) rfl rfl ?_
  refine q_lload_n (pc := 42) rfl rfl ?_
  refine q_bipush (pc := 43) rfl (nI 16) (by decide) ?_
  refine n_lushr (pc := 45) rfl (by omega) (by decide) ?_
  refine n_ladd (pc := 46) rfl ?_
  refine q_lstore_n (pc := 47) [_, _] rfl (Nat.le_of_ble_eq_true rfl) rfl ?_
  refine q_lload_n (pc := 48) rfl rfl ?_
  refine q_lload_n (pc := 49) rfl rfl ?_
  refine q_bipush (pc := 50) rfl (nI 32) (by decide) ?_
  refine n_lushr (pc := 52) rfl (by omega) (by decide) ?_
  refine n_ladd (pc := 53) rfl ?_
  refine q_lstore_n (pc := 54) [_, _] rfl (Nat.le_of_ble_eq_true rfl) rfl ?_
  refine q_lload_n (pc := 55) rfl rfl ?_
  refine n_l2i (pc := 56) rfl ?_
  refine q_bipush (pc := 57) rfl (nI 127) (by decide) ?_
  refine q_iand (pc := 59) rfl ?_
  refine q_iret (pc := 60) rfl (rfl) ?_
  have e : ∀ z : Nat, z % 128 = c0 + c1 + c2 + c3 + c4 → nI z &&& nI 127 = nI (c0 + c1 + c2 + c3 + c4) := fun z e => by
    rw [pk_and (nI z) 7 (by decide), show (nI z).toBitVec.toNat = z % 2 ^ 32 from BitVec.toNat_ofNat _ _, ← e]
    congr 1
    omega
  rw [e _ (bc_fin b0 b1 b2 b3 b4 rfl)]
  exact hq
def sh32 (x : Int32) (k : Nat) : Int32 := (x.toUInt32 >>> ((nI k).toUInt32 &&& Int32.toUInt32 31)).toInt32
def bc32 (x : Int32) : Int32 :=
  let a := x - (sh32 x 1 &&& nI 1431655765)
  let b := (a &&& nI 858993459) + (sh32 a 2 &&& nI 858993459)
  let c := (b + sh32 b 4) &&& nI 252645135
  let e := c + sh32 c 8
  let f := e + sh32 e 16
  f &&& nI 63
theorem bc32_s : ∀ t, t < 128 → bc32 (nI t) = nI (cntf t.testBit 7) := by decide +kernel
theorem i_bitCount {t : Nat} (ht : t < 128) (hq : Q (some (.int (nI (cntf t.testBit 7)))) h) : wc d 212 [.int (nI t)] h Q := by
  refine wc.go [_] rfl ?_
  refine q_iload_n (pc := 0) rfl rfl ?_
  refine q_iload_n (pc := 1) rfl rfl ?_
  refine q_iconst (pc := 2) rfl (nI 1) (by decide) ?_
  refine q_iushr (pc := 3) rfl ?_
  refine q_ldcW (pc := 4) rfl (nI 1431655765) (by decide) ?_
  refine q_iand (pc := 7) rfl ?_
  refine q_isub (pc := 8) rfl ?_
  refine q_istore_n (pc := 9) [_] rfl (Nat.le_of_ble_eq_true rfl) rfl ?_
  refine q_iload_n (pc := 10) rfl rfl ?_
  refine q_ldcW (pc := 11) rfl (nI 858993459) (by decide) ?_
  refine q_iand (pc := 14) rfl ?_
  refine q_iload_n (pc := 15) rfl rfl ?_
  refine q_iconst (pc := 16) rfl (nI 2) (by decide) ?_
  refine q_iushr (pc := 17) rfl ?_
  refine q_ldcW (pc := 18) rfl (nI 858993459) (by decide) ?_
  refine q_iand (pc := 21) rfl ?_
  refine q_iadd (pc := 22) rfl ?_
  refine q_istore_n (pc := 23) [_] rfl (Nat.le_of_ble_eq_true rfl) rfl ?_
  refine q_iload_n (pc := 24) rfl rfl ?_
  refine q_iload_n (pc := 25) rfl rfl ?_
  refine q_iconst (pc := 26) rfl (nI 4) (by decide) ?_
  refine q_iushr (pc := 27) rfl ?_
  refine q_iadd (pc := 28) rfl ?_
  refine q_ldcW (pc := 29) rfl (nI 252645135) (by decide) ?_
  refine q_iand (pc := 32) rfl ?_
  refine q_istore_n (pc := 33) [_] rfl (Nat.le_of_ble_eq_true rfl) rfl ?_
  refine q_iload_n (pc := 34) rfl rfl ?_
  refine q_iload_n (pc := 35) rfl rfl ?_
  refine q_bipush (pc := 36) rfl (nI 8) (by decide) ?_
  refine q_iushr (pc := 38) rfl ?_
  refine q_iadd (pc := 39) rfl ?_
  refine q_istore_n (pc := 40) [_] rfl (Nat.le_of_ble_eq_true rfl) rfl ?_
  refine q_iload_n (pc := 41) rfl rfl ?_
  refine q_iload_n (pc := 42) rfl rfl ?_
  refine q_bipush (pc := 43) rfl (nI 16) (by decide) ?_
  refine q_iushr (pc := 45) rfl ?_
  refine q_iadd (pc := 46) rfl ?_
  refine q_istore_n (pc := 47) [_] rfl (Nat.le_of_ble_eq_true rfl) rfl ?_
  refine q_iload_n (pc := 48) rfl rfl ?_
  refine q_bipush (pc := 49) rfl (nI 63) (by decide) ?_
  refine q_iand (pc := 51) rfl ?_
  refine q_iret (pc := 52) rfl (rfl) ?_
  rw [← bc32_s t ht] at hq
  exact hq
theorem c_wrongCells (hd : 2 ≤ d) {P : mx_Pm} {s : mx_St} {b : Nat} {β : Nat → Nat} (H : HR P h s) (hl : 51 ≤ P.1) (hb : isB b) (hβ : BT s b β) (hk : ∀ i, i < 72 → β i ≤ 9) (hq : Q (some (.int (nI (popN (wbs β))))) h) : wc d 6 [.ref b] h Q := by
  refine wc.go [_] rfl ?_
  refine q_aload_n (pc := 0) rfl rfl rfl ?_
  refine q_callV (pc := 1) _ rfl rfl rfl (by exact HR.B H hl hb hβ) rfl (Nat.le_of_ble_eq_true rfl) (by omega) _ rfl ?_
  refine c_wbits (by omega) H hl hb hβ hk ?_
  refine q_callS (pc := 4) _ (by decide) rfl rfl rfl rfl (Nat.le_of_ble_eq_true rfl) (by omega) _ rfl ?_
  refine j_bitCount (bset_lt _ _) ?_
  refine q_iret (pc := 7) rfl (rfl) ?_
  exact hq
theorem pop_w (β : Nat → Nat) : popN (wbs β) = cntf (wrn β) 36 := cntf_congr (fun i hi => by unfold wbs; rw [bset_test, decide_eq_true hi, Bool.true_and])
end P23
end
section
/-! ===== texts as they are told on a row of numbers ===== -/
def jn (w x y : Int32) : Int32 := if w = -7 then (if x ≠ 0 ∨ y ≠ 0 then 1 else 0) else if w = -8 then (if x ≠ 0 ∧ y ≠ 0 then 1 else 0) else if w = -9 then (if x = 0 then 1 else 0) else if w = -10 then (if x < y then 1 else 0) else if w = -11 then (if x = y then 1 else 0) else if w = -12 then x + y else if w = -13 then x - y else if w = -14 then x * y else -x
def rpo (sd : Nat → Int32) (w : Int32) (st : List Int32) : Option (List Int32) :=
  if w < -15 then none else if w < -6 then (if w = -9 ∨ w = -15 then (match st with | x :: r => some (jn w x 0 :: r) | _ => none) else (match st with | y :: x :: r => some (jn w x y :: r) | _ => none)) else if w < 0 then some (sd (-1 - w).toNatClampNeg :: st) else some (w :: st)
def rpn (sd : Nat → Int32) (C : Nat → Int32) : Nat → Nat → List Int32 → Option (List Int32)
  | 0, _, st => some st
  | n + 1, i, st => (rpo sd (C i) st).bind (rpn sd C n (i + 1))
/-- what a part of a text tells -/
def tvl (sd : Nat → Int32) (C : Nat → Int32) (u v : Nat) : Int32 := match rpn sd C (v - u) u [] with
  | some (x :: _) => x
  | _ => 0
def wfp (C : Nat → Int32) (u v : Nat) : Prop := ∀ sd, ∃ x, rpn sd C (v - u) u [] = some [x]
/-- where a part begins -/
def pst (E : Nat → Nat) (part : Nat) : Nat := if part = 0 then 0 else E (part - 1)
def txok (C : Nat → Int32) (E : Nat → Nat) : Prop := (E 0 ≤ E 1 ∧ E 1 ≤ E 2 ∧ E 2 ≤ 160) ∧ ∀ part, part < 3 → wfp C (pst E part) (E part)
def TB (P : mx_Pm) (s : mx_St) (C : Nat → Nat → Int32) (E : Nat → Nat → Nat) : Prop := s 31 1 = nI P.2.1 ∧ P.2.1 ≤ 6 ∧ ∀ t, t < P.2.1 → (∀ i, i < E t 2 → s (tid t) i = C t i) ∧ P.2.2.2.2.1 t = E t 2 ∧ (∀ i, i < 3 → s (tid t + 2) i = nI (E t i)) ∧ txok (C t) (E t)
theorem TB.fr {P : mx_Pm} {s s' : mx_St} {C : Nat → Nat → Int32} {E : Nat → Nat → Nat} {S : Nat → Prop} (T : TB P s C E) (f : sf s s' S) (hS : ∀ i, S i → i ≠ 31 ∧ (i < 51 ∨ (53 < i ∧ i < 75))) : TB P s' C E := by
  obtain ⟨h1, h2, h3⟩ := T
  refine ⟨(congrFun (f 31 (fun z => (hS _ z).1 rfl)) 1).trans h1, h2, fun t ht => ?_⟩
  obtain ⟨g1, g2, g3, g4⟩ := h3 t ht
  have := tid_spec t
  exact ⟨fun i hi => (congrFun (f _ (fun z => by have := hS _ z; omega)) i).trans (g1 i hi), g2, fun i hi => (congrFun (f _ (fun z => by have := hS _ z; omega)) i).trans (g3 i hi), g4⟩
def stk (S : Nat → Int32) : List Int32 → Prop
  | [] => True
  | x :: r => S r.length = x ∧ stk S r
theorem stk_up {S : Nat → Int32} {j : Nat} {v : Int32} : ∀ {r : List Int32}, r.length ≤ j → stk S r → stk (upd S j v) r
  | [], _, _ => trivial
  | x :: r, hj, ⟨h1, h2⟩ => ⟨(pk_un (by simp only [List.length_cons] at hj; omega)).trans h1, stk_up (by simp only [List.length_cons] at hj; omega) h2⟩
theorem i32_le {x y : Int32} : x < y ∨ y ≤ x := by
  by_cases h : x < y
  · exact Or.inl h
  · exact Or.inr (Int32.not_lt.mp h)
theorem i32_rng {w lo hi : Int32} (h1 : lo ≤ w) (h2 : w < hi) : lo.toInt ≤ w.toInt ∧ w.toInt < hi.toInt := ⟨Int32.le_iff_toInt_le.mp h1, Int32.lt_iff_toInt_lt.mp h2⟩
theorem i32_is {w : Int32} (z : Int32) (h : w.toInt = z.toInt) : w = z := Int32.toInt_inj.mp h
theorem w_name {w : Int32} (h1 : ¬ w < -6) (h2 : w < 0) : w = -1 ∨ w = -2 ∨ w = -3 ∨ w = -4 ∨ w = -5 ∨ w = -6 := by
  obtain ⟨a, b⟩ := i32_rng (Int32.not_lt.mp h1) h2
  rw [show (-6 : Int32).toInt = -6 by decide] at a
  rw [show (0 : Int32).toInt = 0 by decide] at b
  have h : w.toInt = -1 ∨ w.toInt = -2 ∨ w.toInt = -3 ∨ w.toInt = -4 ∨ w.toInt = -5 ∨ w.toInt = -6 := by omega
  rcases h with e | e | e | e | e | e
  · exact Or.inl (i32_is _ e)
  · exact Or.inr (Or.inl (i32_is _ e))
  · exact Or.inr (Or.inr (Or.inl (i32_is _ e)))
  · exact Or.inr (Or.inr (Or.inr (Or.inl (i32_is _ e))))
  · exact Or.inr (Or.inr (Or.inr (Or.inr (Or.inl (i32_is _ e)))))
  · exact Or.inr (Or.inr (Or.inr (Or.inr (Or.inr (i32_is _ e)))))
theorem w_nameN {w : Int32} (h1 : ¬ w < -6) (h2 : w < 0) : ∃ k, k < 6 ∧ -1 - w = nI k := by
  rcases w_name h1 h2 with rfl | rfl | rfl | rfl | rfl | rfl
  · exact ⟨0, by decide, by decide⟩
  · exact ⟨1, by decide, by decide⟩
  · exact ⟨2, by decide, by decide⟩
  · exact ⟨3, by decide, by decide⟩
  · exact ⟨4, by decide, by decide⟩
  · exact ⟨5, by decide, by decide⟩
theorem w_sign {w : Int32} (h1 : ¬ w < -15) (h2 : w < -6) : w = -7 ∨ w = -8 ∨ w = -9 ∨ w = -10 ∨ w = -11 ∨ w = -12 ∨ w = -13 ∨ w = -14 ∨ w = -15 := by
  obtain ⟨a, b⟩ := i32_rng (Int32.not_lt.mp h1) h2
  rw [show (-15 : Int32).toInt = -15 by decide] at a
  rw [show (-6 : Int32).toInt = -6 by decide] at b
  have h : w.toInt = -7 ∨ w.toInt = -8 ∨ w.toInt = -9 ∨ w.toInt = -10 ∨ w.toInt = -11 ∨ w.toInt = -12 ∨ w.toInt = -13 ∨ w.toInt = -14 ∨ w.toInt = -15 := by omega
  rcases h with e | e | e | e | e | e | e | e | e
  · exact Or.inl (i32_is _ e)
  · exact Or.inr (Or.inl (i32_is _ e))
  · exact Or.inr (Or.inr (Or.inl (i32_is _ e)))
  · exact Or.inr (Or.inr (Or.inr (Or.inl (i32_is _ e))))
  · exact Or.inr (Or.inr (Or.inr (Or.inr (Or.inl (i32_is _ e)))))
  · exact Or.inr (Or.inr (Or.inr (Or.inr (Or.inr (Or.inl (i32_is _ e))))))
  · exact Or.inr (Or.inr (Or.inr (Or.inr (Or.inr (Or.inr (Or.inl (i32_is _ e)))))))
  · exact Or.inr (Or.inr (Or.inr (Or.inr (Or.inr (Or.inr (Or.inr (Or.inl (i32_is _ e))))))))
  · exact Or.inr (Or.inr (Or.inr (Or.inr (Or.inr (Or.inr (Or.inr (Or.inr (i32_is _ e))))))))
/-- what one step of a row of signs was -/
theorem rpo_is {sd : Nat → Int32} {w : Int32} {st st' : List Int32} (h : rpo sd w st = some st') : (¬ w < -6 ∧ w < 0 ∧ st' = sd (-1 - w).toNatClampNeg :: st) ∨ (¬ w < 0 ∧ st' = w :: st) ∨ (¬ w < -15 ∧ w < -6 ∧ (w = -9 ∨ w = -15) ∧ ∃ x r, st = x :: r ∧ st' = jn w x 0 :: r) ∨ (¬ w < -15 ∧ w < -6 ∧ ¬ (w = -9 ∨ w = -15) ∧ ∃ x y r, st = y :: x :: r ∧ st' = jn w x y :: r) := by
  unfold rpo at h
  split at h
  · cases h
  split at h
  · split at h
    · split at h
      · cases h; exact Or.inr (Or.inr (Or.inl ⟨by assumption, by assumption, by assumption, _, _, rfl, rfl⟩))
      · cases h
    · split at h
      · cases h; exact Or.inr (Or.inr (Or.inr ⟨by assumption, by assumption, by assumption, _, _, _, rfl, rfl⟩))
      · cases h
  · split at h
    · cases h; exact Or.inl ⟨by assumption, by assumption, rfl⟩
    · cases h; exact Or.inr (Or.inl ⟨by assumption, rfl⟩)
theorem jn_un {w x y : Int32} (h : w = -9 ∨ w = -15) : jn w x y = jn w x 0 := by rcases h with rfl | rfl <;> rfl
section P24
variable {d k pc a i j c p b t n m part : Nat} {v : Int} {L L' : mx_L} {st r : List Value} {P : mx_Pm} {h : mx_H} {s : mx_St} {Q : Option Value → mx_H → Prop} {x y w : Int32} {β : Nat → Nat} {C : Nat → Nat → Int32} {E : Nat → Nat → Nat}
theorem c_joined (h1 : ¬ w < -15) (h2 : w < -6) (hq : Q (some (.int (jn w x y))) h) : wc d 55 [.int w, .int x, .int y] h Q := by
  unfold jn at hq
  refine wc.go [_, _, _] rfl ?_
  refine q_iload_n (pc := 0) rfl rfl ?_
  rcases w_sign h1 h2 with e | e | e | e | e | e | e | e | e <;> subst e
  · refine q_tsw (pc := 1) (t := 48) rfl (by decide) ?_
    refine q_iload_n (pc := 48) rfl rfl ?_
    refine q_ifne (pc := 49) rfl (fun h49 => ?_) (fun h49 => ?_)
    · refine q_iconst (pc := 56) rfl (nI 1) (by decide) ?_
      refine q_goto (pc := 57) rfl ?_
      refine q_iret (pc := 61) rfl (rfl) ?_
      have hq : Q (some (.int (if x ≠ 0 ∨ y ≠ 0 then 1 else 0))) h := hq
      by_cases q1 : x = 0 <;> by_cases q2 : y = 0 <;> simp only [q1, q2, ne_eq, not_true_eq_false, not_false_eq_true, and_self, and_false, false_and, and_true, true_and, or_self, or_true, true_or, or_false, false_or, if_true, if_false, reduceIte] at hq <;> first | exact hq | contradiction
    · refine q_iload_n (pc := 52) rfl rfl ?_
      refine q_ifeq (pc := 53) rfl (fun h53 => ?_) (fun h53 => ?_)
      · refine q_iconst (pc := 60) rfl (nI 0) (by decide) ?_
        refine q_iret (pc := 61) rfl (rfl) ?_
        have hq : Q (some (.int (if x ≠ 0 ∨ y ≠ 0 then 1 else 0))) h := hq
        by_cases q1 : x = 0 <;> by_cases q2 : y = 0 <;> simp only [q1, q2, ne_eq, not_true_eq_false, not_false_eq_true, and_self, and_false, false_and, and_true, true_and, or_self, or_true, true_or, or_false, false_or, if_true, if_false, reduceIte] at hq <;> first | exact hq | contradiction
      · refine q_iconst (pc := 56) rfl (nI 1) (by decide) ?_
        refine q_goto (pc := 57) rfl ?_
        refine q_iret (pc := 61) rfl (rfl) ?_
        have hq : Q (some (.int (if x ≠ 0 ∨ y ≠ 0 then 1 else 0))) h := hq
        by_cases q1 : x = 0 <;> by_cases q2 : y = 0 <;> simp only [q1, q2, ne_eq, not_true_eq_false, not_false_eq_true, and_self, and_false, false_and, and_true, true_and, or_self, or_true, true_or, or_false, false_or, if_true, if_false, reduceIte] at hq <;> first | exact hq | contradiction
  · refine q_tsw (pc := 1) (t := 62) rfl (by decide) ?_
    refine q_iload_n (pc := 62) rfl rfl ?_
    refine q_ifeq (pc := 63) rfl (fun h63 => ?_) (fun h63 => ?_)
    · refine q_iconst (pc := 74) rfl (nI 0) (by decide) ?_
      refine q_iret (pc := 75) rfl (rfl) ?_
      have hq : Q (some (.int (if x ≠ 0 ∧ y ≠ 0 then 1 else 0))) h := hq
      by_cases q1 : x = 0 <;> by_cases q2 : y = 0 <;> simp only [q1, q2, ne_eq, not_true_eq_false, not_false_eq_true, and_self, and_false, false_and, and_true, true_and, or_self, or_true, true_or, or_false, false_or, if_true, if_false, reduceIte] at hq <;> first | exact hq | contradiction
    · refine q_iload_n (pc := 66) rfl rfl ?_
      refine q_ifeq (pc := 67) rfl (fun h67 => ?_) (fun h67 => ?_)
      · refine q_iconst (pc := 74) rfl (nI 0) (by decide) ?_
        refine q_iret (pc := 75) rfl (rfl) ?_
        have hq : Q (some (.int (if x ≠ 0 ∧ y ≠ 0 then 1 else 0))) h := hq
        by_cases q1 : x = 0 <;> by_cases q2 : y = 0 <;> simp only [q1, q2, ne_eq, not_true_eq_false, not_false_eq_true, and_self, and_false, false_and, and_true, true_and, or_self, or_true, true_or, or_false, false_or, if_true, if_false, reduceIte] at hq <;> first | exact hq | contradiction
      · refine q_iconst (pc := 70) rfl (nI 1) (by decide) ?_
        refine q_goto (pc := 71) rfl ?_
        refine q_iret (pc := 75) rfl (rfl) ?_
        have hq : Q (some (.int (if x ≠ 0 ∧ y ≠ 0 then 1 else 0))) h := hq
        by_cases q1 : x = 0 <;> by_cases q2 : y = 0 <;> simp only [q1, q2, ne_eq, not_true_eq_false, not_false_eq_true, and_self, and_false, false_and, and_true, true_and, or_self, or_true, true_or, or_false, false_or, if_true, if_false, reduceIte] at hq <;> first | exact hq | contradiction
  · refine q_tsw (pc := 1) (t := 76) rfl (by decide) ?_
    refine q_iload_n (pc := 76) rfl rfl ?_
    refine q_ifne (pc := 77) rfl (fun h77 => ?_) (fun h77 => ?_)
    · refine q_iconst (pc := 84) rfl (nI 0) (by decide) ?_
      refine q_iret (pc := 85) rfl (rfl) ?_
      have hq : Q (some (.int (if x = 0 then 1 else 0))) h := hq
      first | (rw [if_pos h77] at hq; exact hq) | (rw [if_neg h77] at hq; exact hq)
    · refine q_iconst (pc := 80) rfl (nI 1) (by decide) ?_
      refine q_goto (pc := 81) rfl ?_
      refine q_iret (pc := 85) rfl (rfl) ?_
      have hq : Q (some (.int (if x = 0 then 1 else 0))) h := hq
      first | (rw [if_pos h77] at hq; exact hq) | (rw [if_neg h77] at hq; exact hq)
  · refine q_tsw (pc := 1) (t := 86) rfl (by decide) ?_
    refine q_iload_n (pc := 86) rfl rfl ?_
    refine q_iload_n (pc := 87) rfl rfl ?_
    refine q_icmpge (pc := 88) rfl (fun h88 => ?_) (fun h88 => ?_)
    · refine q_iconst (pc := 95) rfl (nI 0) (by decide) ?_
      refine q_iret (pc := 96) rfl (rfl) ?_
      have hq : Q (some (.int (if x < y then 1 else 0))) h := hq
      first | (rw [if_neg (Int32.not_lt.mpr h88)] at hq; exact hq) | (rw [if_pos (Int32.not_le.mp h88)] at hq; exact hq)
    · refine q_iconst (pc := 91) rfl (nI 1) (by decide) ?_
      refine q_goto (pc := 92) rfl ?_
      refine q_iret (pc := 96) rfl (rfl) ?_
      have hq : Q (some (.int (if x < y then 1 else 0))) h := hq
      first | (rw [if_neg (Int32.not_lt.mpr h88)] at hq; exact hq) | (rw [if_pos (Int32.not_le.mp h88)] at hq; exact hq)
  · refine q_tsw (pc := 1) (t := 97) rfl (by decide) ?_
    refine q_iload_n (pc := 97) rfl rfl ?_
    refine q_iload_n (pc := 98) rfl rfl ?_
    refine q_icmpne (pc := 99) rfl (fun h99 => ?_) (fun h99 => ?_)
    · refine q_iconst (pc := 106) rfl (nI 0) (by decide) ?_
      refine q_iret (pc := 107) rfl (rfl) ?_
      have hq : Q (some (.int (if x = y then 1 else 0))) h := hq
      first | (rw [if_pos h99] at hq; exact hq) | (rw [if_neg h99] at hq; exact hq)
    · refine q_iconst (pc := 102) rfl (nI 1) (by decide) ?_
      refine q_goto (pc := 103) rfl ?_
      refine q_iret (pc := 107) rfl (rfl) ?_
      have hq : Q (some (.int (if x = y then 1 else 0))) h := hq
      first | (rw [if_pos h99] at hq; exact hq) | (rw [if_neg h99] at hq; exact hq)
  · refine q_tsw (pc := 1) (t := 108) rfl (by decide) ?_
    refine q_iload_n (pc := 108) rfl rfl ?_
    refine q_iload_n (pc := 109) rfl rfl ?_
    refine q_iadd (pc := 110) rfl ?_
    refine q_iret (pc := 111) rfl (rfl) ?_
    exact hq
  · refine q_tsw (pc := 1) (t := 112) rfl (by decide) ?_
    refine q_iload_n (pc := 112) rfl rfl ?_
    refine q_iload_n (pc := 113) rfl rfl ?_
    refine q_isub (pc := 114) rfl ?_
    refine q_iret (pc := 115) rfl (rfl) ?_
    exact hq
  · refine q_tsw (pc := 1) (t := 116) rfl (by decide) ?_
    refine q_iload_n (pc := 116) rfl rfl ?_
    refine q_iload_n (pc := 117) rfl rfl ?_
    refine q_imul (pc := 118) rfl ?_
    refine q_iret (pc := 119) rfl (rfl) ?_
    exact hq
  · refine q_tsw (pc := 1) (t := 120) rfl (by decide) ?_
    refine q_iload_n (pc := 120) rfl rfl ?_
    refine q_ineg (pc := 121) rfl ?_
    refine q_iret (pc := 122) rfl (rfl) ?_
    exact hq
end P24
end
section
/-! ===== the rules: what is said, what a text is worth ===== -/
theorem HR.R {P : mx_Pm} {h : mx_H} {s : mx_St} {n : Nat} (H : HR P h s) (hl : 51 ≤ P.1) (hm : s 31 1 = nI n) : h.2.2 31 = .inr (4, [.ref 32, .int (nI n), .ref 33, .ref 34, .ref 35]) := by
  rw [H.c hl 31 rfl, show hr_c 31 (s 31) = .inr (4, [.ref 32, .int (s 31 1), .ref 33, .ref 34, .ref 35]) from rfl, hm]
theorem HR.tx {P : mx_Pm} {h : mx_H} {s : mx_St} {t : Nat} (H : HR P h s) (ht : t < P.2.1) : h.2.2 (tid t + 1) = .inr (6, [.ref (tid t), .ref (tid t + 2)]) := (H.2.2.2.2.2.1 t ht).2.1
theorem HR.tc {P : mx_Pm} {h : mx_H} {s : mx_St} {t : Nat} {C : Nat → Nat → Int32} {E : Nat → Nat → Nat} (H : HR P h s) (T : TB P s C E) (ht : t < P.2.1) : ia h (tid t) (E t 2) (C t) := ⟨s (tid t), by rw [(H.2.2.2.2.2.1 t ht).1, (T.2.2 t ht).2.1], (T.2.2 t ht).1⟩
theorem HR.te {P : mx_Pm} {h : mx_H} {s : mx_St} {t : Nat} {C : Nat → Nat → Int32} {E : Nat → Nat → Nat} (H : HR P h s) (T : TB P s C E) (ht : t < P.2.1) : ia h (tid t + 2) 3 (fun i => nI (E t i)) := ⟨s (tid t + 2), (H.2.2.2.2.2.1 t ht).2.2, (T.2.2 t ht).2.2.1⟩
/-- what the names tell -/
def sdv (β : Nat → Nat) (c mark num : Nat) (i : Nat) : Int32 := if i = 0 then nI mark else if i = 1 then nI (c / 6) else if i = 2 then nI (c % 6) else if i = 3 then nI (β 89) else if i = 4 then nI num else nI (w4 β c)
theorem p6 {p : Nat} (h : p < 6) : p = 0 ∨ p = 1 ∨ p = 2 ∨ p = 3 ∨ p = 4 ∨ p = 5 := by omega
theorem x_out {j n : Nat} (hj : j < n) (hn : n < 2 ^ 31) (g : nI j < 0 ∨ nI n ≤ nI j) : False := by
  rcases g with z | z
  · exact nI_pos (by omega) z
  · have := x_le z hn (by omega); omega
/-- a rule's parts, bounded; what one takes, lays, what a tide leaves -/
def vtN (C : Nat → Nat → Int32) (E : Nat → Nat → Nat) (β : Nat → Nat) (rule part mark num c : Nat) : Int32 := tvl (sdv β c mark num) (C rule) (pst (E rule) part) (E rule part)
def tkG (C : Nat → Nat → Int32) (E : Nat → Nat → Nat) (β : Nat → Nat) (kind num rule c : Nat) : Nat := max 1 (min (tkb kind num (bdN 0 99 (vtN C E β rule 0 (β (36 + c)) num c)) (β (36 + c))) 99)
def lyG (C : Nat → Nat → Int32) (E : Nat → Nat → Nat) (β : Nat → Nat) (kind num rule c : Nat) : Nat := lyb kind num (bdN 0 9 (vtN C E β rule 1 (β (36 + c)) num c)) (β (36 + c)) c
def lfG (C : Nat → Nat → Int32) (E : Nat → Nat → Nat) (β : Nat → Nat) (rule c : Nat) : Nat := bdN 0 9 (vtN C E β rule 2 (β c) 0 c)
theorem lyb_le {kind num v plan c : Nat} (hv : v ≤ 9) (hp : plan ≤ 9) : lyb kind num v plan c ≤ 9 := by
  have : boyb v c ≤ 9 := by unfold boyb; split <;> omega
  unfold lyb
  repeat' split
  all_goals omega
theorem tkb_le {kind num v plan : Nat} (hv : v ≤ 99) (hn : num ≤ 9) : tkb kind num v plan ≤ 198 := by
  unfold tkb
  repeat' split
  all_goals omega
def tkN (C : Nat → Nat → Int32) (E : Nat → Nat → Nat) (β : Nat → Nat) (p c : Nat) : Nat := tkG C E β (β (72 + 4 * p)) (β (72 + 4 * p + 1)) (β 90) c
def lyN (C : Nat → Nat → Int32) (E : Nat → Nat → Nat) (β : Nat → Nat) (p c : Nat) : Nat := lyG C E β (β (72 + 4 * p)) (β (72 + 4 * p + 1)) (β 90) c
def mnN (C : Nat → Nat → Int32) (E : Nat → Nat → Nat) (β : Nat → Nat) (p c : Nat) : Nat := apN (β (72 + 4 * p + 2)) c + tkN C E β p c
theorem tkG_b (C : Nat → Nat → Int32) (E : Nat → Nat → Nat) (β : Nat → Nat) (kind num rule c : Nat) : 1 ≤ tkG C E β kind num rule c ∧ tkG C E β kind num rule c ≤ 99 := by unfold tkG; omega
theorem lyG_le (C : Nat → Nat → Int32) (E : Nat → Nat → Nat) {β : Nat → Nat} (kind num rule c : Nat) (h : β (36 + c) ≤ 9) : lyG C E β kind num rule c ≤ 9 := lyb_le (bdN_le (by decide)).2 h
/-- one cell relaid -/
def layb (C : Nat → Nat → Int32) (E : Nat → Nat → Nat) (β : Nat → Nat) (p c : Nat) : Nat → Nat := upN (upN (upN β c (lyN C E β p c)) (72 + 4 * p + 2) c) (72 + 4 * p + 3) (min (β (72 + 4 * p + 3) + 1) 9999)
def flob (C : Nat → Nat → Int32) (E : Nat → Nat → Nat) (β : Nat → Nat) (reach : Nat) : Nat → Nat := fun i => if 36 - 6 * reach ≤ i ∧ i < 36 then lfG C E β (β 90) i else if i = 89 then β 89 + 1 else β i
section P25
variable {d k pc a i j c p b t n m part : Nat} {v : Int} {L L' : mx_L} {st r : List Value} {P : mx_Pm} {h : mx_H} {s : mx_St} {Q : Option Value → mx_H → Prop} {x y w : Int32} {β : Nat → Nat} {C : Nat → Nat → Int32} {E : Nat → Nat → Nat}
theorem c_textAt (H : HR P h s) (hl : 51 ≤ P.1) (hm : s 31 1 = nI P.2.1) (h6 : P.2.1 ≤ 6) (ht : ∀ j, j < P.2.1 → x = nI j → Q (some (.ref (tid j + 1))) h) (hf : (x < 0 ∨ nI P.2.1 ≤ x) → Q (some .null) h) : wc d 45 [.ref 31, .int x] h Q := by
  refine wc.go [_, _] rfl ?_
  refine q_iload_n (pc := 0) rfl rfl ?_
  refine q_iflt (pc := 1) rfl (fun h1 => ?_) (fun h1 => ?_)
  · have g : x < 0 ∨ nI P.2.1 ≤ x := Or.inl h1
    refine q_null (pc := 27) rfl ?_
    first | (refine q_aret (pc := 28) rfl rfl ?_; exact ht j (by omega) rfl) | (refine q_aretN (pc := 28) rfl rfl ?_; exact hf g)
  · refine q_iload_n (pc := 4) rfl rfl ?_
    refine q_aload_n (pc := 5) rfl rfl rfl ?_
    refine q_getf (pc := 6) rfl (by exact HR.R H hl hm) rfl rfl ?_
    first | refine n_icmpge (pc := 9) rfl (by omega) (by omega) (fun h9 => ?_) (fun h9 => ?_) | refine q_icmpge (pc := 9) rfl (fun h9 => ?_) (fun h9 => ?_)
    · have g : x < 0 ∨ nI P.2.1 ≤ x := Or.inr h9
      refine q_null (pc := 27) rfl ?_
      first | (refine q_aret (pc := 28) rfl rfl ?_; exact ht j (by omega) rfl) | (refine q_aretN (pc := 28) rfl rfl ?_; exact hf g)
    · obtain ⟨j, hj, rfl⟩ := x_big (by omega) h1 h9
      have hx : j < 6 := by omega
      refine q_iload_n (pc := 12) rfl rfl ?_
      refine q_bipush (pc := 13) rfl (nI 6) (by decide) ?_
      first | refine n_icmpge (pc := 15) rfl (by omega) (by omega) (fun h15 => ?_) (fun h15 => ?_) | refine q_icmpge (pc := 15) rfl (fun h15 => ?_) (fun h15 => ?_)
      · first | (exfalso; omega) | exact absurd h15 (nI_pos (by omega)) | exact absurd (nI_pos' (by omega)) h15
      · refine q_aload_n (pc := 18) rfl rfl rfl ?_
        refine q_getf (pc := 19) rfl (by exact HR.R H hl hm) rfl rfl ?_
        refine q_iload_n (pc := 22) rfl rfl ?_
        refine q_aaload (pc := 23) rfl (by exact H.2.2.2.2.1) (by decide) (by decide) (by exact x_vin hx (by decide)) ?_
        rw [x_cl (by omega), hr_g, if_pos hj]
        refine q_goto (pc := 24) rfl ?_
        first | (refine q_aret (pc := 28) rfl rfl ?_; exact ht j (by omega) rfl) | (refine q_aretN (pc := 28) rfl rfl ?_; exact hf g)
theorem c_say (hd : 1 ≤ d) (H : HR P h s) (hl : 51 ≤ P.1) (hb : isB b) (hβ : BT s b β) (hk : ∀ i, i < 72 → β i ≤ 9) (hc : c < 36) {mark num : Nat} (kk : ∀ h' s', HR P h' s' → sf s s' (fun i => i = 33) → (∀ i, i < 6 → s' 33 i = sdv β c mark num i) → Q none h') : wc d 53 [.ref 31, .ref b, .int (nI c), .int (nI mark), .int (nI num)] h Q := by
  have fr1 : ∀ {s1 : mx_St} {j : Nat} {v : Int32}, BT s1 b β → BT (stv s1 33 j v) b β := fun g => BT.fr (S := fun i => i = 33) g (sf.rf.st rfl) (fun i g1 g2 => by unfold isB at hb; omega)
  refine wc.go [_, _, _, _, _] rfl ?_
  refine q_aload_n (pc := 0) rfl rfl rfl ?_
  refine q_getf (pc := 1) rfl (by first | exact HR.B H hl hb hβ | exact HR.c H hl _ rfl) rfl rfl ?_
  refine q_iconst (pc := 4) rfl (nI 0) (by decide) ?_
  refine q_iload_n (pc := 5) rfl rfl ?_
  refine r_ist2 (pc := 6) rfl H hl rfl (fun _ => rfl) rfl (by omega) (by omega) ?_
  intro h H
  have hβ := fr1 (j := 0) (v := nI mark) hβ
  refine q_aload_n (pc := 7) rfl rfl rfl ?_
  refine q_getf (pc := 8) rfl (by first | exact HR.B H hl hb hβ | exact HR.c H hl _ rfl) rfl rfl ?_
  refine q_iconst (pc := 11) rfl (nI 1) (by decide) ?_
  refine q_iload_n (pc := 12) rfl rfl ?_
  refine q_bipush (pc := 13) rfl (nI 6) (by decide) ?_
  first | refine n_idiv (pc := 15) rfl (by omega) (by omega) (by omega) ?_ | refine q_idiv (pc := 15) rfl (by decide) ?_
  refine r_ist2 (pc := 16) rfl H hl rfl (fun _ => rfl) rfl (by omega) (by omega) ?_
  intro h H
  have hβ := fr1 (j := 1) (v := nI (c / 6)) hβ
  refine q_aload_n (pc := 17) rfl rfl rfl ?_
  refine q_getf (pc := 18) rfl (by first | exact HR.B H hl hb hβ | exact HR.c H hl _ rfl) rfl rfl ?_
  refine q_iconst (pc := 21) rfl (nI 2) (by decide) ?_
  refine q_iload_n (pc := 22) rfl rfl ?_
  refine q_bipush (pc := 23) rfl (nI 6) (by decide) ?_
  first | refine n_irem (pc := 25) rfl (by omega) (by omega) (by omega) ?_ | refine q_irem (pc := 25) rfl (by decide) ?_
  refine r_ist2 (pc := 26) rfl H hl rfl (fun _ => rfl) rfl (by omega) (by omega) ?_
  intro h H
  have hβ := fr1 (j := 2) (v := nI (c % 6)) hβ
  refine q_aload_n (pc := 27) rfl rfl rfl ?_
  refine q_getf (pc := 28) rfl (by first | exact HR.B H hl hb hβ | exact HR.c H hl _ rfl) rfl rfl ?_
  refine q_iconst (pc := 31) rfl (nI 3) (by decide) ?_
  refine q_aload_n (pc := 32) rfl rfl rfl ?_
  refine q_getf (pc := 33) rfl (by first | exact HR.B H hl hb hβ | exact HR.c H hl _ rfl) rfl rfl ?_
  refine r_ist2 (pc := 36) rfl H hl rfl (fun _ => rfl) rfl (by omega) (by omega) ?_
  intro h H
  have hβ := fr1 (j := 3) (v := nI (β 89)) hβ
  refine q_aload_n (pc := 37) rfl rfl rfl ?_
  refine q_getf (pc := 38) rfl (by first | exact HR.B H hl hb hβ | exact HR.c H hl _ rfl) rfl rfl ?_
  refine q_iconst (pc := 41) rfl (nI 4) (by decide) ?_
  refine q_iload (pc := 42) rfl rfl ?_
  refine r_ist2 (pc := 44) rfl H hl rfl (fun _ => rfl) rfl (by omega) (by omega) ?_
  intro h H
  have hβ := fr1 (j := 4) (v := nI num) hβ
  refine q_aload_n (pc := 45) rfl rfl rfl ?_
  refine q_getf (pc := 46) rfl (by first | exact HR.B H hl hb hβ | exact HR.c H hl _ rfl) rfl rfl ?_
  refine q_iconst (pc := 49) rfl (nI 5) (by decide) ?_
  refine q_aload_n (pc := 50) rfl rfl rfl ?_
  refine q_iload_n (pc := 51) rfl rfl ?_
  refine q_callV (pc := 52) _ rfl rfl rfl (by first | exact HR.B H hl hb hβ | exact HR.c H hl _ rfl) rfl (Nat.le_of_ble_eq_true rfl) (by omega) _ rfl ?_
  refine c_wrongBeside H hl hb hβ hk hc ?_
  refine r_ist2 (pc := 55) rfl H hl rfl (fun _ => rfl) rfl (by omega) (by omega) ?_
  intro h H
  refine q_vret (pc := 56) rfl rfl ?_
  refine kk _ _ H ((((((sf.rf.st (by rfl)).st (by rfl)).st (by rfl)).st (by rfl)).st (by rfl)).st (by rfl)) (fun i hi => ?_)
  rcases p6 hi with rfl | rfl | rfl | rfl | rfl | rfl
  · rw [stv_o (by decide), stv_o (by decide), stv_o (by decide), stv_o (by decide), stv_o (by decide), stv_a]; rfl
  · rw [stv_o (by decide), stv_o (by decide), stv_o (by decide), stv_o (by decide), stv_a]; rfl
  · rw [stv_o (by decide), stv_o (by decide), stv_o (by decide), stv_a]; rfl
  · rw [stv_o (by decide), stv_o (by decide), stv_a]; rfl
  · rw [stv_o (by decide), stv_a]; rfl
  · rw [stv_a]; rfl
theorem c_worthL (hd : 1 ≤ d) (hl : 51 ≤ P.1) (ht : t < P.2.1) (hp : part < 3) {sd : Nat → Int32} {s0 : mx_St} {z4 : Int32} (kk : ∀ h' s', HR P h' s' → sf s0 s' (fun i => i = 34) → Q (some (.int w)) h') (n i : Nat) (hn : i + n = E t part) (st : List Int32) (hst : st.length ≤ i) (hr : rpn sd (C t) n i st = some [w]) (h : mx_H) (s : mx_St) (H : HR P h s) (T : TB P s C E) (hsd : ∀ k, k < 6 → s 33 k = sd k) (hs : sf s0 s (fun i => i = 34)) (hk : stk (s 34) st) (z7 z8 : Option Value) : wq d 54 50 [some (.ref 31), some (.int (nI t)), some (.int (nI part)), some (.ref (tid t + 1)), some (.int z4), some (.int (nI st.length)), some (.int (nI i)), z7, z8] [] h Q := by
  have hE : E t part ≤ E t 2 ∧ E t 2 ≤ 160 := by
    have := (T.2.2 t ht).2.2.2.1
    have e : part = 0 ∨ part = 1 ∨ part = 2 := by omega
    rcases e with rfl | rfl | rfl <;> omega
  have hte := HR.te H T ht
  have htc := HR.tc H T ht
  have h6 := T.2.1
  match n, hn, hr with
  | 0, hn, hr =>
    obtain rfl : st = [w] := by unfold rpn at hr; cases hr; rfl
    refine q_iload (pc := 50) rfl rfl ?_
    refine q_aload_n (pc := 52) rfl rfl rfl ?_
    refine q_getf (pc := 53) rfl (by exact HR.tx H ht) rfl rfl ?_
    refine q_iload_n (pc := 56) rfl rfl ?_
    refine n_ild (pc := 57) rfl (by exact hte) rfl (by omega) (by omega) ?_
    first | refine n_icmpge (pc := 58) rfl (by omega) (by omega) (fun h58 => ?_) (fun h58 => ?_) | refine q_icmpge (pc := 58) rfl (fun h58 => ?_) (fun h58 => ?_)
    · refine q_aload_n (pc := 211) rfl rfl rfl ?_
      refine q_getf (pc := 212) rfl (by exact HR.R H hl T.1) rfl rfl ?_
      refine q_iconst (pc := 215) rfl (nI 0) (by decide) ?_
      refine n_ild (pc := 216) rfl (by first | exact HR.am H hl hb hβ | exact HR.ap H hl hb hβ | exact HR.la0 H hl rfl rfl) rfl (by omega) (by omega) ?_
      rw [show s 34 0 = w from hk.1]
      refine q_iret (pc := 217) rfl (rfl) ?_
      exact kk _ _ H hs
    · first | (exfalso; omega) | exact absurd h58 (nI_pos (by omega)) | exact absurd (nI_pos' (by omega)) h58
  | n + 1, hn, hr =>
    obtain ⟨st', e1, e2⟩ := Option.bind_eq_some_iff.mp hr
    rcases rpo_is e1 with ⟨q1, q2, q3⟩ | ⟨q1, q2⟩ | ⟨q1, q2, q3, x, r, q4, q5⟩ | ⟨q1, q2, q3, x, y, r, q4, q5⟩
    · obtain ⟨k, hk6, hkw⟩ := w_nameN q1 q2
      rw [hkw, x_cl (by omega)] at q3
      subst q3
      refine q_iload (pc := 50) rfl rfl ?_
      refine q_aload_n (pc := 52) rfl rfl rfl ?_
      refine q_getf (pc := 53) rfl (by exact HR.tx H ht) rfl rfl ?_
      refine q_iload_n (pc := 56) rfl rfl ?_
      refine n_ild (pc := 57) rfl (by exact hte) rfl (by omega) (by omega) ?_
      first | refine n_icmpge (pc := 58) rfl (by omega) (by omega) (fun h58 => ?_) (fun h58 => ?_) | refine q_icmpge (pc := 58) rfl (fun h58 => ?_) (fun h58 => ?_)
      · first | (exfalso; omega) | exact absurd h58 (nI_pos (by omega)) | exact absurd (nI_pos' (by omega)) h58
      · refine q_iload (pc := 61) rfl rfl ?_
        refine q_aload_n (pc := 63) rfl rfl rfl ?_
        refine q_getf (pc := 64) rfl (by exact HR.tx H ht) rfl rfl ?_
        refine q_alen (pc := 67) rfl (by exact (H.2.2.2.2.2.1 t ht).1.trans (by rw [(T.2.2 t ht).2.1])) (by decide) ?_
        first | refine n_icmpge (pc := 68) rfl (by omega) (by omega) (fun h68 => ?_) (fun h68 => ?_) | refine q_icmpge (pc := 68) rfl (fun h68 => ?_) (fun h68 => ?_)
        · first | (exfalso; omega) | exact absurd h68 (nI_pos (by omega)) | exact absurd (nI_pos' (by omega)) h68
        · refine q_aload_n (pc := 71) rfl rfl rfl ?_
          refine q_getf (pc := 72) rfl (by exact HR.tx H ht) rfl rfl ?_
          refine q_iload (pc := 75) rfl rfl ?_
          refine n_ild (pc := 77) rfl (by exact htc) rfl (by omega) (by omega) ?_
          refine q_istore (pc := 78) [_, _, _, _, _, _, _, _, _] rfl (Nat.le_of_ble_eq_true rfl) rfl ?_
          refine q_iload (pc := 80) rfl rfl ?_
          refine q_bipush (pc := 82) rfl (-6) (by decide) ?_
          refine q_icmplt (pc := 84) rfl (fun h84 => ?_) (fun h84 => ?_)
          · exact absurd h84 q1
          · refine q_iload (pc := 87) rfl rfl ?_
            refine q_iflt (pc := 89) rfl (fun h89 => ?_) (fun h89 => ?_)
            · first | (exfalso; omega) | exact absurd h89 (nI_pos (by omega)) | exact absurd (nI_pos' (by omega)) h89
            · refine q_iload (pc := 92) rfl rfl ?_
              refine q_sipush (pc := 94) rfl (nI 160) (by decide) ?_
              first | refine n_icmpge (pc := 97) rfl (by omega) (by omega) (fun h97 => ?_) (fun h97 => ?_) | refine q_icmpge (pc := 97) rfl (fun h97 => ?_) (fun h97 => ?_)
              · first | (exfalso; omega) | exact absurd h97 (nI_pos (by omega)) | exact absurd (nI_pos' (by omega)) h97
              · refine q_aload_n (pc := 100) rfl rfl rfl ?_
                refine q_getf (pc := 101) rfl (by exact HR.R H hl T.1) rfl rfl ?_
                refine q_iload (pc := 104) rfl rfl ?_
                refine q_iload (pc := 106) rfl rfl ?_
                refine q_ifge (pc := 108) rfl (fun h108 => ?_) (fun h108 => ?_)
                · exact absurd q2 (Int32.not_lt.mpr h108)
                · refine q_aload_n (pc := 111) rfl rfl rfl ?_
                  refine q_getf (pc := 112) rfl (by exact HR.R H hl T.1) rfl rfl ?_
                  refine q_iconst (pc := 115) rfl (-1) (by decide) ?_
                  refine q_iload (pc := 116) rfl rfl ?_
                  refine q_isub (pc := 118) rfl ?_
                  refine n_ild (pc := 119) rfl (by first | exact HR.am H hl hb hβ | exact HR.ap H hl hb hβ | exact HR.la0 H hl rfl rfl) hkw (by omega) (by omega) ?_
                  rw [hsd k hk6]
                  refine q_goto (pc := 120) rfl ?_
                  refine r_ist2 (pc := 125) rfl H hl rfl (fun _ => rfl) rfl (by omega) (by omega) ?_
                  intro h H
                  first | refine n_iinc (pc := 126) rfl [_, _, _, _, _, _, _, _, _] 1 (by decide) rfl rfl ?_ | refine q_iinc (pc := 126) [_, _, _, _, _, _, _, _, _] (1) rfl rfl (by decide) rfl ?_
                  refine q_goto (pc := 129) rfl ?_
                  first | refine n_iinc (pc := 205) rfl [_, _, _, _, _, _, _, _, _] 1 (by decide) rfl rfl ?_ | refine q_iinc (pc := 205) [_, _, _, _, _, _, _, _, _] (1) rfl rfl (by decide) rfl ?_
                  refine q_goto (pc := 208) rfl ?_
                  exact c_worthL hd hl ht hp kk n (i + 1) (by omega) (sd k :: st) (by simp only [List.length_cons]; omega) e2 h _ H (T.fr (S := fun i => i = 34) (sf.rf.st rfl) (fun i hi => by omega)) (fun k' hk' => (congrFun (stv_n (by decide)) _).trans (hsd k' hk')) (hs.st rfl) ⟨stv_a, by rw [stv_s]; exact stk_up (Nat.le_refl _) hk⟩ _ _
    · subst q2
      have q0 : ¬ C t i < -6 := fun z => q1 (Int32.lt_trans z (by decide))
      refine q_iload (pc := 50) rfl rfl ?_
      refine q_aload_n (pc := 52) rfl rfl rfl ?_
      refine q_getf (pc := 53) rfl (by exact HR.tx H ht) rfl rfl ?_
      refine q_iload_n (pc := 56) rfl rfl ?_
      refine n_ild (pc := 57) rfl (by exact hte) rfl (by omega) (by omega) ?_
      first | refine n_icmpge (pc := 58) rfl (by omega) (by omega) (fun h58 => ?_) (fun h58 => ?_) | refine q_icmpge (pc := 58) rfl (fun h58 => ?_) (fun h58 => ?_)
      · first | (exfalso; omega) | exact absurd h58 (nI_pos (by omega)) | exact absurd (nI_pos' (by omega)) h58
      · refine q_iload (pc := 61) rfl rfl ?_
        refine q_aload_n (pc := 63) rfl rfl rfl ?_
        refine q_getf (pc := 64) rfl (by exact HR.tx H ht) rfl rfl ?_
        refine q_alen (pc := 67) rfl (by exact (H.2.2.2.2.2.1 t ht).1.trans (by rw [(T.2.2 t ht).2.1])) (by decide) ?_
        first | refine n_icmpge (pc := 68) rfl (by omega) (by omega) (fun h68 => ?_) (fun h68 => ?_) | refine q_icmpge (pc := 68) rfl (fun h68 => ?_) (fun h68 => ?_)
        · first | (exfalso; omega) | exact absurd h68 (nI_pos (by omega)) | exact absurd (nI_pos' (by omega)) h68
        · refine q_aload_n (pc := 71) rfl rfl rfl ?_
          refine q_getf (pc := 72) rfl (by exact HR.tx H ht) rfl rfl ?_
          refine q_iload (pc := 75) rfl rfl ?_
          refine n_ild (pc := 77) rfl (by exact htc) rfl (by omega) (by omega) ?_
          refine q_istore (pc := 78) [_, _, _, _, _, _, _, _, _] rfl (Nat.le_of_ble_eq_true rfl) rfl ?_
          refine q_iload (pc := 80) rfl rfl ?_
          refine q_bipush (pc := 82) rfl (-6) (by decide) ?_
          refine q_icmplt (pc := 84) rfl (fun h84 => ?_) (fun h84 => ?_)
          · exact absurd h84 q0
          · refine q_iload (pc := 87) rfl rfl ?_
            refine q_iflt (pc := 89) rfl (fun h89 => ?_) (fun h89 => ?_)
            · first | (exfalso; omega) | exact absurd h89 (nI_pos (by omega)) | exact absurd (nI_pos' (by omega)) h89
            · refine q_iload (pc := 92) rfl rfl ?_
              refine q_sipush (pc := 94) rfl (nI 160) (by decide) ?_
              first | refine n_icmpge (pc := 97) rfl (by omega) (by omega) (fun h97 => ?_) (fun h97 => ?_) | refine q_icmpge (pc := 97) rfl (fun h97 => ?_) (fun h97 => ?_)
              · first | (exfalso; omega) | exact absurd h97 (nI_pos (by omega)) | exact absurd (nI_pos' (by omega)) h97
              · refine q_aload_n (pc := 100) rfl rfl rfl ?_
                refine q_getf (pc := 101) rfl (by exact HR.R H hl T.1) rfl rfl ?_
                refine q_iload (pc := 104) rfl rfl ?_
                refine q_iload (pc := 106) rfl rfl ?_
                refine q_ifge (pc := 108) rfl (fun h108 => ?_) (fun h108 => ?_)
                · refine q_iload (pc := 123) rfl rfl ?_
                  refine r_ist2 (pc := 125) rfl H hl rfl (fun _ => rfl) rfl (by omega) (by omega) ?_
                  intro h H
                  first | refine n_iinc (pc := 126) rfl [_, _, _, _, _, _, _, _, _] 1 (by decide) rfl rfl ?_ | refine q_iinc (pc := 126) [_, _, _, _, _, _, _, _, _] (1) rfl rfl (by decide) rfl ?_
                  refine q_goto (pc := 129) rfl ?_
                  first | refine n_iinc (pc := 205) rfl [_, _, _, _, _, _, _, _, _] 1 (by decide) rfl rfl ?_ | refine q_iinc (pc := 205) [_, _, _, _, _, _, _, _, _] (1) rfl rfl (by decide) rfl ?_
                  refine q_goto (pc := 208) rfl ?_
                  exact c_worthL hd hl ht hp kk n (i + 1) (by omega) (C t i :: st) (by simp only [List.length_cons]; omega) e2 h _ H (T.fr (S := fun i => i = 34) (sf.rf.st rfl) (fun i hi => by omega)) (fun k' hk' => (congrFun (stv_n (by decide)) _).trans (hsd k' hk')) (hs.st rfl) ⟨stv_a, by rw [stv_s]; exact stk_up (Nat.le_refl _) hk⟩ _ _
                · exact absurd (Int32.not_lt.mp q1) h108
    · subst q4
      subst q5
      have hlen : (x :: r).length = r.length + 1 := rfl
      have hlen2 : (x :: r).length - 1 = r.length := rfl
      have hx : s 34 r.length = x := hk.1
      refine q_iload (pc := 50) rfl rfl ?_
      refine q_aload_n (pc := 52) rfl rfl rfl ?_
      refine q_getf (pc := 53) rfl (by exact HR.tx H ht) rfl rfl ?_
      refine q_iload_n (pc := 56) rfl rfl ?_
      refine n_ild (pc := 57) rfl (by exact hte) rfl (by omega) (by omega) ?_
      first | refine n_icmpge (pc := 58) rfl (by omega) (by omega) (fun h58 => ?_) (fun h58 => ?_) | refine q_icmpge (pc := 58) rfl (fun h58 => ?_) (fun h58 => ?_)
      · first | (exfalso; omega) | exact absurd h58 (nI_pos (by omega)) | exact absurd (nI_pos' (by omega)) h58
      · refine q_iload (pc := 61) rfl rfl ?_
        refine q_aload_n (pc := 63) rfl rfl rfl ?_
        refine q_getf (pc := 64) rfl (by exact HR.tx H ht) rfl rfl ?_
        refine q_alen (pc := 67) rfl (by exact (H.2.2.2.2.2.1 t ht).1.trans (by rw [(T.2.2 t ht).2.1])) (by decide) ?_
        first | refine n_icmpge (pc := 68) rfl (by omega) (by omega) (fun h68 => ?_) (fun h68 => ?_) | refine q_icmpge (pc := 68) rfl (fun h68 => ?_) (fun h68 => ?_)
        · first | (exfalso; omega) | exact absurd h68 (nI_pos (by omega)) | exact absurd (nI_pos' (by omega)) h68
        · refine q_aload_n (pc := 71) rfl rfl rfl ?_
          refine q_getf (pc := 72) rfl (by exact HR.tx H ht) rfl rfl ?_
          refine q_iload (pc := 75) rfl rfl ?_
          refine n_ild (pc := 77) rfl (by exact htc) rfl (by omega) (by omega) ?_
          refine q_istore (pc := 78) [_, _, _, _, _, _, _, _, _] rfl (Nat.le_of_ble_eq_true rfl) rfl ?_
          refine q_iload (pc := 80) rfl rfl ?_
          refine q_bipush (pc := 82) rfl (-6) (by decide) ?_
          refine q_icmplt (pc := 84) rfl (fun h84 => ?_) (fun h84 => ?_)
          · refine q_iload (pc := 132) rfl rfl ?_
            refine q_bipush (pc := 134) rfl (-9) (by decide) ?_
            refine q_icmpeq (pc := 136) rfl (fun h136 => ?_) (fun h136 => ?_)
            · refine q_iload (pc := 146) rfl rfl ?_
              refine q_goto (pc := 148) rfl ?_
              refine q_istore (pc := 155) [_, _, _, _, _, _, _, _, _] rfl (Nat.le_of_ble_eq_true rfl) rfl ?_
              refine q_iload (pc := 157) rfl rfl ?_
              refine q_iconst (pc := 159) rfl (nI 1) (by decide) ?_
              first | refine n_icmplt (pc := 160) rfl (by omega) (by omega) (fun h160 => ?_) (fun h160 => ?_) | refine q_icmplt (pc := 160) rfl (fun h160 => ?_) (fun h160 => ?_)
              · first | (exfalso; omega) | exact absurd h160 (nI_pos (by omega)) | exact absurd (nI_pos' (by omega)) h160
              · refine q_iload (pc := 163) rfl rfl ?_
                refine q_sipush (pc := 165) rfl (nI 160) (by decide) ?_
                first | refine n_icmpge (pc := 168) rfl (by omega) (by omega) (fun h168 => ?_) (fun h168 => ?_) | refine q_icmpge (pc := 168) rfl (fun h168 => ?_) (fun h168 => ?_)
                · first | (exfalso; omega) | exact absurd h168 (nI_pos (by omega)) | exact absurd (nI_pos' (by omega)) h168
                · refine q_aload_n (pc := 171) rfl rfl rfl ?_
                  refine q_getf (pc := 172) rfl (by exact HR.R H hl T.1) rfl rfl ?_
                  refine q_iload (pc := 175) rfl rfl ?_
                  refine q_iconst (pc := 177) rfl (nI 1) (by decide) ?_
                  first | refine n_isub (pc := 178) rfl (by omega) ?_ | refine q_isub (pc := 178) rfl ?_
                  rw [hlen2]
                  refine q_iload (pc := 179) rfl rfl ?_
                  refine q_aload_n (pc := 181) rfl rfl rfl ?_
                  refine q_getf (pc := 182) rfl (by exact HR.R H hl T.1) rfl rfl ?_
                  refine q_iload (pc := 185) rfl rfl ?_
                  refine q_iconst (pc := 187) rfl (nI 1) (by decide) ?_
                  first | refine n_isub (pc := 188) rfl (by omega) ?_ | refine q_isub (pc := 188) rfl ?_
                  rw [hlen2]
                  refine n_ild (pc := 189) rfl (by first | exact HR.am H hl hb hβ | exact HR.ap H hl hb hβ | exact HR.la0 H hl rfl rfl) rfl (by omega) (by omega) ?_
                  rw [hx]
                  refine q_aload_n (pc := 190) rfl rfl rfl ?_
                  refine q_getf (pc := 191) rfl (by exact HR.R H hl T.1) rfl rfl ?_
                  refine q_iload (pc := 194) rfl rfl ?_
                  refine n_ild (pc := 196) rfl (by first | exact HR.am H hl hb hβ | exact HR.ap H hl hb hβ | exact HR.la0 H hl rfl rfl) rfl (by omega) (by omega) ?_
                  refine q_callS (pc := 197) _ (by decide) rfl rfl rfl rfl (Nat.le_of_ble_eq_true rfl) (by omega) _ rfl ?_
                  refine c_joined q1 q2 ?_
                  rw [jn_un q3]
                  refine r_ist2 (pc := 200) rfl H hl rfl (fun _ => rfl) rfl (by omega) (by omega) ?_
                  intro h H
                  refine q_iload (pc := 201) rfl rfl ?_
                  refine q_istore (pc := 203) [_, _, _, _, _, _, _, _, _] rfl (Nat.le_of_ble_eq_true rfl) rfl ?_
                  first | refine n_iinc (pc := 205) rfl [_, _, _, _, _, _, _, _, _] 1 (by decide) rfl rfl ?_ | refine q_iinc (pc := 205) [_, _, _, _, _, _, _, _, _] (1) rfl rfl (by decide) rfl ?_
                  refine q_goto (pc := 208) rfl ?_
                  exact c_worthL hd hl ht hp kk n (i + 1) (by omega) (jn (C t i) x 0 :: r) (by simp only [List.length_cons] at hst ⊢; omega) e2 h _ H (T.fr (S := fun i => i = 34) (sf.rf.st rfl) (fun i hi => by omega)) (fun k' hk' => (congrFun (stv_n (by decide)) _).trans (hsd k' hk')) (hs.st rfl) ⟨stv_a, by rw [stv_s]; exact stk_up (Nat.le_refl _) hk.2⟩ _ _
            · refine q_iload (pc := 139) rfl rfl ?_
              refine q_bipush (pc := 141) rfl (-15) (by decide) ?_
              refine q_icmpne (pc := 143) rfl (fun h143 => ?_) (fun h143 => ?_)
              · exact (q3.elim h136 h143).elim
              · refine q_iload (pc := 146) rfl rfl ?_
                refine q_goto (pc := 148) rfl ?_
                refine q_istore (pc := 155) [_, _, _, _, _, _, _, _, _] rfl (Nat.le_of_ble_eq_true rfl) rfl ?_
                refine q_iload (pc := 157) rfl rfl ?_
                refine q_iconst (pc := 159) rfl (nI 1) (by decide) ?_
                first | refine n_icmplt (pc := 160) rfl (by omega) (by omega) (fun h160 => ?_) (fun h160 => ?_) | refine q_icmplt (pc := 160) rfl (fun h160 => ?_) (fun h160 => ?_)
                · first | (exfalso; omega) | exact absurd h160 (nI_pos (by omega)) | exact absurd (nI_pos' (by omega)) h160
                · refine q_iload (pc := 163) rfl rfl ?_
                  refine q_sipush (pc := 165) rfl (nI 160) (by decide) ?_
                  first | refine n_icmpge (pc := 168) rfl (by omega) (by omega) (fun h168 => ?_) (fun h168 => ?_) | refine q_icmpge (pc := 168) rfl (fun h168 => ?_) (fun h168 => ?_)
                  · first | (exfalso; omega) | exact absurd h168 (nI_pos (by omega)) | exact absurd (nI_pos' (by omega)) h168
                  · refine q_aload_n (pc := 171) rfl rfl rfl ?_
                    refine q_getf (pc := 172) rfl (by exact HR.R H hl T.1) rfl rfl ?_
                    refine q_iload (pc := 175) rfl rfl ?_
                    refine q_iconst (pc := 177) rfl (nI 1) (by decide) ?_
                    first | refine n_isub (pc := 178) rfl (by omega) ?_ | refine q_isub (pc := 178) rfl ?_
                    rw [hlen2]
                    refine q_iload (pc := 179) rfl rfl ?_
                    refine q_aload_n (pc := 181) rfl rfl rfl ?_
                    refine q_getf (pc := 182) rfl (by exact HR.R H hl T.1) rfl rfl ?_
                    refine q_iload (pc := 185) rfl rfl ?_
                    refine q_iconst (pc := 187) rfl (nI 1) (by decide) ?_
                    first | refine n_isub (pc := 188) rfl (by omega) ?_ | refine q_isub (pc := 188) rfl ?_
                    rw [hlen2]
                    refine n_ild (pc := 189) rfl (by first | exact HR.am H hl hb hβ | exact HR.ap H hl hb hβ | exact HR.la0 H hl rfl rfl) rfl (by omega) (by omega) ?_
                    rw [hx]
                    refine q_aload_n (pc := 190) rfl rfl rfl ?_
                    refine q_getf (pc := 191) rfl (by exact HR.R H hl T.1) rfl rfl ?_
                    refine q_iload (pc := 194) rfl rfl ?_
                    refine n_ild (pc := 196) rfl (by first | exact HR.am H hl hb hβ | exact HR.ap H hl hb hβ | exact HR.la0 H hl rfl rfl) rfl (by omega) (by omega) ?_
                    refine q_callS (pc := 197) _ (by decide) rfl rfl rfl rfl (Nat.le_of_ble_eq_true rfl) (by omega) _ rfl ?_
                    refine c_joined q1 q2 ?_
                    rw [jn_un q3]
                    refine r_ist2 (pc := 200) rfl H hl rfl (fun _ => rfl) rfl (by omega) (by omega) ?_
                    intro h H
                    refine q_iload (pc := 201) rfl rfl ?_
                    refine q_istore (pc := 203) [_, _, _, _, _, _, _, _, _] rfl (Nat.le_of_ble_eq_true rfl) rfl ?_
                    first | refine n_iinc (pc := 205) rfl [_, _, _, _, _, _, _, _, _] 1 (by decide) rfl rfl ?_ | refine q_iinc (pc := 205) [_, _, _, _, _, _, _, _, _] (1) rfl rfl (by decide) rfl ?_
                    refine q_goto (pc := 208) rfl ?_
                    exact c_worthL hd hl ht hp kk n (i + 1) (by omega) (jn (C t i) x 0 :: r) (by simp only [List.length_cons] at hst ⊢; omega) e2 h _ H (T.fr (S := fun i => i = 34) (sf.rf.st rfl) (fun i hi => by omega)) (fun k' hk' => (congrFun (stv_n (by decide)) _).trans (hsd k' hk')) (hs.st rfl) ⟨stv_a, by rw [stv_s]; exact stk_up (Nat.le_refl _) hk.2⟩ _ _
          · exact absurd q2 h84
    · subst q4
      subst q5
      have hlen : (y :: x :: r).length = r.length + 2 := rfl
      have hlen1 : (y :: x :: r).length - 1 = r.length + 1 := rfl
      have hlen2 : r.length + 1 - 1 = r.length := rfl
      have hy : s 34 (r.length + 1) = y := hk.1
      have hx : s 34 r.length = x := hk.2.1
      have hl1 : (jn (C t i) x y :: r).length = r.length + 1 := rfl
      refine q_iload (pc := 50) rfl rfl ?_
      refine q_aload_n (pc := 52) rfl rfl rfl ?_
      refine q_getf (pc := 53) rfl (by exact HR.tx H ht) rfl rfl ?_
      refine q_iload_n (pc := 56) rfl rfl ?_
      refine n_ild (pc := 57) rfl (by exact hte) rfl (by omega) (by omega) ?_
      first | refine n_icmpge (pc := 58) rfl (by omega) (by omega) (fun h58 => ?_) (fun h58 => ?_) | refine q_icmpge (pc := 58) rfl (fun h58 => ?_) (fun h58 => ?_)
      · first | (exfalso; omega) | exact absurd h58 (nI_pos (by omega)) | exact absurd (nI_pos' (by omega)) h58
      · refine q_iload (pc := 61) rfl rfl ?_
        refine q_aload_n (pc := 63) rfl rfl rfl ?_
        refine q_getf (pc := 64) rfl (by exact HR.tx H ht) rfl rfl ?_
        refine q_alen (pc := 67) rfl (by exact (H.2.2.2.2.2.1 t ht).1.trans (by rw [(T.2.2 t ht).2.1])) (by decide) ?_
        first | refine n_icmpge (pc := 68) rfl (by omega) (by omega) (fun h68 => ?_) (fun h68 => ?_) | refine q_icmpge (pc := 68) rfl (fun h68 => ?_) (fun h68 => ?_)
        · first | (exfalso; omega) | exact absurd h68 (nI_pos (by omega)) | exact absurd (nI_pos' (by omega)) h68
        · refine q_aload_n (pc := 71) rfl rfl rfl ?_
          refine q_getf (pc := 72) rfl (by exact HR.tx H ht) rfl rfl ?_
          refine q_iload (pc := 75) rfl rfl ?_
          refine n_ild (pc := 77) rfl (by exact htc) rfl (by omega) (by omega) ?_
          refine q_istore (pc := 78) [_, _, _, _, _, _, _, _, _] rfl (Nat.le_of_ble_eq_true rfl) rfl ?_
          refine q_iload (pc := 80) rfl rfl ?_
          refine q_bipush (pc := 82) rfl (-6) (by decide) ?_
          refine q_icmplt (pc := 84) rfl (fun h84 => ?_) (fun h84 => ?_)
          · refine q_iload (pc := 132) rfl rfl ?_
            refine q_bipush (pc := 134) rfl (-9) (by decide) ?_
            refine q_icmpeq (pc := 136) rfl (fun h136 => ?_) (fun h136 => ?_)
            · exact absurd (Or.inl h136) q3
            · refine q_iload (pc := 139) rfl rfl ?_
              refine q_bipush (pc := 141) rfl (-15) (by decide) ?_
              refine q_icmpne (pc := 143) rfl (fun h143 => ?_) (fun h143 => ?_)
              · refine q_iload (pc := 151) rfl rfl ?_
                refine q_iconst (pc := 153) rfl (nI 1) (by decide) ?_
                first | refine n_isub (pc := 154) rfl (by omega) ?_ | refine q_isub (pc := 154) rfl ?_
                rw [hlen1]
                refine q_istore (pc := 155) [_, _, _, _, _, _, _, _, _] rfl (Nat.le_of_ble_eq_true rfl) rfl ?_
                refine q_iload (pc := 157) rfl rfl ?_
                refine q_iconst (pc := 159) rfl (nI 1) (by decide) ?_
                first | refine n_icmplt (pc := 160) rfl (by omega) (by omega) (fun h160 => ?_) (fun h160 => ?_) | refine q_icmplt (pc := 160) rfl (fun h160 => ?_) (fun h160 => ?_)
                · first | (exfalso; omega) | exact absurd h160 (nI_pos (by omega)) | exact absurd (nI_pos' (by omega)) h160
                · refine q_iload (pc := 163) rfl rfl ?_
                  refine q_sipush (pc := 165) rfl (nI 160) (by decide) ?_
                  first | refine n_icmpge (pc := 168) rfl (by omega) (by omega) (fun h168 => ?_) (fun h168 => ?_) | refine q_icmpge (pc := 168) rfl (fun h168 => ?_) (fun h168 => ?_)
                  · first | (exfalso; omega) | exact absurd h168 (nI_pos (by omega)) | exact absurd (nI_pos' (by omega)) h168
                  · refine q_aload_n (pc := 171) rfl rfl rfl ?_
                    refine q_getf (pc := 172) rfl (by exact HR.R H hl T.1) rfl rfl ?_
                    refine q_iload (pc := 175) rfl rfl ?_
                    refine q_iconst (pc := 177) rfl (nI 1) (by decide) ?_
                    first | refine n_isub (pc := 178) rfl (by omega) ?_ | refine q_isub (pc := 178) rfl ?_
                    rw [hlen2]
                    refine q_iload (pc := 179) rfl rfl ?_
                    refine q_aload_n (pc := 181) rfl rfl rfl ?_
                    refine q_getf (pc := 182) rfl (by exact HR.R H hl T.1) rfl rfl ?_
                    refine q_iload (pc := 185) rfl rfl ?_
                    refine q_iconst (pc := 187) rfl (nI 1) (by decide) ?_
                    first | refine n_isub (pc := 188) rfl (by omega) ?_ | refine q_isub (pc := 188) rfl ?_
                    rw [hlen2]
                    refine n_ild (pc := 189) rfl (by first | exact HR.am H hl hb hβ | exact HR.ap H hl hb hβ | exact HR.la0 H hl rfl rfl) rfl (by omega) (by omega) ?_
                    rw [hx]
                    refine q_aload_n (pc := 190) rfl rfl rfl ?_
                    refine q_getf (pc := 191) rfl (by exact HR.R H hl T.1) rfl rfl ?_
                    refine q_iload (pc := 194) rfl rfl ?_
                    refine n_ild (pc := 196) rfl (by first | exact HR.am H hl hb hβ | exact HR.ap H hl hb hβ | exact HR.la0 H hl rfl rfl) rfl (by omega) (by omega) ?_
                    rw [hy]
                    refine q_callS (pc := 197) _ (by decide) rfl rfl rfl rfl (Nat.le_of_ble_eq_true rfl) (by omega) _ rfl ?_
                    refine c_joined q1 q2 ?_
                    refine r_ist2 (pc := 200) rfl H hl rfl (fun _ => rfl) rfl (by omega) (by omega) ?_
                    intro h H
                    refine q_iload (pc := 201) rfl rfl ?_
                    refine q_istore (pc := 203) [_, _, _, _, _, _, _, _, _] rfl (Nat.le_of_ble_eq_true rfl) rfl ?_
                    first | refine n_iinc (pc := 205) rfl [_, _, _, _, _, _, _, _, _] 1 (by decide) rfl rfl ?_ | refine q_iinc (pc := 205) [_, _, _, _, _, _, _, _, _] (1) rfl rfl (by decide) rfl ?_
                    refine q_goto (pc := 208) rfl ?_
                    exact c_worthL hd hl ht hp kk n (i + 1) (by omega) (jn (C t i) x y :: r) (by simp only [List.length_cons] at hst ⊢; omega) e2 h _ H (T.fr (S := fun i => i = 34) (sf.rf.st rfl) (fun i hi => by omega)) (fun k' hk' => (congrFun (stv_n (by decide)) _).trans (hsd k' hk')) (hs.st rfl) ⟨stv_a, by rw [stv_s]; exact stk_up (Nat.le_refl _) hk.2.2⟩ _ _
              · exact absurd (Or.inr h143) q3
          · exact absurd q2 h84
termination_by n
theorem c_worth (hd : 1 ≤ d) (hl : 51 ≤ P.1) (H : HR P h s) (T : TB P s C E) (ht : t < P.2.1) (hp : part < 3) {sd : Nat → Int32} (hsd : ∀ k, k < 6 → s 33 k = sd k) (kk : ∀ h' s', HR P h' s' → sf s s' (fun i => i = 34) → Q (some (.int (tvl sd (C t) (pst (E t) part) (E t part)))) h') : wc d 54 [.ref 31, .int (nI t), .int (nI part)] h Q := by
  obtain ⟨w, hw⟩ := (T.2.2 t ht).2.2.2.2 part hp sd
  have hv : tvl sd (C t) (pst (E t) part) (E t part) = w := by unfold tvl; rw [hw]
  rw [hv] at kk
  have hte := HR.te H T ht
  obtain ⟨hE1, hE2, hE3⟩ := (T.2.2 t ht).2.2.2.1
  have hpE : pst (E t) part ≤ E t part := by
    have e : part = 0 ∨ part = 1 ∨ part = 2 := by omega
    rcases e with rfl | rfl | rfl
    · exact Nat.zero_le _
    · exact hE1
    · exact hE2
  have hpE2 : pst (E t) part ≤ 160 := by
    have e : part = 0 ∨ part = 1 ∨ part = 2 := by omega
    rcases e with rfl | rfl | rfl
    · exact Nat.zero_le _
    · show E t 0 ≤ 160; omega
    · show E t 1 ≤ 160; omega
  have t37 : wq d 54 37 [some (.ref 31), some (.int (nI t)), some (.int (nI part)), some (.ref (tid t + 1)), none, none, none, none, none] [.int (nI (pst (E t) part))] h Q := by
    refine q_istore (pc := 37) [_, _, _, _, _, _, _, _, _] rfl (Nat.le_of_ble_eq_true rfl) rfl ?_
    refine q_iconst (pc := 39) rfl (nI 0) (by decide) ?_
    refine q_istore (pc := 40) [_, _, _, _, _, _, _, _, _] rfl (Nat.le_of_ble_eq_true rfl) rfl ?_
    refine q_iload (pc := 42) rfl rfl ?_
    refine q_iconst (pc := 44) rfl (nI 0) (by decide) ?_
    first | refine n_max (pc := 45) rfl rfl (by omega) (by omega) ?_ | refine q_max (pc := 45) rfl rfl ?_
    rw [show max (pst (E t) part) 0 = pst (E t) part by omega]
    refine q_istore (pc := 48) [_, _, _, _, _, _, _, _, _] rfl (Nat.le_of_ble_eq_true rfl) rfl ?_
    exact c_worthL hd hl ht hp kk (E t part - pst (E t) part) (pst (E t) part) (by omega) [] (Nat.zero_le _) hw h s H T hsd sf.rf trivial _ _
  refine wc.go [_, _, _, _, _, _, _, _, _] rfl ?_
  refine q_aload_n (pc := 0) rfl rfl rfl ?_
  refine q_iload_n (pc := 1) rfl rfl ?_
  refine q_callV (pc := 2) _ rfl rfl rfl (by exact HR.R H hl T.1) rfl (Nat.le_of_ble_eq_true rfl) (by omega) _ rfl ?_
  refine c_textAt H hl T.1 T.2.1 (fun j hj hx => ?_) (fun g => ?_)
  · obtain rfl : t = j := x_eq hx (by have := T.2.1; omega) (by have := T.2.1; omega)
    refine q_astore_n (pc := 5) [_, _, _, _, _, _, _, _, _] rfl rfl (Nat.le_of_ble_eq_true rfl) rfl ?_
    refine q_aload_n (pc := 6) rfl rfl rfl ?_
    refine q_ifnull (pc := 7) rfl ?_
    refine q_iload_n (pc := 10) rfl rfl ?_
    refine q_iflt (pc := 11) rfl (fun h11 => ?_) (fun h11 => ?_)
    · first | (exfalso; omega) | exact absurd h11 (nI_pos (by omega)) | exact absurd (nI_pos' (by omega)) h11
    · refine q_iload_n (pc := 14) rfl rfl ?_
      refine q_iconst (pc := 15) rfl (nI 3) (by decide) ?_
      first | refine n_icmplt (pc := 16) rfl (by omega) (by omega) (fun h16 => ?_) (fun h16 => ?_) | refine q_icmplt (pc := 16) rfl (fun h16 => ?_) (fun h16 => ?_)
      · refine q_iload_n (pc := 21) rfl rfl ?_
        first | refine n_ifne (pc := 22) rfl (by omega) (fun h22 => ?_) (fun h22 => ?_) | refine q_ifne (pc := 22) rfl (fun h22 => ?_) (fun h22 => ?_)
        · refine q_aload_n (pc := 29) rfl rfl rfl ?_
          refine q_getf (pc := 30) rfl (by exact HR.tx H ht) rfl rfl ?_
          refine q_iload_n (pc := 33) rfl rfl ?_
          refine q_iconst (pc := 34) rfl (nI 1) (by decide) ?_
          first | refine n_isub (pc := 35) rfl (by omega) ?_ | refine q_isub (pc := 35) rfl ?_
          refine n_ild (pc := 36) rfl (by exact hte) rfl (by omega) (by omega) ?_
          first | (rw [pst, if_pos h22] at t37; exact t37) | (rw [pst, if_neg h22] at t37; exact t37)
        · refine q_iconst (pc := 25) rfl (nI 0) (by decide) ?_
          refine q_goto (pc := 26) rfl ?_
          first | (rw [pst, if_pos h22] at t37; exact t37) | (rw [pst, if_neg h22] at t37; exact t37)
      · first | (exfalso; omega) | exact absurd h16 (nI_pos (by omega)) | exact absurd (nI_pos' (by omega)) h16
  · exact (x_out ht (by have := T.2.1; omega) g).elim
theorem scr_B (hb : isB b) {S : Nat → Prop} (hS : ∀ i, S i → 33 ≤ i ∧ i < 42) : ∀ i, b ≤ i → i < b + 8 → ¬ S i := fun i g1 g2 z => by have := hS i z; unfold isB at hb; omega
theorem c_takesOf (hd : 2 ≤ d) (H : HR P h s) (hl : 51 ≤ P.1) (hb : isB b) (hβ : BT s b β) (T : TB P s C E) (hk : bok β P.2.1) (hp : p < 4) (hc : c < 36) (kk : ∀ h' s', HR P h' s' → sf s s' (fun i => 33 ≤ i ∧ i < 36) → Q (some (.int (nI (tkN C E β p c)))) h') : wc d 46 [.ref 31, .ref b, .ref (b + 4 + p), .int (nI c)] h Q := by
  have hk1 := hk.2.1 p hp
  have hk2 := hk.1 (36 + c) (by omega)
  have hR := hk.2.2.2.2
  have hv : bdN 0 99 (vtN C E β (β 90) 0 (β (36 + c)) (β (72 + 4 * p + 1)) c) ≤ 99 := (bdN_le (by decide)).2
  have hv2 := tkb_le (kind := β (72 + 4 * p)) (num := β (72 + 4 * p + 1)) (plan := β (36 + c)) hv hk1.2.1
  refine wc.go [_, _, _, _, _, _] rfl ?_
  refine q_aload_n (pc := 0) rfl rfl rfl ?_
  refine q_iload_n (pc := 1) rfl rfl ?_
  refine q_callV (pc := 2) _ rfl rfl rfl (by exact HR.B H hl hb hβ) rfl (Nat.le_of_ble_eq_true rfl) (by omega) _ rfl ?_
  refine c_planOf (by omega) H hl hb hβ (by omega) ?_
  refine q_istore (pc := 5) [_, _, _, _, _, _] rfl (Nat.le_of_ble_eq_true rfl) rfl ?_
  refine q_aload_n (pc := 7) rfl rfl rfl ?_
  refine q_aload_n (pc := 8) rfl rfl rfl ?_
  refine q_iload_n (pc := 9) rfl rfl ?_
  refine q_iload (pc := 10) rfl rfl ?_
  refine q_aload_n (pc := 12) rfl rfl rfl ?_
  refine q_getf (pc := 13) rfl (by exact HR.O H hl hb hβ hp) rfl rfl ?_
  refine q_callV (pc := 16) _ rfl rfl rfl (by exact HR.R H hl T.1) rfl (Nat.le_of_ble_eq_true rfl) (by omega) _ rfl ?_
  refine c_say (by omega) H hl hb hβ hk.1 hc ?_
  intro h s1 H k1 k2
  have hβ := hβ.fr k1 (scr_B hb (fun i e => by omega))
  have T := T.fr k1 (fun i e => by omega)
  refine q_aload_n (pc := 19) rfl rfl rfl ?_
  refine q_aload_n (pc := 20) rfl rfl rfl ?_
  refine q_getf (pc := 21) rfl (by exact HR.B H hl hb hβ) rfl rfl ?_
  refine q_iconst (pc := 24) rfl (nI 0) (by decide) ?_
  refine q_callV (pc := 25) _ rfl rfl rfl (by exact HR.R H hl T.1) rfl (Nat.le_of_ble_eq_true rfl) (by omega) _ rfl ?_
  refine c_worth (by omega) hl H T hR (by decide) k2 ?_
  intro h s2 H k3
  have hβ := hβ.fr k3 (scr_B hb (fun i e => by omega))
  rw [show tvl (sdv β c (β (36 + c)) (β (72 + 4 * p + 1))) (C (β 90)) (pst (E (β 90)) 0) (E (β 90) 0) = vtN C E β (β 90) 0 (β (36 + c)) (β (72 + 4 * p + 1)) c from rfl]
  refine q_iconst (pc := 28) rfl (nI 0) (by decide) ?_
  refine q_bipush (pc := 29) rfl (nI 99) (by decide) ?_
  refine q_callS (pc := 31) _ (by decide) rfl rfl rfl rfl (Nat.le_of_ble_eq_true rfl) (by omega) _ rfl ?_
  refine c_boundX (by decide) (by decide) ?_
  refine q_istore (pc := 34) [_, _, _, _, _, _] rfl (Nat.le_of_ble_eq_true rfl) rfl ?_
  refine q_aload_n (pc := 36) rfl rfl rfl ?_
  refine q_iload (pc := 37) rfl rfl ?_
  refine q_iload (pc := 39) rfl rfl ?_
  refine q_callV (pc := 41) _ rfl rfl rfl (by exact HR.O H hl hb hβ hp) rfl (Nat.le_of_ble_eq_true rfl) (by omega) _ rfl ?_
  refine c_takesBy H hl hb hβ hp hk hv hk2 ?_
  refine q_iconst (pc := 44) rfl (nI 1) (by decide) ?_
  refine q_bipush (pc := 45) rfl (nI 99) (by decide) ?_
  refine q_callS (pc := 47) _ (by decide) rfl rfl rfl rfl (Nat.le_of_ble_eq_true rfl) (by omega) _ rfl ?_
  refine c_boundX (by decide) (by decide) ?_
  rw [bdN_n (by omega)]
  refine q_iret (pc := 50) rfl (rfl) ?_
  exact kk _ _ H ((k1.mono (fun i e => by omega)).tr (k3.mono (fun i e => by omega)))
theorem c_laysOf (hd : 2 ≤ d) (H : HR P h s) (hl : 51 ≤ P.1) (hb : isB b) (hβ : BT s b β) (T : TB P s C E) (hk : bok β P.2.1) (hp : p < 4) (hc : c < 36) (kk : ∀ h' s', HR P h' s' → sf s s' (fun i => 33 ≤ i ∧ i < 36) → Q (some (.int (nI (lyN C E β p c)))) h') : wc d 47 [.ref 31, .ref b, .ref (b + 4 + p), .int (nI c)] h Q := by
  have hk1 := hk.2.1 p hp
  have hk2 := hk.1 (36 + c) (by omega)
  have hR := hk.2.2.2.2
  have hv : bdN 0 9 (vtN C E β (β 90) 1 (β (36 + c)) (β (72 + 4 * p + 1)) c) ≤ 9 := (bdN_le (by decide)).2
  have hv2 := lyb_le (kind := β (72 + 4 * p)) (num := β (72 + 4 * p + 1)) (plan := β (36 + c)) (c := c) hv hk2
  refine wc.go [_, _, _, _, _, _] rfl ?_
  refine q_aload_n (pc := 0) rfl rfl rfl ?_
  refine q_iload_n (pc := 1) rfl rfl ?_
  refine q_callV (pc := 2) _ rfl rfl rfl (by exact HR.B H hl hb hβ) rfl (Nat.le_of_ble_eq_true rfl) (by omega) _ rfl ?_
  refine c_planOf (by omega) H hl hb hβ (by omega) ?_
  refine q_istore (pc := 5) [_, _, _, _, _, _] rfl (Nat.le_of_ble_eq_true rfl) rfl ?_
  refine q_aload_n (pc := 7) rfl rfl rfl ?_
  refine q_aload_n (pc := 8) rfl rfl rfl ?_
  refine q_iload_n (pc := 9) rfl rfl ?_
  refine q_iload (pc := 10) rfl rfl ?_
  refine q_aload_n (pc := 12) rfl rfl rfl ?_
  refine q_getf (pc := 13) rfl (by exact HR.O H hl hb hβ hp) rfl rfl ?_
  refine q_callV (pc := 16) _ rfl rfl rfl (by exact HR.R H hl T.1) rfl (Nat.le_of_ble_eq_true rfl) (by omega) _ rfl ?_
  refine c_say (by omega) H hl hb hβ hk.1 hc ?_
  intro h s1 H k1 k2
  have hβ := hβ.fr k1 (scr_B hb (fun i e => by omega))
  have T := T.fr k1 (fun i e => by omega)
  refine q_aload_n (pc := 19) rfl rfl rfl ?_
  refine q_aload_n (pc := 20) rfl rfl rfl ?_
  refine q_getf (pc := 21) rfl (by exact HR.B H hl hb hβ) rfl rfl ?_
  refine q_iconst (pc := 24) rfl (nI 1) (by decide) ?_
  refine q_callV (pc := 25) _ rfl rfl rfl (by exact HR.R H hl T.1) rfl (Nat.le_of_ble_eq_true rfl) (by omega) _ rfl ?_
  refine c_worth (by omega) hl H T hR (by decide) k2 ?_
  intro h s2 H k3
  have hβ := hβ.fr k3 (scr_B hb (fun i e => by omega))
  rw [show tvl (sdv β c (β (36 + c)) (β (72 + 4 * p + 1))) (C (β 90)) (pst (E (β 90)) 1) (E (β 90) 1) = vtN C E β (β 90) 1 (β (36 + c)) (β (72 + 4 * p + 1)) c from rfl]
  refine q_iconst (pc := 28) rfl (nI 0) (by decide) ?_
  refine q_bipush (pc := 29) rfl (nI 9) (by decide) ?_
  refine q_callS (pc := 31) _ (by decide) rfl rfl rfl rfl (Nat.le_of_ble_eq_true rfl) (by omega) _ rfl ?_
  refine c_boundX (by decide) (by decide) ?_
  refine q_istore (pc := 34) [_, _, _, _, _, _] rfl (Nat.le_of_ble_eq_true rfl) rfl ?_
  refine q_aload_n (pc := 36) rfl rfl rfl ?_
  refine q_iload (pc := 37) rfl rfl ?_
  refine q_iload (pc := 39) rfl rfl ?_
  refine q_iload_n (pc := 41) rfl rfl ?_
  refine q_callV (pc := 42) _ rfl rfl rfl (by exact HR.O H hl hb hβ hp) rfl (Nat.le_of_ble_eq_true rfl) (by omega) _ rfl ?_
  refine c_laysBy H hl hb hβ hp hk hv hk2 hc ?_
  refine q_iconst (pc := 45) rfl (nI 0) (by decide) ?_
  refine q_bipush (pc := 46) rfl (nI 9) (by decide) ?_
  refine q_callS (pc := 48) _ (by decide) rfl rfl rfl rfl (Nat.le_of_ble_eq_true rfl) (by omega) _ rfl ?_
  refine c_boundX (by decide) (by decide) ?_
  rw [bdN_n (by omega), show max 0 (min (lyb (β (72 + 4 * p)) (β (72 + 4 * p + 1)) (bdN 0 9 (vtN C E β (β 90) 1 (β (36 + c)) (β (72 + 4 * p + 1)) c)) (β (36 + c)) c) 9) = lyN C E β p c from by unfold lyN lyG; omega]
  refine q_iret (pc := 51) rfl (rfl) ?_
  exact kk _ _ H ((k1.mono (fun i e => by omega)).tr (k3.mono (fun i e => by omega)))
theorem c_leftOf (hd : 2 ≤ d) (H : HR P h s) (hl : 51 ≤ P.1) (hb : isB b) (hβ : BT s b β) (T : TB P s C E) (hk : bok β P.2.1) (hc : c < 36) (kk : ∀ h' s', HR P h' s' → sf s s' (fun i => 33 ≤ i ∧ i < 35) → Q (some (.int (nI (lfG C E β (β 90) c)))) h') : wc d 48 [.ref 31, .ref b, .int (nI c)] h Q := by
  have hR := hk.2.2.2.2
  refine wc.go [_, _, _] rfl ?_
  refine q_aload_n (pc := 0) rfl rfl rfl ?_
  refine q_aload_n (pc := 1) rfl rfl rfl ?_
  refine q_iload_n (pc := 2) rfl rfl ?_
  refine q_iload_n (pc := 3) rfl rfl ?_
  refine q_callS (pc := 4) _ (by decide) rfl rfl rfl rfl (Nat.le_of_ble_eq_true rfl) (by omega) _ rfl ?_
  refine c_cellN (by omega) ?_
  · refine q_ifeq (pc := 7) rfl (fun z => absurd z (by decide)) (fun _ => ?_)
    refine q_aload_n (pc := 10) rfl rfl rfl ?_
    refine q_getf (pc := 11) rfl (by exact HR.B H hl hb hβ) rfl rfl ?_
    refine q_iload_n (pc := 14) rfl rfl ?_
    refine n_ild (pc := 15) rfl (by first | exact HR.am H hl hb hβ | exact HR.ap H hl hb hβ | exact HR.la0 H hl rfl rfl) rfl (by omega) (by omega) ?_
    refine q_goto (pc := 16) rfl ?_
    refine q_iconst (pc := 20) rfl (nI 0) (by decide) ?_
    refine q_callV (pc := 21) _ rfl rfl rfl (by exact HR.R H hl T.1) rfl (Nat.le_of_ble_eq_true rfl) (by omega) _ rfl ?_
    refine c_say (by omega) H hl hb hβ hk.1 hc ?_
    intro h s1 H k1 k2
    have hβ := hβ.fr k1 (scr_B hb (fun i e => by omega))
    have T := T.fr k1 (fun i e => by omega)
    refine q_aload_n (pc := 24) rfl rfl rfl ?_
    refine q_aload_n (pc := 25) rfl rfl rfl ?_
    refine q_getf (pc := 26) rfl (by exact HR.B H hl hb hβ) rfl rfl ?_
    refine q_iconst (pc := 29) rfl (nI 2) (by decide) ?_
    refine q_callV (pc := 30) _ rfl rfl rfl (by exact HR.R H hl T.1) rfl (Nat.le_of_ble_eq_true rfl) (by omega) _ rfl ?_
    refine c_worth (by omega) hl H T hR (by decide) k2 ?_
    intro h s2 H k3
    rw [show tvl (sdv β c (β c) 0) (C (β 90)) (pst (E (β 90)) 2) (E (β 90) 2) = vtN C E β (β 90) 2 (β c) 0 c from rfl]
    refine q_iconst (pc := 33) rfl (nI 0) (by decide) ?_
    refine q_bipush (pc := 34) rfl (nI 9) (by decide) ?_
    refine q_callS (pc := 36) _ (by decide) rfl rfl rfl rfl (Nat.le_of_ble_eq_true rfl) (by omega) _ rfl ?_
    refine c_boundX (by decide) (by decide) ?_
    refine q_iret (pc := 39) rfl (rfl) ?_
    exact kk _ _ H ((k1.mono (fun i e => by omega)).tr (k3.mono (fun i e => by omega)))
theorem c_minutesOf (hd : 3 ≤ d) (H : HR P h s) (hl : 51 ≤ P.1) (hb : isB b) (hβ : BT s b β) (T : TB P s C E) (hk : bok β P.2.1) (hp : p < 4) (hc : c < 36) (kk : ∀ h' s', HR P h' s' → sf s s' (fun i => 33 ≤ i ∧ i < 36) → Q (some (.int (nI (mnN C E β p c)))) h') : wc d 49 [.ref 31, .ref b, .ref (b + 4 + p), .int (nI c)] h Q := by
  have hk1 := hk.2.1 p hp
  refine wc.go [_, _, _, _] rfl ?_
  refine q_aload_n (pc := 0) rfl rfl rfl ?_
  refine q_getf (pc := 1) rfl (by exact HR.O H hl hb hβ hp) rfl rfl ?_
  refine q_iload_n (pc := 4) rfl rfl ?_
  refine q_callS (pc := 5) _ (by decide) rfl rfl rfl rfl (Nat.le_of_ble_eq_true rfl) (by omega) _ rfl ?_
  refine c_apart (by omega) (by omega) ?_
  refine q_aload_n (pc := 8) rfl rfl rfl ?_
  refine q_aload_n (pc := 9) rfl rfl rfl ?_
  refine q_aload_n (pc := 10) rfl rfl rfl ?_
  refine q_iload_n (pc := 11) rfl rfl ?_
  refine q_callV (pc := 12) _ rfl rfl rfl (by exact HR.R H hl T.1) rfl (Nat.le_of_ble_eq_true rfl) (by omega) _ rfl ?_
  refine c_takesOf (by omega) H hl hb hβ T hk hp hc ?_
  intro h s1 H k1
  first | refine n_iadd (pc := 15) rfl ?_ | refine q_iadd (pc := 15) rfl ?_
  refine q_iret (pc := 16) rfl (rfl) ?_
  exact kk _ _ H k1
theorem c_lay (hd : 3 ≤ d) (H : HR P h s) (hl : 51 ≤ P.1) (hb : isB b) (hβ : BT s b β) (T : TB P s C E) (hk : bok β P.2.1) (hp : p < 4) (hc : c < 36) (kk : ∀ h' s', HR P h' s' → BT s' b (layb C E β p c) → TB P s' C E → sf s s' (fun i => (b ≤ i ∧ i < b + 8) ∨ (33 ≤ i ∧ i < 36)) → Q (some (.int (nI (mnN C E β p c)))) h') : wc d 50 [.ref 31, .ref b, .ref (b + 4 + p), .int (nI c)] h Q := by
  have hk1 := hk.2.1 p hp
  have hb4 : b ≤ 17 := by unfold isB at hb; omega
  refine wc.go [_, _, _, _, _] rfl ?_
  refine q_iload_n (pc := 0) rfl rfl ?_
  refine q_callS (pc := 1) _ (by decide) rfl rfl rfl rfl (Nat.le_of_ble_eq_true rfl) (by omega) _ rfl ?_
  refine c_cellN (by omega) ?_
  · refine q_ifne (pc := 4) rfl (fun _ => ?_) (fun z => absurd z (by decide))
    refine q_aload_n (pc := 9) rfl rfl rfl ?_
    refine q_getf (pc := 10) rfl (by exact HR.O H hl hb hβ hp) rfl rfl ?_
    refine q_iload_n (pc := 13) rfl rfl ?_
    refine q_callS (pc := 14) _ (by decide) rfl rfl rfl rfl (Nat.le_of_ble_eq_true rfl) (by omega) _ rfl ?_
    refine c_apart (by omega) (by omega) ?_
    refine q_aload_n (pc := 17) rfl rfl rfl ?_
    refine q_aload_n (pc := 18) rfl rfl rfl ?_
    refine q_aload_n (pc := 19) rfl rfl rfl ?_
    refine q_iload_n (pc := 20) rfl rfl ?_
    refine q_callV (pc := 21) _ rfl rfl rfl (by exact HR.R H hl T.1) rfl (Nat.le_of_ble_eq_true rfl) (by omega) _ rfl ?_
    refine c_takesOf (by omega) H hl hb hβ T hk hp hc ?_
    intro h s1 H k1
    have hβ := hβ.fr k1 (scr_B hb (fun i e => e.imp (by omega) (by omega)))
    have T := T.fr k1 (fun i e => by omega)
    first | refine n_iadd (pc := 24) rfl ?_ | refine q_iadd (pc := 24) rfl ?_
    refine q_istore (pc := 25) [_, _, _, _, _] rfl (Nat.le_of_ble_eq_true rfl) rfl ?_
    refine q_aload_n (pc := 27) rfl rfl rfl ?_
    refine q_getf (pc := 28) rfl (by exact HR.B H hl hb hβ) rfl rfl ?_
    refine q_iload_n (pc := 31) rfl rfl ?_
    refine q_aload_n (pc := 32) rfl rfl rfl ?_
    refine q_aload_n (pc := 33) rfl rfl rfl ?_
    refine q_aload_n (pc := 34) rfl rfl rfl ?_
    refine q_iload_n (pc := 35) rfl rfl ?_
    refine q_callV (pc := 36) _ rfl rfl rfl (by exact HR.R H hl T.1) rfl (Nat.le_of_ble_eq_true rfl) (by omega) _ rfl ?_
    refine c_laysOf (by omega) H hl hb hβ T hk hp hc ?_
    intro h s2 H k2
    have hβ := hβ.fr k2 (scr_B hb (fun i e => e.imp (by omega) (by omega)))
    have T := T.fr k2 (fun i e => by omega)
    refine r_ist2 (pc := 39) rfl H hl (okB1 hb) (ecB1 hb) rfl (by omega) (by omega) ?_
    intro h H
    have hβ := BT.pt (v := lyN C E β p c) (c := b + 1) (i := c) hβ (Or.inl ⟨rfl, hc, rfl⟩)
    refine q_aload_n (pc := 40) rfl rfl rfl ?_
    refine q_iload_n (pc := 41) rfl rfl ?_
    refine r_pf2 (pc := 42) (i := 2) rfl H hl (okO hb hp) (ecO hb hp _) rfl rfl (Nat.le_of_ble_eq_true rfl) rfl (ecO hb hp _) ?_
    intro h H
    have hβ := BT.pt (v := c) (c := b + 4 + p) (i := 2) hβ (Or.inr (Or.inr (Or.inl ⟨_, hp, rfl, by decide, rfl⟩)))
    refine q_aload_n (pc := 45) rfl rfl rfl ?_
    refine q_aload_n (pc := 46) rfl rfl rfl ?_
    refine q_getf (pc := 47) rfl (by exact HR.O H hl hb hβ hp) rfl rfl ?_
    rw [upN_n (by omega), upN_n (by omega)]
    refine q_iconst (pc := 50) rfl (nI 1) (by decide) ?_
    first | refine n_iadd (pc := 51) rfl ?_ | refine q_iadd (pc := 51) rfl ?_
    refine q_sipush (pc := 52) rfl (nI 9999) (by decide) ?_
    first | refine n_min (pc := 55) rfl rfl (by omega) (by omega) ?_ | refine q_min (pc := 55) rfl rfl ?_
    refine r_pf2 (pc := 58) (i := 3) rfl H hl (okO hb hp) (ecO hb hp _) rfl rfl (Nat.le_of_ble_eq_true rfl) rfl (ecO hb hp _) ?_
    intro h H
    have hβ := BT.pt (v := min (β (72 + 4 * p + 3) + 1) 9999) (c := b + 4 + p) (i := 3) hβ (Or.inr (Or.inr (Or.inl ⟨_, hp, rfl, by decide, rfl⟩)))
    refine q_iload (pc := 61) rfl rfl ?_
    refine q_iret (pc := 63) rfl (rfl) ?_
    exact kk _ _ H hβ (T.fr (S := fun i => b ≤ i ∧ i < b + 8) (((sf.rf.st (by omega)).st (by omega)).st (by omega)) (fun i e => by omega)) ((((((k1.mono (fun i e => by omega)).tr (k2.mono (fun i e => by omega)))).st (by omega)).st (by omega)).st (by omega))
end P25
end
section
/-! ===== a tide, a night ===== -/
def tru (C : Nat → Nat → Int32) (E : Nat → Nat → Nat) (β : Nat → Nat) (p c : Nat) : Bool := decide (lyN C E β p c = β (36 + c))
def ngt (C : Nat → Nat → Int32) (E : Nat → Nat → Nat) (p m : Nat) : Nat → (Nat → Nat) → Nat → Nat → Nat → (Nat → Nat) × Nat × Nat
  | 0, β, _, sp, rl => (β, sp, rl)
  | n + 1, β, dn, sp, rl => if nst (nfr β dn) (apN (β (72 + 4 * p + 2))) 36 = 36 ∨ m - sp < mnN C E β p (nst (nfr β dn) (apN (β (72 + 4 * p + 2))) 36) then (β, sp, rl) else ngt C E p m n (layb C E β p (nst (nfr β dn) (apN (β (72 + 4 * p + 2))) 36)) (dn ||| 2 ^ nst (nfr β dn) (apN (β (72 + 4 * p + 2))) 36) (sp + mnN C E β p (nst (nfr β dn) (apN (β (72 + 4 * p + 2))) 36)) (rl + 1)
theorem bok_lay {C : Nat → Nat → Int32} {E : Nat → Nat → Nat} {β : Nat → Nat} {n p c : Nat} (hk : bok β n) (hp : p < 4) (hc : c < 36) : bok (layb C E β p c) n := by
  obtain ⟨h1, h2, h3, h4, h5⟩ := hk
  have hl := lyG_le C E (β := β) (β (72 + 4 * p)) (β (72 + 4 * p + 1)) (β 90) c (h1 _ (by omega))
  unfold layb upN lyN
  have hmin : min (β (72 + 4 * p + 3) + 1) 9999 ≤ 9999 := Nat.min_le_right _ _
  generalize min (β (72 + 4 * p + 3) + 1) 9999 = mz at hmin
  generalize lyG C E β (β (72 + 4 * p)) (β (72 + 4 * p + 1)) (β 90) c = lz at hl
  refine ⟨fun i hi => ?_, fun q hq => ?_, ?_, ?_, ?_⟩
  · have := h1 i hi
    dsimp only
    repeat' split
    all_goals omega
  · obtain ⟨g1, g2, g3, g4⟩ := h2 q hq
    refine ⟨?_, ?_, ?_, ?_⟩ <;> dsimp only <;> (repeat' split) <;> omega
  · dsimp only
    repeat' split
    all_goals omega
  · dsimp only
    repeat' split
    all_goals omega
  · dsimp only
    repeat' split
    all_goals omega
theorem bok_flo {C : Nat → Nat → Int32} {E : Nat → Nat → Nat} {β : Nat → Nat} {n r : Nat} (hk : bok β n) (h9 : β 89 ≤ 999) : bok (flob C E β r) n := by
  obtain ⟨h1, h2, h3, h4, h5⟩ := hk
  have hl : ∀ c, lfG C E β (β 90) c ≤ 9 := fun c => (bdN_le (by decide)).2
  unfold flob
  refine ⟨fun i hi => ?_, fun q hq => ?_, ?_, ?_, ?_⟩
  · have := h1 i hi
    have := hl i
    dsimp only
    repeat' split
    all_goals omega
  · obtain ⟨g1, g2, g3, g4⟩ := h2 q hq
    refine ⟨?_, ?_, ?_, ?_⟩ <;> dsimp only <;> (repeat' split) <;> omega
  · dsimp only
    repeat' split
    all_goals omega
  · dsimp only
    repeat' split
    all_goals omega
  · dsimp only
    repeat' split
    all_goals omega
theorem mnN_le {C : Nat → Nat → Int32} {E : Nat → Nat → Nat} {β : Nat → Nat} {n p c : Nat} (hk : bok β n) (hp : p < 4) (hc : c < 36) : mnN C E β p c ≤ 109 := by
  have h1 := apN_le (hk.2.1 p hp).2.2.1 hc
  have h2 := tkG_b C E β (β (72 + 4 * p)) (β (72 + 4 * p + 1)) (β 90) c
  unfold mnN tkN
  omega
/-- the first of the marks are what the tide left -/
def flo1 (C : Nat → Nat → Int32) (E : Nat → Nat → Nat) (β : Nat → Nat) (f c : Nat) : Nat → Nat := fun i => if f ≤ i ∧ i < c then lfG C E β (β 90) i else β i
theorem flo1_s (C : Nat → Nat → Int32) (E : Nat → Nat → Nat) (β : Nat → Nat) {f c : Nat} (h : f ≤ c) : upN (flo1 C E β f c) c (lfG C E β (β 90) c) = flo1 C E β f (c + 1) := by
  funext i
  unfold upN flo1
  by_cases e : i = c
  · subst e; rw [if_pos rfl, if_pos (by omega)]
  · rw [if_neg e]
    by_cases g : f ≤ i ∧ i < c
    · rw [if_pos g, if_pos (by omega)]
    · rw [if_neg g, if_neg (by omega)]
theorem flo1_0 (C : Nat → Nat → Int32) (E : Nat → Nat → Nat) (β : Nat → Nat) (f : Nat) : flo1 C E β f f = β := by
  funext i
  unfold flo1
  rw [if_neg (by omega)]
section P26
variable {d k pc a i j c p b t n m part : Nat} {v : Int} {L L' : mx_L} {st r : List Value} {P : mx_Pm} {h : mx_H} {s : mx_St} {Q : Option Value → mx_H → Prop} {x y w : Int32} {β : Nat → Nat} {C : Nat → Nat → Int32} {E : Nat → Nat → Nat}
theorem c_flood1 (hd : 3 ≤ d) (hl : 51 ≤ P.1) (hb : isB b) (hk : bok β P.2.1) {s0 : mx_St} {x0 : Int32} {f : Nat} (kk : ∀ h' s', HR P h' s' → BT s' b β → TB P s' C E → sf s0 s' (fun i => 33 ≤ i ∧ i < 36) → (∀ j, f ≤ j → j < 36 → s' 35 j = nI (lfG C E β (β 90) j)) → wq d 51 44 [some (.ref 31), some (.ref b), some (.int x0), some (.int (nI f)), some (.int (nI 36))] [] h' Q) (c : Nat) (hc : f ≤ c ∧ c ≤ 36) (h : mx_H) (s : mx_St) (H : HR P h s) (hβ : BT s b β) (T : TB P s C E) (hs : sf s0 s (fun i => 33 ≤ i ∧ i < 36)) (hj : ∀ j, f ≤ j → j < c → s 35 j = nI (lfG C E β (β 90) j)) : wq d 51 17 [some (.ref 31), some (.ref b), some (.int x0), some (.int (nI f)), some (.int (nI c))] [] h Q := by
  refine q_iload (pc := 17) rfl rfl ?_
  refine q_bipush (pc := 19) rfl (nI 36) (by decide) ?_
  first | refine n_icmpge (pc := 21) rfl (by omega) (by omega) (fun h21 => ?_) (fun h21 => ?_) | refine q_icmpge (pc := 21) rfl (fun h21 => ?_) (fun h21 => ?_)
  · obtain rfl : c = 36 := by omega
    exact kk _ _ H hβ T hs hj
  · refine q_aload_n (pc := 24) rfl rfl rfl ?_
    refine q_getf (pc := 25) rfl (by exact HR.R H hl T.1) rfl rfl ?_
    refine q_iload (pc := 28) rfl rfl ?_
    refine q_aload_n (pc := 30) rfl rfl rfl ?_
    refine q_aload_n (pc := 31) rfl rfl rfl ?_
    refine q_iload (pc := 32) rfl rfl ?_
    refine q_callV (pc := 34) _ rfl rfl rfl (by exact HR.R H hl T.1) rfl (Nat.le_of_ble_eq_true rfl) (by omega) _ rfl ?_
    refine c_leftOf (by omega) H hl hb hβ T hk h21 ?_
    intro h s1 H k1
    have hβ := hβ.fr k1 (scr_B hb (fun i e => by omega))
    have T := T.fr k1 (fun i e => by omega)
    refine r_ist2 (pc := 37) rfl H hl rfl (fun _ => rfl) rfl (by omega) (by omega) ?_
    intro h H
    first | refine n_iinc (pc := 38) rfl [_, _, _, _, _] 1 (by decide) rfl rfl ?_ | refine q_iinc (pc := 38) [_, _, _, _, _] (1) rfl rfl (by decide) rfl ?_
    refine q_goto (pc := 41) rfl ?_
    refine c_flood1 hd hl hb hk kk (c + 1) (by omega) h _ H (hβ.fr (S := fun i => i = 35) (sf.rf.st rfl) (scr_B hb (fun i e => by omega))) (T.fr (S := fun i => i = 35) (sf.rf.st rfl) (fun i e => by omega)) ((hs.tr (k1.mono (fun i e => by omega))).st (by omega)) (fun j g1 g2 => ?_)
    by_cases e : j = c
    · subst e; exact stv_a
    · rw [stv_o e, k1 35 (by omega)]; exact hj j g1 (by omega)
termination_by 36 - c
theorem c_flood2 (hl : 51 ≤ P.1) (hb : isB b) {s0 : mx_St} {x0 : Int32} {f : Nat} (h9 : β 89 ≤ 1000) (kk : ∀ h' s', HR P h' s' → BT s' b (upN (flo1 C E β f 36) 89 (β 89 + 1)) → TB P s' C E → sf s0 s' (fun i => (b ≤ i ∧ i < b + 8) ∨ (33 ≤ i ∧ i < 36)) → Q none h') (c : Nat) (hc : f ≤ c ∧ c ≤ 36) (h : mx_H) (s : mx_St) (H : HR P h s) (hβ : BT s b (flo1 C E β f c)) (T : TB P s C E) (hs : sf s0 s (fun i => (b ≤ i ∧ i < b + 8) ∨ (33 ≤ i ∧ i < 36))) (hj : ∀ j, f ≤ j → j < 36 → s 35 j = nI (lfG C E β (β 90) j)) : wq d 51 47 [some (.ref 31), some (.ref b), some (.int x0), some (.int (nI f)), some (.int (nI c))] [] h Q := by
  have hb4 : b ≤ 17 := by unfold isB at hb; omega
  have e89 : flo1 C E β f c 89 = β 89 := by unfold flo1; rw [if_neg (by omega)]
  refine q_iload (pc := 47) rfl rfl ?_
  refine q_bipush (pc := 49) rfl (nI 36) (by decide) ?_
  first | refine n_icmpge (pc := 51) rfl (by omega) (by omega) (fun h51 => ?_) (fun h51 => ?_) | refine q_icmpge (pc := 51) rfl (fun h51 => ?_) (fun h51 => ?_)
  · refine q_aload_n (pc := 74) rfl rfl rfl ?_
    refine q_dup (pc := 75) rfl rfl ?_
    refine q_getf (pc := 76) rfl (by exact HR.B H hl hb hβ) rfl rfl ?_
    rw [e89]
    refine q_iconst (pc := 79) rfl (nI 1) (by decide) ?_
    first | refine n_iadd (pc := 80) rfl ?_ | refine q_iadd (pc := 80) rfl ?_
    refine r_pf2 (pc := 81) (i := 4) rfl H hl (okB hb) (ecB hb _) rfl rfl (Nat.le_of_ble_eq_true rfl) rfl (ecB hb _) ?_
    intro h H
    have hβ := BT.pt (v := β 89 + 1) (c := b) (i := 4) (j := 89) hβ (Or.inr (Or.inr (Or.inr ⟨rfl, by decide, by decide, rfl⟩)))
    refine q_vret (pc := 84) rfl rfl ?_
    obtain rfl : c = 36 := by omega
    exact kk _ _ H hβ (T.fr (S := fun i => i = b) (sf.rf.st rfl) (fun i e => by omega)) (hs.st (by omega))
  · refine q_aload_n (pc := 54) rfl rfl rfl ?_
    refine q_getf (pc := 55) rfl (by exact HR.B H hl hb hβ) rfl rfl ?_
    refine q_iload (pc := 58) rfl rfl ?_
    refine q_aload_n (pc := 60) rfl rfl rfl ?_
    refine q_getf (pc := 61) rfl (by exact HR.R H hl T.1) rfl rfl ?_
    refine q_iload (pc := 64) rfl rfl ?_
    refine n_ild (pc := 66) rfl (by exact HR.la0 H hl rfl rfl) rfl (by omega) (by omega) ?_
    rw [hj c (by omega) (by omega)]
    refine r_ist2 (pc := 67) rfl H hl (okB1 hb) (ecB1 hb) rfl (by omega) (by omega) ?_
    intro h H
    have hβ := BT.pt (v := lfG C E β (β 90) c) (c := b + 1) (i := c) hβ (Or.inl ⟨rfl, h51, rfl⟩)
    rw [flo1_s C E β hc.1] at hβ
    first | refine n_iinc (pc := 68) rfl [_, _, _, _, _] 1 (by decide) rfl rfl ?_ | refine q_iinc (pc := 68) [_, _, _, _, _] (1) rfl rfl (by decide) rfl ?_
    refine q_goto (pc := 71) rfl ?_
    exact c_flood2 hl hb h9 kk (c + 1) (by omega) h _ H hβ (T.fr (S := fun i => i = b + 1) (sf.rf.st rfl) (fun i e => by omega)) (hs.st (by omega)) (fun j g1 g2 => (congrFun (stv_n (by omega)) _).trans (hj j g1 g2))
termination_by 36 - c
theorem flo1_f {r : Nat} (hr : r ≤ 6) : upN (flo1 C E β (36 - 6 * r) 36) 89 (β 89 + 1) = flob C E β r := by
  funext i
  unfold upN flo1 flob
  by_cases e : i = 89
  · subst e; rw [if_pos rfl, if_neg (by omega), if_pos rfl]
  · rw [if_neg e]
    by_cases g : 36 - 6 * r ≤ i ∧ i < 36
    · rw [if_pos g, if_pos g]
    · rw [if_neg g, if_neg g, if_neg e]
theorem c_flood (hd : 3 ≤ d) (H : HR P h s) (hl : 51 ≤ P.1) (hb : isB b) (hβ : BT s b β) (T : TB P s C E) (hk : bok β P.2.1) {r : Nat} (hr : r ≤ 6) (kk : ∀ h' s', HR P h' s' → BT s' b (flob C E β r) → TB P s' C E → sf s s' (fun i => (b ≤ i ∧ i < b + 8) ∨ (33 ≤ i ∧ i < 36)) → Q none h') : wc d 51 [.ref 31, .ref b, .int (nI r)] h Q := by
  rw [← flo1_f hr] at kk
  have h9 := hk.2.2.2.1
  have hb4 : b ≤ 17 := by unfold isB at hb; omega
  have t44 : ∀ h' s', HR P h' s' → BT s' b β → TB P s' C E → sf s s' (fun i => 33 ≤ i ∧ i < 36) → (∀ j, 36 - 6 * r ≤ j → j < 36 → s' 35 j = nI (lfG C E β (β 90) j)) → wq d 51 44 [some (.ref 31), some (.ref b), some (.int (nI r)), some (.int (nI (36 - 6 * r))), some (.int (nI 36))] [] h' Q := by
    intro h s1 H hβ T k1 k2
    refine q_iload_n (pc := 44) rfl rfl ?_
    refine q_istore (pc := 45) [_, _, _, _, _] rfl (Nat.le_of_ble_eq_true rfl) rfl ?_
    refine c_flood2 hl hb h9 kk _ (by omega) h s1 H ?_ T (k1.mono (fun i e => by omega)) k2
    rw [flo1_0]; exact hβ
  refine wc.go [_, _, _, _, _] rfl ?_
  refine q_bipush (pc := 0) rfl (nI 36) (by decide) ?_
  refine q_bipush (pc := 2) rfl (nI 6) (by decide) ?_
  refine q_iload_n (pc := 4) rfl rfl ?_
  refine q_iconst (pc := 5) rfl (nI 0) (by decide) ?_
  refine q_bipush (pc := 6) rfl (nI 6) (by decide) ?_
  refine q_callS (pc := 8) _ (by decide) rfl rfl rfl rfl (Nat.le_of_ble_eq_true rfl) (by omega) _ rfl ?_
  refine c_boundX (by decide) (by decide) ?_
  rw [bdN_n (by omega), show max 0 (min r 6) = r by omega]
  first | refine n_imul (pc := 11) rfl ?_ | refine q_imul (pc := 11) rfl ?_
  first | refine n_isub (pc := 12) rfl (by omega) ?_ | refine q_isub (pc := 12) rfl ?_
  refine q_istore_n (pc := 13) [_, _, _, _, _] rfl (Nat.le_of_ble_eq_true rfl) rfl ?_
  refine q_iload_n (pc := 14) rfl rfl ?_
  refine q_istore (pc := 15) [_, _, _, _, _] rfl (Nat.le_of_ble_eq_true rfl) rfl ?_
  refine c_flood1 hd hl hb hk ?_ _ (by omega) h s H hβ T sf.rf (fun j g1 g2 => by omega)
  intro h s1 H hβ T k1 k2
  exact t44 h s1 H hβ T k1 k2
theorem c_trueL (hd : 3 ≤ d) (hl : 51 ≤ P.1) (hb : isB b) (hk : bok β P.2.1) (hp : p < 4) {s0 : mx_St} (kk : ∀ h' s', HR P h' s' → BT s' b β → TB P s' C E → sf s0 s' (fun i => 33 ≤ i ∧ i < 36) → Q (some (.long (lN (bset (tru C E β p) 36)))) h') (c : Nat) (hc : c ≤ 36) (h : mx_H) (s : mx_St) (H : HR P h s) (hβ : BT s b β) (T : TB P s C E) (hs : sf s0 s (fun i => 33 ≤ i ∧ i < 36)) : wq d 52 5 [some (.ref 31), some (.ref b), some (.ref (b + 4 + p)), some (.long (lN (bset (tru C E β p) c))), none, some (.int (nI c))] [] h Q := by
  have g2 := lyG_le C E (β := β) (β (72 + 4 * p)) (β (72 + 4 * p + 1)) (β 90) c
  have g2 : c < 36 → lyN C E β p c ≤ 9 := fun z => g2 (hk.1 _ (by omega))
  refine q_iload (pc := 5) rfl rfl ?_
  refine q_bipush (pc := 7) rfl (nI 36) (by decide) ?_
  first | refine n_icmpge (pc := 9) rfl (by omega) (by omega) (fun h9 => ?_) (fun h9 => ?_) | refine q_icmpge (pc := 9) rfl (fun h9 => ?_) (fun h9 => ?_)
  · obtain rfl : c = 36 := by omega
    refine q_lload_n (pc := 44) rfl rfl ?_
    refine q_lret (pc := 45) rfl rfl ?_
    exact kk _ _ H hβ T hs
  · have g1 := hk.1 (36 + c) (by omega)
    have g3 := g2 h9
    refine q_aload_n (pc := 12) rfl rfl rfl ?_
    refine q_aload_n (pc := 13) rfl rfl rfl ?_
    refine q_aload_n (pc := 14) rfl rfl rfl ?_
    refine q_iload (pc := 15) rfl rfl ?_
    refine q_callV (pc := 17) _ rfl rfl rfl (by exact HR.R H hl T.1) rfl (Nat.le_of_ble_eq_true rfl) (by omega) _ rfl ?_
    refine c_laysOf (by omega) H hl hb hβ T hk hp h9 ?_
    intro h s1 H k1
    have hβ := hβ.fr k1 (scr_B hb (fun i e => by omega))
    have T := T.fr k1 (fun i e => by omega)
    refine q_aload_n (pc := 20) rfl rfl rfl ?_
    refine q_getf (pc := 21) rfl (by exact HR.B H hl hb hβ) rfl rfl ?_
    refine q_iload (pc := 24) rfl rfl ?_
    refine n_ild (pc := 26) rfl (by first | exact HR.am H hl hb hβ | exact HR.ap H hl hb hβ | exact HR.la0 H hl rfl rfl) rfl (by omega) (by omega) ?_
    first | refine n_icmpne (pc := 27) rfl (by omega) (by omega) (fun h27 => ?_) (fun h27 => ?_) | refine q_icmpne (pc := 27) rfl (fun h27 => ?_) (fun h27 => ?_)
    · rw [← bset_f (f := tru C E β p) (decide_eq_false h27)]
      first | refine n_iinc (pc := 38) rfl [_, _, _, _, _, _] 1 (by decide) rfl rfl ?_ | refine q_iinc (pc := 38) [_, _, _, _, _, _] (1) rfl rfl (by decide) rfl ?_
      refine q_goto (pc := 41) rfl ?_
      exact c_trueL hd hl hb hk hp kk (c + 1) (by omega) h s1 H hβ T (hs.tr k1)
    · refine q_lload_n (pc := 30) rfl rfl ?_
      refine q_iload (pc := 31) rfl rfl ?_
      refine q_callS (pc := 33) _ (by decide) rfl rfl rfl rfl (Nat.le_of_ble_eq_true rfl) (by omega) _ rfl ?_
      refine c_bitN (by omega) ?_
      first | refine n_lor (pc := 36) rfl ?_ | refine q_lor (pc := 36) rfl ?_
      rw [← bset_t (f := tru C E β p) (decide_eq_true h27)]
      refine q_lstore_n (pc := 37) [_, _, _, _, _, _] rfl (Nat.le_of_ble_eq_true rfl) rfl ?_
      first | refine n_iinc (pc := 38) rfl [_, _, _, _, _, _] 1 (by decide) rfl rfl ?_ | refine q_iinc (pc := 38) [_, _, _, _, _, _] (1) rfl rfl (by decide) rfl ?_
      refine q_goto (pc := 41) rfl ?_
      exact c_trueL hd hl hb hk hp kk (c + 1) (by omega) h s1 H hβ T (hs.tr k1)
termination_by 36 - c
theorem c_true (hd : 3 ≤ d) (H : HR P h s) (hl : 51 ≤ P.1) (hb : isB b) (hβ : BT s b β) (T : TB P s C E) (hk : bok β P.2.1) (hp : p < 4) (kk : ∀ h' s', HR P h' s' → BT s' b β → TB P s' C E → sf s s' (fun i => 33 ≤ i ∧ i < 36) → Q (some (.long (lN (bset (tru C E β p) 36)))) h') : wc d 52 [.ref 31, .ref b, .ref (b + 4 + p)] h Q := by
  refine wc.go [_, _, _, _, _, _] rfl ?_
  refine q_lconst (pc := 0) rfl (0) (by decide) ?_
  refine q_lstore_n (pc := 1) [_, _, _, _, _, _] rfl (Nat.le_of_ble_eq_true rfl) rfl ?_
  refine q_iconst (pc := 2) rfl (nI 0) (by decide) ?_
  refine q_istore (pc := 3) [_, _, _, _, _, _] rfl (Nat.le_of_ble_eq_true rfl) rfl ?_
  exact c_trueL hd hl hb hk hp kk 0 (by omega) h s H hβ T sf.rf
theorem c_passL (hd : 4 ≤ d) (hl : 51 ≤ P.1) (hb : isB b) (hp : p < 4) (hm : m ≤ 999) {s0 : mx_St} (r : (Nat → Nat) × Nat × Nat) (kk : ∀ h' s', HR P h' s' → BT s' b r.1 → TB P s' C E → bok r.1 P.2.1 → r.2.1 ≤ m → r.2.2 ≤ 36 → s' 36 0 = nI r.2.1 → s' 36 1 = nI r.2.2 → sf s0 s' (fun i => (b ≤ i ∧ i < b + 8) ∨ (33 ≤ i ∧ i < 37)) → Q none h') (n i dn sp : Nat) (hi : i + n = 36) (β : Nat → Nat) (hr : ngt C E p m n β dn sp i = r) (hk : bok β P.2.1) (hdn : dn < 2 ^ 36) (hsp : sp ≤ m) (h : mx_H) (s : mx_St) (H : HR P h s) (hβ : BT s b β) (T : TB P s C E) (e0 : s 36 0 = nI sp) (e1 : s 36 1 = nI i) (hs : sf s0 s (fun i => (b ≤ i ∧ i < b + 8) ∨ (33 ≤ i ∧ i < 37))) (z8 : Option Value) : wq d 13 16 [some (.ref 36), some (.ref b), some (.ref (b + 4 + p)), some (.ref 31), some (.int (nI m)), some (.long (lN dn)), none, some (.int (nI i)), z8] [] h Q := by
  have hb4 : b ≤ 17 := by unfold isB at hb; omega
  have hat := (hk.2.1 p hp).2.2.1
  match n, hi, hr with
  | 0, hi, hr =>
    subst hr
    refine q_iload (pc := 16) rfl rfl ?_
    refine q_bipush (pc := 18) rfl (nI 36) (by decide) ?_
    first | refine n_icmpge (pc := 20) rfl (by omega) (by omega) (fun h20 => ?_) (fun h20 => ?_) | refine q_icmpge (pc := 20) rfl (fun h20 => ?_) (fun h20 => ?_)
    · refine q_vret (pc := 105) rfl rfl ?_
      exact kk _ _ H hβ T hk hsp (by show i ≤ 36; omega) e0 e1 hs
    · first | (exfalso; omega) | exact absurd h20 (nI_pos (by omega)) | exact absurd (nI_pos' (by omega)) h20
  | n + 1, hi, hr =>
    unfold ngt at hr
    have hL := nst_lt (nfr β dn) (apN (β (72 + 4 * p + 2))) 36
    generalize hcc : nst (nfr β dn) (apN (β (72 + 4 * p + 2))) 36 = c at hr hL
    refine q_iload (pc := 16) rfl rfl ?_
    refine q_bipush (pc := 18) rfl (nI 36) (by decide) ?_
    first | refine n_icmpge (pc := 20) rfl (by omega) (by omega) (fun h20 => ?_) (fun h20 => ?_) | refine q_icmpge (pc := 20) rfl (fun h20 => ?_) (fun h20 => ?_)
    · first | (exfalso; omega) | exact absurd h20 (nI_pos (by omega)) | exact absurd (nI_pos' (by omega)) h20
    · refine q_aload_n (pc := 23) rfl rfl rfl ?_
      refine q_aload_n (pc := 24) rfl rfl rfl ?_
      refine q_getf (pc := 25) rfl (by exact HR.O H hl hb hβ hp) rfl rfl ?_
      refine q_lload (pc := 28) rfl rfl ?_
      refine q_callV (pc := 30) _ rfl rfl rfl (by exact HR.B H hl hb hβ) rfl (Nat.le_of_ble_eq_true rfl) (by omega) _ rfl ?_
      refine c_nearest (by omega) H hl hb hβ hk.1 hdn hat ?_
      rw [hcc]
      rcases (show c < 36 ∨ c = 36 by omega) with q | q
      · rw [oc, if_pos q]
        refine q_istore (pc := 33) [_, _, _, _, _, _, _, _, _] rfl (Nat.le_of_ble_eq_true rfl) rfl ?_
        refine q_iload (pc := 35) rfl rfl ?_
        refine q_iconst (pc := 37) rfl (-1) (by decide) ?_
        first | refine n_icmpeq (pc := 38) rfl (by omega) (by omega) (fun h38 => ?_) (fun h38 => ?_) | refine q_icmpeq (pc := 38) rfl (fun h38 => ?_) (fun h38 => ?_)
        · first
          | (exfalso; omega)
          | exact absurd h38 (nI_m1 (by omega))
          | exact absurd rfl h38
          | skip
            refine q_vret (pc := 105) rfl rfl ?_
            rw [if_pos (by omega)] at hr
            subst hr
            first | exact kk _ _ H hβ T hk hsp (by show i ≤ 36; omega) e0 e1 hs | exact kk _ _ H hβ T hk hsp (by show i ≤ 36; omega) e0 e1 (hs.tr (k1.mono (fun i e => by omega)))
        · first
          | (exfalso; omega)
          | exact absurd h38 (nI_m1 (by omega))
          | exact absurd rfl h38
          | skip
            refine q_aload_n (pc := 41) rfl rfl rfl ?_
            refine q_aload_n (pc := 42) rfl rfl rfl ?_
            refine q_aload_n (pc := 43) rfl rfl rfl ?_
            refine q_iload (pc := 44) rfl rfl ?_
            refine q_callV (pc := 46) _ rfl rfl rfl (by exact HR.R H hl T.1) rfl (Nat.le_of_ble_eq_true rfl) (by omega) _ rfl ?_
            refine c_minutesOf (by omega) H hl hb hβ T hk hp q ?_
            intro h s1 H k1
            have hβ := hβ.fr k1 (scr_B hb (fun i e => by omega))
            have T := T.fr k1 (fun i e => by omega)
            have e0 := (congrFun (k1 36 (by omega)) 0).trans e0
            have e1 := (congrFun (k1 36 (by omega)) 1).trans e1
            have hmn := mnN_le (C := C) (E := E) hk hp q
            refine q_iload (pc := 49) rfl rfl ?_
            refine q_aload_n (pc := 51) rfl rfl rfl ?_
            refine q_getf (pc := 52) rfl (by exact HR.c H hl _ rfl) rfl rfl ?_
            rw [e0]
            first | refine n_isub (pc := 55) rfl (by omega) ?_ | refine q_isub (pc := 55) rfl ?_
            first | refine n_icmple (pc := 56) rfl (by omega) (by omega) (fun h56 => ?_) (fun h56 => ?_) | refine q_icmple (pc := 56) rfl (fun h56 => ?_) (fun h56 => ?_)
            · refine q_aload_n (pc := 62) rfl rfl rfl ?_
              refine q_dup (pc := 63) rfl rfl ?_
              refine q_getf (pc := 64) rfl (by exact HR.c H hl _ rfl) rfl rfl ?_
              rw [e0]
              refine q_aload_n (pc := 67) rfl rfl rfl ?_
              refine q_aload_n (pc := 68) rfl rfl rfl ?_
              refine q_aload_n (pc := 69) rfl rfl rfl ?_
              refine q_iload (pc := 70) rfl rfl ?_
              refine q_callV (pc := 72) _ rfl rfl rfl (by exact HR.R H hl T.1) rfl (Nat.le_of_ble_eq_true rfl) (by omega) _ rfl ?_
              refine c_lay (by omega) H hl hb hβ T hk hp q ?_
              intro h s2 H hβ T k2
              have e1 := (congrFun (k2 36 (by omega)) 1).trans e1
              first | refine n_iadd (pc := 75) rfl ?_ | refine q_iadd (pc := 75) rfl ?_
              refine r_pf2 (pc := 76) (i := 0) rfl H hl rfl rfl rfl rfl (Nat.le_of_ble_eq_true rfl) rfl rfl ?_
              intro h H
              have e1 := (stv_o (s := s2) (b := 36) (j := 0) (i := 1) (v := nI (sp + mnN C E β p c)) (by decide)).trans e1
              refine q_aload_n (pc := 79) rfl rfl rfl ?_
              refine q_dup (pc := 80) rfl rfl ?_
              refine q_getf (pc := 81) rfl (by exact HR.c H hl _ rfl) rfl rfl ?_
              rw [e1]
              refine q_iconst (pc := 84) rfl (nI 1) (by decide) ?_
              first | refine n_iadd (pc := 85) rfl ?_ | refine q_iadd (pc := 85) rfl ?_
              refine r_pf2 (pc := 86) (i := 1) rfl H hl rfl rfl rfl rfl (Nat.le_of_ble_eq_true rfl) rfl rfl ?_
              intro h H
              refine q_lload (pc := 89) rfl rfl ?_
              refine q_iload (pc := 91) rfl rfl ?_
              refine q_callS (pc := 93) _ (by decide) rfl rfl rfl rfl (Nat.le_of_ble_eq_true rfl) (by omega) _ rfl ?_
              refine c_bitN q ?_
              first | refine n_lor (pc := 96) rfl ?_ | refine q_lor (pc := 96) rfl ?_
              refine q_lstore (pc := 97) [_, _, _, _, _, _, _, _, _] rfl (Nat.le_of_ble_eq_true rfl) rfl ?_
              first | refine n_iinc (pc := 99) rfl [_, _, _, _, _, _, _, _, _] 1 (by decide) rfl rfl ?_ | refine q_iinc (pc := 99) [_, _, _, _, _, _, _, _, _] (1) rfl rfl (by decide) rfl ?_
              refine q_goto (pc := 102) rfl ?_
              rw [if_neg (fun z => by omega)] at hr
              refine c_passL hd hl hb hp hm r kk n (i + 1) (dn ||| 2 ^ c) (sp + mnN C E β p c) (by omega) (layb C E β p c) hr (bok_lay hk hp q) (Nat.or_lt_two_pow hdn (Nat.pow_lt_pow_right (by decide) q)) (by omega) h _ H (hβ.fr (S := fun i => i = 36) ((sf.rf.st (by rfl)).st (by rfl)) (scr_B hb (fun i e => by omega))) (T.fr (S := fun i => i = 36) ((sf.rf.st (by rfl)).st (by rfl)) (fun i e => by omega)) ?_ stv_a ((((hs.tr (k1.mono (fun i e => by omega))).tr (k2.mono (fun i e => by omega))).st (by omega)).st (by omega)) _
              rw [stv_o (by decide), stv_a]
            · refine q_goto (pc := 59) rfl ?_
              refine q_vret (pc := 105) rfl rfl ?_
              rw [if_pos (by omega)] at hr
              subst hr
              first | exact kk _ _ H hβ T hk hsp (by show i ≤ 36; omega) e0 e1 hs | exact kk _ _ H hβ T hk hsp (by show i ≤ 36; omega) e0 e1 (hs.tr (k1.mono (fun i e => by omega)))
      · rw [oc, if_neg (by omega)]
        refine q_istore (pc := 33) [_, _, _, _, _, _, _, _, _] rfl (Nat.le_of_ble_eq_true rfl) rfl ?_
        refine q_iload (pc := 35) rfl rfl ?_
        refine q_iconst (pc := 37) rfl (-1) (by decide) ?_
        first | refine n_icmpeq (pc := 38) rfl (by omega) (by omega) (fun h38 => ?_) (fun h38 => ?_) | refine q_icmpeq (pc := 38) rfl (fun h38 => ?_) (fun h38 => ?_)
        · first
          | (exfalso; omega)
          | exact absurd h38 (nI_m1 (by omega))
          | exact absurd rfl h38
          | skip
            refine q_vret (pc := 105) rfl rfl ?_
            rw [if_pos (by omega)] at hr
            subst hr
            first | exact kk _ _ H hβ T hk hsp (by show i ≤ 36; omega) e0 e1 hs | exact kk _ _ H hβ T hk hsp (by show i ≤ 36; omega) e0 e1 (hs.tr (k1.mono (fun i e => by omega)))
        · first
          | (exfalso; omega)
          | exact absurd h38 (nI_m1 (by omega))
          | exact absurd rfl h38
          | skip
            refine q_aload_n (pc := 41) rfl rfl rfl ?_
            refine q_aload_n (pc := 42) rfl rfl rfl ?_
            refine q_aload_n (pc := 43) rfl rfl rfl ?_
            refine q_iload (pc := 44) rfl rfl ?_
            refine q_callV (pc := 46) _ rfl rfl rfl (by exact HR.R H hl T.1) rfl (Nat.le_of_ble_eq_true rfl) (by omega) _ rfl ?_
            refine c_minutesOf (by omega) H hl hb hβ T hk hp q ?_
            intro h s1 H k1
            have hβ := hβ.fr k1 (scr_B hb (fun i e => by omega))
            have T := T.fr k1 (fun i e => by omega)
            have e0 := (congrFun (k1 36 (by omega)) 0).trans e0
            have e1 := (congrFun (k1 36 (by omega)) 1).trans e1
            have hmn := mnN_le (C := C) (E := E) hk hp q
            refine q_iload (pc := 49) rfl rfl ?_
            refine q_aload_n (pc := 51) rfl rfl rfl ?_
            refine q_getf (pc := 52) rfl (by exact HR.c H hl _ rfl) rfl rfl ?_
            rw [e0]
            first | refine n_isub (pc := 55) rfl (by omega) ?_ | refine q_isub (pc := 55) rfl ?_
            first | refine n_icmple (pc := 56) rfl (by omega) (by omega) (fun h56 => ?_) (fun h56 => ?_) | refine q_icmple (pc := 56) rfl (fun h56 => ?_) (fun h56 => ?_)
            · refine q_aload_n (pc := 62) rfl rfl rfl ?_
              refine q_dup (pc := 63) rfl rfl ?_
              refine q_getf (pc := 64) rfl (by exact HR.c H hl _ rfl) rfl rfl ?_
              rw [e0]
              refine q_aload_n (pc := 67) rfl rfl rfl ?_
              refine q_aload_n (pc := 68) rfl rfl rfl ?_
              refine q_aload_n (pc := 69) rfl rfl rfl ?_
              refine q_iload (pc := 70) rfl rfl ?_
              refine q_callV (pc := 72) _ rfl rfl rfl (by exact HR.R H hl T.1) rfl (Nat.le_of_ble_eq_true rfl) (by omega) _ rfl ?_
              refine c_lay (by omega) H hl hb hβ T hk hp q ?_
              intro h s2 H hβ T k2
              have e1 := (congrFun (k2 36 (by omega)) 1).trans e1
              first | refine n_iadd (pc := 75) rfl ?_ | refine q_iadd (pc := 75) rfl ?_
              refine r_pf2 (pc := 76) (i := 0) rfl H hl rfl rfl rfl rfl (Nat.le_of_ble_eq_true rfl) rfl rfl ?_
              intro h H
              have e1 := (stv_o (s := s2) (b := 36) (j := 0) (i := 1) (v := nI (sp + mnN C E β p c)) (by decide)).trans e1
              refine q_aload_n (pc := 79) rfl rfl rfl ?_
              refine q_dup (pc := 80) rfl rfl ?_
              refine q_getf (pc := 81) rfl (by exact HR.c H hl _ rfl) rfl rfl ?_
              rw [e1]
              refine q_iconst (pc := 84) rfl (nI 1) (by decide) ?_
              first | refine n_iadd (pc := 85) rfl ?_ | refine q_iadd (pc := 85) rfl ?_
              refine r_pf2 (pc := 86) (i := 1) rfl H hl rfl rfl rfl rfl (Nat.le_of_ble_eq_true rfl) rfl rfl ?_
              intro h H
              refine q_lload (pc := 89) rfl rfl ?_
              refine q_iload (pc := 91) rfl rfl ?_
              refine q_callS (pc := 93) _ (by decide) rfl rfl rfl rfl (Nat.le_of_ble_eq_true rfl) (by omega) _ rfl ?_
              refine c_bitN q ?_
              first | refine n_lor (pc := 96) rfl ?_ | refine q_lor (pc := 96) rfl ?_
              refine q_lstore (pc := 97) [_, _, _, _, _, _, _, _, _] rfl (Nat.le_of_ble_eq_true rfl) rfl ?_
              first | refine n_iinc (pc := 99) rfl [_, _, _, _, _, _, _, _, _] 1 (by decide) rfl rfl ?_ | refine q_iinc (pc := 99) [_, _, _, _, _, _, _, _, _] (1) rfl rfl (by decide) rfl ?_
              refine q_goto (pc := 102) rfl ?_
              rw [if_neg (fun z => by omega)] at hr
              refine c_passL hd hl hb hp hm r kk n (i + 1) (dn ||| 2 ^ c) (sp + mnN C E β p c) (by omega) (layb C E β p c) hr (bok_lay hk hp q) (Nat.or_lt_two_pow hdn (Nat.pow_lt_pow_right (by decide) q)) (by omega) h _ H (hβ.fr (S := fun i => i = 36) ((sf.rf.st (by rfl)).st (by rfl)) (scr_B hb (fun i e => by omega))) (T.fr (S := fun i => i = 36) ((sf.rf.st (by rfl)).st (by rfl)) (fun i e => by omega)) ?_ stv_a ((((hs.tr (k1.mono (fun i e => by omega))).tr (k2.mono (fun i e => by omega))).st (by omega)).st (by omega)) _
              rw [stv_o (by decide), stv_a]
            · refine q_goto (pc := 59) rfl ?_
              refine q_vret (pc := 105) rfl rfl ?_
              rw [if_pos (by omega)] at hr
              subst hr
              first | exact kk _ _ H hβ T hk hsp (by show i ≤ 36; omega) e0 e1 hs | exact kk _ _ H hβ T hk hsp (by show i ≤ 36; omega) e0 e1 (hs.tr (k1.mono (fun i e => by omega)))
termination_by n
theorem c_pass (hd : 4 ≤ d) (H : HR P h s) (hl : 51 ≤ P.1) (hb : isB b) (hβ : BT s b β) (T : TB P s C E) (hk : bok β P.2.1) (hp : p < 4) (hm : m ≤ 999) (kk : ∀ h' s', HR P h' s' → BT s' b (ngt C E p m 36 β 0 0 0).1 → TB P s' C E → bok (ngt C E p m 36 β 0 0 0).1 P.2.1 → (ngt C E p m 36 β 0 0 0).2.1 ≤ m → (ngt C E p m 36 β 0 0 0).2.2 ≤ 36 → s' 36 0 = nI (ngt C E p m 36 β 0 0 0).2.1 → s' 36 1 = nI (ngt C E p m 36 β 0 0 0).2.2 → sf s s' (fun i => (b ≤ i ∧ i < b + 8) ∨ (33 ≤ i ∧ i < 37)) → Q none h') : wc d 13 [.ref 36, .ref b, .ref (b + 4 + p), .ref 31, .int (nI m)] h Q := by
  refine wc.go [_, _, _, _, _, _, _, _, _] rfl ?_
  refine q_aload_n (pc := 0) rfl rfl rfl ?_
  refine q_iconst (pc := 1) rfl (nI 0) (by decide) ?_
  refine r_pf2 (pc := 2) (i := 0) rfl H hl rfl rfl rfl rfl (Nat.le_of_ble_eq_true rfl) rfl rfl ?_
  intro h H
  refine q_aload_n (pc := 5) rfl rfl rfl ?_
  refine q_iconst (pc := 6) rfl (nI 0) (by decide) ?_
  refine r_pf2 (pc := 7) (i := 1) rfl H hl rfl rfl rfl rfl (Nat.le_of_ble_eq_true rfl) rfl rfl ?_
  intro h H
  refine q_lconst (pc := 10) rfl (0) (by decide) ?_
  refine q_lstore (pc := 11) [_, _, _, _, _, _, _, _, _] rfl (Nat.le_of_ble_eq_true rfl) rfl ?_
  refine q_iconst (pc := 13) rfl (nI 0) (by decide) ?_
  refine q_istore (pc := 14) [_, _, _, _, _, _, _, _, _] rfl (Nat.le_of_ble_eq_true rfl) rfl ?_
  exact c_passL hd hl hb hp hm _ kk 36 0 0 0 (by omega) β rfl hk (by decide) (by omega) h _ H (hβ.fr (S := fun i => i = 36) ((sf.rf.st (by rfl)).st (by rfl)) (scr_B hb (fun i e => by omega))) (T.fr (S := fun i => i = 36) ((sf.rf.st (by rfl)).st (by rfl)) (fun i e => by omega)) ((stv_o (by decide)).trans stv_a) stv_a ((sf.rf.st (by omega)).st (by omega)) _
end P26
end
