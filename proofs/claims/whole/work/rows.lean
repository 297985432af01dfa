section
-- ===== PART A: goes FIRST, ahead of the names: the tables' words, and 'selects' of the private methods out of them =====
/-- a private method of a class that the tables say can be made, by its rows of tables_1 -/
def lw_okq (q : MethodName × Nat) : Prop := (q.1.cls ≠ "java/lang/invoke/MethodHandle" ∧ q.1.cls ≠ "java/lang/invoke/VarHandle") ∧ Cond.instantiable q.1.cls q.2 ∈ tables_1 ∧ Cond.privateMethod q.1 ∈ tables_1 ∧ Cond.instanceMethod q.1 ∈ tables_1
theorem lw_p0 : lw_okq (⟨"LandGoods", "found", "(I)J"⟩, 12) := ⟨⟨by decide +kernel, by decide +kernel⟩, List.mem_of_getElem? (i := 17) (by decide +kernel), List.mem_of_getElem? (i := 248) (by decide +kernel), List.mem_of_getElem? (i := 249) (by decide +kernel)⟩
theorem lw_p1 : lw_okq (⟨"LandGoods", "fine", "(J)J"⟩, 12) := ⟨⟨by decide +kernel, by decide +kernel⟩, List.mem_of_getElem? (i := 17) (by decide +kernel), List.mem_of_getElem? (i := 257) (by decide +kernel), List.mem_of_getElem? (i := 258) (by decide +kernel)⟩
theorem lw_p2 : lw_okq (⟨"LandGoods$Tape", "step", "()V"⟩, 8) := ⟨⟨by decide +kernel, by decide +kernel⟩, List.mem_of_getElem? (i := 44) (by decide +kernel), List.mem_of_getElem? (i := 321) (by decide +kernel), List.mem_of_getElem? (i := 322) (by decide +kernel)⟩
theorem lw_p3 : lw_okq (⟨"LandGoods$Tape", "takeName", "()V"⟩, 8) := ⟨⟨by decide +kernel, by decide +kernel⟩, List.mem_of_getElem? (i := 44) (by decide +kernel), List.mem_of_getElem? (i := 328) (by decide +kernel), List.mem_of_getElem? (i := 329) (by decide +kernel)⟩
theorem lw_p4 : lw_okq (⟨"LandGoods$Tape", "isWord", "(Ljava/lang/String;)Z"⟩, 8) := ⟨⟨by decide +kernel, by decide +kernel⟩, List.mem_of_getElem? (i := 44) (by decide +kernel), List.mem_of_getElem? (i := 333) (by decide +kernel), List.mem_of_getElem? (i := 334) (by decide +kernel)⟩
theorem lw_p5 : lw_okq (⟨"LandGoods$Tape", "takeNumber", "()V"⟩, 8) := ⟨⟨by decide +kernel, by decide +kernel⟩, List.mem_of_getElem? (i := 44) (by decide +kernel), List.mem_of_getElem? (i := 389) (by decide +kernel), List.mem_of_getElem? (i := 390) (by decide +kernel)⟩
theorem lw_p6 : lw_okq (⟨"LandGoods$Tape", "readGood", "(LLandGoods$World;)Z"⟩, 8) := ⟨⟨by decide +kernel, by decide +kernel⟩, List.mem_of_getElem? (i := 44) (by decide +kernel), List.mem_of_getElem? (i := 393) (by decide +kernel), List.mem_of_getElem? (i := 394) (by decide +kernel)⟩
theorem lw_p7 : lw_okq (⟨"LandGoods$Tape", "blame", "(I)Z"⟩, 8) := ⟨⟨by decide +kernel, by decide +kernel⟩, List.mem_of_getElem? (i := 44) (by decide +kernel), List.mem_of_getElem? (i := 397) (by decide +kernel), List.mem_of_getElem? (i := 398) (by decide +kernel)⟩
theorem lw_p8 : lw_okq (⟨"LandGoods$Tape", "isNumberUpTo", "(I)Z"⟩, 8) := ⟨⟨by decide +kernel, by decide +kernel⟩, List.mem_of_getElem? (i := 44) (by decide +kernel), List.mem_of_getElem? (i := 401) (by decide +kernel), List.mem_of_getElem? (i := 402) (by decide +kernel)⟩
theorem lw_p9 : lw_okq (⟨"LandGoods$Tape", "passSemicolon", "()Z"⟩, 8) := ⟨⟨by decide +kernel, by decide +kernel⟩, List.mem_of_getElem? (i := 44) (by decide +kernel), List.mem_of_getElem? (i := 405) (by decide +kernel), List.mem_of_getElem? (i := 406) (by decide +kernel)⟩
theorem lw_p10 : lw_okq (⟨"LandGoods$Tape", "readLand", "(LLandGoods$World;)Z"⟩, 8) := ⟨⟨by decide +kernel, by decide +kernel⟩, List.mem_of_getElem? (i := 44) (by decide +kernel), List.mem_of_getElem? (i := 409) (by decide +kernel), List.mem_of_getElem? (i := 410) (by decide +kernel)⟩
theorem lw_p11 : lw_okq (⟨"LandGoods$Pair", "allShares", "()J"⟩, 9) := ⟨⟨by decide +kernel, by decide +kernel⟩, List.mem_of_getElem? (i := 98) (by decide +kernel), List.mem_of_getElem? (i := 434) (by decide +kernel), List.mem_of_getElem? (i := 435) (by decide +kernel)⟩
theorem lw_p12 : lw_okq (⟨"LandGoods$Rest", "clearWins", "()V"⟩, 3) := ⟨⟨by decide +kernel, by decide +kernel⟩, List.mem_of_getElem? (i := 92) (by decide +kernel), List.mem_of_getElem? (i := 438) (by decide +kernel), List.mem_of_getElem? (i := 439) (by decide +kernel)⟩
theorem lw_p13 : lw_okq (⟨"LandGoods$Rest", "findTied", "(LLandGoods$World;II)Z"⟩, 3) := ⟨⟨by decide +kernel, by decide +kernel⟩, List.mem_of_getElem? (i := 92) (by decide +kernel), List.mem_of_getElem? (i := 442) (by decide +kernel), List.mem_of_getElem? (i := 443) (by decide +kernel)⟩
theorem lw_p14 : lw_okq (⟨"LandGoods$Rest", "tie", "(LLandGoods$World;III)V"⟩, 3) := ⟨⟨by decide +kernel, by decide +kernel⟩, List.mem_of_getElem? (i := 92) (by decide +kernel), List.mem_of_getElem? (i := 446) (by decide +kernel), List.mem_of_getElem? (i := 447) (by decide +kernel)⟩
theorem lw_p15 : lw_okq (⟨"LandGoods$World", "incomeOf", "([JI)J"⟩, 7) := ⟨⟨by decide +kernel, by decide +kernel⟩, List.mem_of_getElem? (i := 150) (by decide +kernel), List.mem_of_getElem? (i := 477) (by decide +kernel), List.mem_of_getElem? (i := 478) (by decide +kernel)⟩
def lw_privs_1 : List (MethodName × Nat) := [(⟨"LandGoods", "found", "(I)J"⟩, 12), (⟨"LandGoods", "fine", "(J)J"⟩, 12), (⟨"LandGoods$Tape", "step", "()V"⟩, 8), (⟨"LandGoods$Tape", "takeName", "()V"⟩, 8), (⟨"LandGoods$Tape", "isWord", "(Ljava/lang/String;)Z"⟩, 8), (⟨"LandGoods$Tape", "takeNumber", "()V"⟩, 8), (⟨"LandGoods$Tape", "readGood", "(LLandGoods$World;)Z"⟩, 8), (⟨"LandGoods$Tape", "blame", "(I)Z"⟩, 8), (⟨"LandGoods$Tape", "isNumberUpTo", "(I)Z"⟩, 8), (⟨"LandGoods$Tape", "passSemicolon", "()Z"⟩, 8), (⟨"LandGoods$Tape", "readLand", "(LLandGoods$World;)Z"⟩, 8), (⟨"LandGoods$Pair", "allShares", "()J"⟩, 9), (⟨"LandGoods$Rest", "clearWins", "()V"⟩, 3), (⟨"LandGoods$Rest", "findTied", "(LLandGoods$World;II)Z"⟩, 3), (⟨"LandGoods$Rest", "tie", "(LLandGoods$World;III)V"⟩, 3), (⟨"LandGoods$World", "incomeOf", "([JI)J"⟩, 7)]
theorem lw_r1 : ∀ q ∈ lw_privs_1, lw_okq q := List.forall_mem_cons.mpr ⟨lw_p0, List.forall_mem_cons.mpr ⟨lw_p1, List.forall_mem_cons.mpr ⟨lw_p2, List.forall_mem_cons.mpr ⟨lw_p3, List.forall_mem_cons.mpr ⟨lw_p4, List.forall_mem_cons.mpr ⟨lw_p5, List.forall_mem_cons.mpr ⟨lw_p6, List.forall_mem_cons.mpr ⟨lw_p7, List.forall_mem_cons.mpr ⟨lw_p8, List.forall_mem_cons.mpr ⟨lw_p9, List.forall_mem_cons.mpr ⟨lw_p10, List.forall_mem_cons.mpr ⟨lw_p11, List.forall_mem_cons.mpr ⟨lw_p12, List.forall_mem_cons.mpr ⟨lw_p13, List.forall_mem_cons.mpr ⟨lw_p14, List.forall_mem_cons.mpr ⟨lw_p15, fun _ h => absurd h List.not_mem_nil⟩⟩⟩⟩⟩⟩⟩⟩⟩⟩⟩⟩⟩⟩⟩⟩
theorem lw_p16 : lw_okq (⟨"LandGoods$World", "sharesFor", "(I)J"⟩, 7) := ⟨⟨by decide +kernel, by decide +kernel⟩, List.mem_of_getElem? (i := 150) (by decide +kernel), List.mem_of_getElem? (i := 481) (by decide +kernel), List.mem_of_getElem? (i := 482) (by decide +kernel)⟩
theorem lw_p17 : lw_okq (⟨"LandGoods$Rest", "settleApart", "(LLandGoods$World;)V"⟩, 3) := ⟨⟨by decide +kernel, by decide +kernel⟩, List.mem_of_getElem? (i := 92) (by decide +kernel), List.mem_of_getElem? (i := 485) (by decide +kernel), List.mem_of_getElem? (i := 486) (by decide +kernel)⟩
theorem lw_p18 : lw_okq (⟨"LandGoods", "findingAt", "(III)I"⟩, 12) := ⟨⟨by decide +kernel, by decide +kernel⟩, List.mem_of_getElem? (i := 17) (by decide +kernel), List.mem_of_getElem? (i := 548) (by decide +kernel), List.mem_of_getElem? (i := 549) (by decide +kernel)⟩
theorem lw_p19 : lw_okq (⟨"LandGoods", "leastRing", "()J"⟩, 12) := ⟨⟨by decide +kernel, by decide +kernel⟩, List.mem_of_getElem? (i := 17) (by decide +kernel), List.mem_of_getElem? (i := 574) (by decide +kernel), List.mem_of_getElem? (i := 575) (by decide +kernel)⟩
theorem lw_p20 : lw_okq (⟨"LandGoods", "makesMore", "(I)Z"⟩, 12) := ⟨⟨by decide +kernel, by decide +kernel⟩, List.mem_of_getElem? (i := 17) (by decide +kernel), List.mem_of_getElem? (i := 580) (by decide +kernel), List.mem_of_getElem? (i := 581) (by decide +kernel)⟩
theorem lw_p21 : lw_okq (⟨"LandGoods", "bestGift", "(II)I"⟩, 12) := ⟨⟨by decide +kernel, by decide +kernel⟩, List.mem_of_getElem? (i := 17) (by decide +kernel), List.mem_of_getElem? (i := 587) (by decide +kernel), List.mem_of_getElem? (i := 588) (by decide +kernel)⟩
theorem lw_p22 : lw_okq (⟨"LandGoods", "keepAhead", "()V"⟩, 12) := ⟨⟨by decide +kernel, by decide +kernel⟩, List.mem_of_getElem? (i := 17) (by decide +kernel), List.mem_of_getElem? (i := 600) (by decide +kernel), List.mem_of_getElem? (i := 601) (by decide +kernel)⟩
theorem lw_p23 : lw_okq (⟨"LandGoods", "makersChange", "(III)Z"⟩, 12) := ⟨⟨by decide +kernel, by decide +kernel⟩, List.mem_of_getElem? (i := 17) (by decide +kernel), List.mem_of_getElem? (i := 614) (by decide +kernel), List.mem_of_getElem? (i := 615) (by decide +kernel)⟩
theorem lw_p24 : lw_okq (⟨"LandGoods", "oneGoes", "()Z"⟩, 12) := ⟨⟨by decide +kernel, by decide +kernel⟩, List.mem_of_getElem? (i := 17) (by decide +kernel), List.mem_of_getElem? (i := 622) (by decide +kernel), List.mem_of_getElem? (i := 623) (by decide +kernel)⟩
theorem lw_p25 : lw_okq (⟨"LandGoods", "kindOf", "(I)I"⟩, 12) := ⟨⟨by decide +kernel, by decide +kernel⟩, List.mem_of_getElem? (i := 17) (by decide +kernel), List.mem_of_getElem? (i := 630) (by decide +kernel), List.mem_of_getElem? (i := 631) (by decide +kernel)⟩
theorem lw_p26 : lw_okq (⟨"LandGoods", "isOfKind", "(II)Z"⟩, 12) := ⟨⟨by decide +kernel, by decide +kernel⟩, List.mem_of_getElem? (i := 17) (by decide +kernel), List.mem_of_getElem? (i := 634) (by decide +kernel), List.mem_of_getElem? (i := 635) (by decide +kernel)⟩
theorem lw_p27 : lw_okq (⟨"LandGoods", "sizeOf", "(II)J"⟩, 12) := ⟨⟨by decide +kernel, by decide +kernel⟩, List.mem_of_getElem? (i := 17) (by decide +kernel), List.mem_of_getElem? (i := 657) (by decide +kernel), List.mem_of_getElem? (i := 658) (by decide +kernel)⟩
theorem lw_p28 : lw_okq (⟨"LandGoods", "body", "(III)J"⟩, 12) := ⟨⟨by decide +kernel, by decide +kernel⟩, List.mem_of_getElem? (i := 17) (by decide +kernel), List.mem_of_getElem? (i := 663) (by decide +kernel), List.mem_of_getElem? (i := 664) (by decide +kernel)⟩
theorem lw_p29 : lw_okq (⟨"LandGoods", "markOf", "(II)J"⟩, 12) := ⟨⟨by decide +kernel, by decide +kernel⟩, List.mem_of_getElem? (i := 17) (by decide +kernel), List.mem_of_getElem? (i := 671) (by decide +kernel), List.mem_of_getElem? (i := 672) (by decide +kernel)⟩
theorem lw_p30 : lw_okq (⟨"LandGoods", "commonGoods", "()J"⟩, 12) := ⟨⟨by decide +kernel, by decide +kernel⟩, List.mem_of_getElem? (i := 17) (by decide +kernel), List.mem_of_getElem? (i := 702) (by decide +kernel), List.mem_of_getElem? (i := 703) (by decide +kernel)⟩
theorem lw_p31 : lw_okq (⟨"LandGoodsModel", "finding", "(I)J"⟩, 37) := ⟨⟨by decide +kernel, by decide +kernel⟩, List.mem_of_getElem? (i := 710) (by decide +kernel), List.mem_of_getElem? (i := 841) (by decide +kernel), List.mem_of_getElem? (i := 842) (by decide +kernel)⟩
def lw_privs_2 : List (MethodName × Nat) := [(⟨"LandGoods$World", "sharesFor", "(I)J"⟩, 7), (⟨"LandGoods$Rest", "settleApart", "(LLandGoods$World;)V"⟩, 3), (⟨"LandGoods", "findingAt", "(III)I"⟩, 12), (⟨"LandGoods", "leastRing", "()J"⟩, 12), (⟨"LandGoods", "makesMore", "(I)Z"⟩, 12), (⟨"LandGoods", "bestGift", "(II)I"⟩, 12), (⟨"LandGoods", "keepAhead", "()V"⟩, 12), (⟨"LandGoods", "makersChange", "(III)Z"⟩, 12), (⟨"LandGoods", "oneGoes", "()Z"⟩, 12), (⟨"LandGoods", "kindOf", "(I)I"⟩, 12), (⟨"LandGoods", "isOfKind", "(II)Z"⟩, 12), (⟨"LandGoods", "sizeOf", "(II)J"⟩, 12), (⟨"LandGoods", "body", "(III)J"⟩, 12), (⟨"LandGoods", "markOf", "(II)J"⟩, 12), (⟨"LandGoods", "commonGoods", "()J"⟩, 12), (⟨"LandGoodsModel", "finding", "(I)J"⟩, 37)]
theorem lw_r2 : ∀ q ∈ lw_privs_2, lw_okq q := List.forall_mem_cons.mpr ⟨lw_p16, List.forall_mem_cons.mpr ⟨lw_p17, List.forall_mem_cons.mpr ⟨lw_p18, List.forall_mem_cons.mpr ⟨lw_p19, List.forall_mem_cons.mpr ⟨lw_p20, List.forall_mem_cons.mpr ⟨lw_p21, List.forall_mem_cons.mpr ⟨lw_p22, List.forall_mem_cons.mpr ⟨lw_p23, List.forall_mem_cons.mpr ⟨lw_p24, List.forall_mem_cons.mpr ⟨lw_p25, List.forall_mem_cons.mpr ⟨lw_p26, List.forall_mem_cons.mpr ⟨lw_p27, List.forall_mem_cons.mpr ⟨lw_p28, List.forall_mem_cons.mpr ⟨lw_p29, List.forall_mem_cons.mpr ⟨lw_p30, List.forall_mem_cons.mpr ⟨lw_p31, fun _ h => absurd h List.not_mem_nil⟩⟩⟩⟩⟩⟩⟩⟩⟩⟩⟩⟩⟩⟩⟩⟩
theorem lw_p32 : lw_okq (⟨"LandGoodsModel", "next", "()V"⟩, 37) := ⟨⟨by decide +kernel, by decide +kernel⟩, List.mem_of_getElem? (i := 710) (by decide +kernel), List.mem_of_getElem? (i := 869) (by decide +kernel), List.mem_of_getElem? (i := 870) (by decide +kernel)⟩
theorem lw_p33 : lw_okq (⟨"LandGoodsModel", "byteAt", "(I)I"⟩, 37) := ⟨⟨by decide +kernel, by decide +kernel⟩, List.mem_of_getElem? (i := 710) (by decide +kernel), List.mem_of_getElem? (i := 873) (by decide +kernel), List.mem_of_getElem? (i := 874) (by decide +kernel)⟩
theorem lw_p34 : lw_okq (⟨"LandGoodsModel", "readGood", "()V"⟩, 37) := ⟨⟨by decide +kernel, by decide +kernel⟩, List.mem_of_getElem? (i := 710) (by decide +kernel), List.mem_of_getElem? (i := 884) (by decide +kernel), List.mem_of_getElem? (i := 885) (by decide +kernel)⟩
theorem lw_p35 : lw_okq (⟨"LandGoodsModel", "isWord", "(J)Z"⟩, 37) := ⟨⟨by decide +kernel, by decide +kernel⟩, List.mem_of_getElem? (i := 710) (by decide +kernel), List.mem_of_getElem? (i := 889) (by decide +kernel), List.mem_of_getElem? (i := 890) (by decide +kernel)⟩
theorem lw_p36 : lw_okq (⟨"LandGoodsModel", "word", "()J"⟩, 37) := ⟨⟨by decide +kernel, by decide +kernel⟩, List.mem_of_getElem? (i := 710) (by decide +kernel), List.mem_of_getElem? (i := 893) (by decide +kernel), List.mem_of_getElem? (i := 894) (by decide +kernel)⟩
theorem lw_p37 : lw_okq (⟨"LandGoodsModel", "bad", "(I)V"⟩, 37) := ⟨⟨by decide +kernel, by decide +kernel⟩, List.mem_of_getElem? (i := 710) (by decide +kernel), List.mem_of_getElem? (i := 897) (by decide +kernel), List.mem_of_getElem? (i := 898) (by decide +kernel)⟩
theorem lw_p38 : lw_okq (⟨"LandGoodsModel", "must", "(Z)V"⟩, 37) := ⟨⟨by decide +kernel, by decide +kernel⟩, List.mem_of_getElem? (i := 710) (by decide +kernel), List.mem_of_getElem? (i := 901) (by decide +kernel), List.mem_of_getElem? (i := 902) (by decide +kernel)⟩
theorem lw_p39 : lw_okq (⟨"LandGoodsModel", "numberTo", "(I)I"⟩, 37) := ⟨⟨by decide +kernel, by decide +kernel⟩, List.mem_of_getElem? (i := 710) (by decide +kernel), List.mem_of_getElem? (i := 905) (by decide +kernel), List.mem_of_getElem? (i := 906) (by decide +kernel)⟩
theorem lw_p40 : lw_okq (⟨"LandGoodsModel", "mustEnd", "()V"⟩, 37) := ⟨⟨by decide +kernel, by decide +kernel⟩, List.mem_of_getElem? (i := 710) (by decide +kernel), List.mem_of_getElem? (i := 909) (by decide +kernel), List.mem_of_getElem? (i := 910) (by decide +kernel)⟩
theorem lw_p41 : lw_okq (⟨"LandGoodsModel", "readLand", "()V"⟩, 37) := ⟨⟨by decide +kernel, by decide +kernel⟩, List.mem_of_getElem? (i := 710) (by decide +kernel), List.mem_of_getElem? (i := 913) (by decide +kernel), List.mem_of_getElem? (i := 914) (by decide +kernel)⟩
theorem lw_p42 : lw_okq (⟨"LandGoodsModel", "isLand", "(I)Z"⟩, 37) := ⟨⟨by decide +kernel, by decide +kernel⟩, List.mem_of_getElem? (i := 710) (by decide +kernel), List.mem_of_getElem? (i := 927) (by decide +kernel), List.mem_of_getElem? (i := 928) (by decide +kernel)⟩
theorem lw_p43 : lw_okq (⟨"LandGoodsModel", "isGood", "(I)Z"⟩, 37) := ⟨⟨by decide +kernel, by decide +kernel⟩, List.mem_of_getElem? (i := 710) (by decide +kernel), List.mem_of_getElem? (i := 931) (by decide +kernel), List.mem_of_getElem? (i := 932) (by decide +kernel)⟩
theorem lw_p44 : lw_okq (⟨"LandGoodsModel", "restAll", "()V"⟩, 37) := ⟨⟨by decide +kernel, by decide +kernel⟩, List.mem_of_getElem? (i := 710) (by decide +kernel), List.mem_of_getElem? (i := 939) (by decide +kernel), List.mem_of_getElem? (i := 940) (by decide +kernel)⟩
theorem lw_p45 : lw_okq (⟨"LandGoodsModel", "every", "()I"⟩, 37) := ⟨⟨by decide +kernel, by decide +kernel⟩, List.mem_of_getElem? (i := 710) (by decide +kernel), List.mem_of_getElem? (i := 943) (by decide +kernel), List.mem_of_getElem? (i := 944) (by decide +kernel)⟩
theorem lw_p46 : lw_okq (⟨"LandGoodsModel", "rest", "(I)V"⟩, 37) := ⟨⟨by decide +kernel, by decide +kernel⟩, List.mem_of_getElem? (i := 710) (by decide +kernel), List.mem_of_getElem? (i := 947) (by decide +kernel), List.mem_of_getElem? (i := 948) (by decide +kernel)⟩
theorem lw_p47 : lw_okq (⟨"LandGoodsModel", "isPartBound", "(III)Z"⟩, 37) := ⟨⟨by decide +kernel, by decide +kernel⟩, List.mem_of_getElem? (i := 710) (by decide +kernel), List.mem_of_getElem? (i := 951) (by decide +kernel), List.mem_of_getElem? (i := 952) (by decide +kernel)⟩
def lw_privs_3 : List (MethodName × Nat) := [(⟨"LandGoodsModel", "next", "()V"⟩, 37), (⟨"LandGoodsModel", "byteAt", "(I)I"⟩, 37), (⟨"LandGoodsModel", "readGood", "()V"⟩, 37), (⟨"LandGoodsModel", "isWord", "(J)Z"⟩, 37), (⟨"LandGoodsModel", "word", "()J"⟩, 37), (⟨"LandGoodsModel", "bad", "(I)V"⟩, 37), (⟨"LandGoodsModel", "must", "(Z)V"⟩, 37), (⟨"LandGoodsModel", "numberTo", "(I)I"⟩, 37), (⟨"LandGoodsModel", "mustEnd", "()V"⟩, 37), (⟨"LandGoodsModel", "readLand", "()V"⟩, 37), (⟨"LandGoodsModel", "isLand", "(I)Z"⟩, 37), (⟨"LandGoodsModel", "isGood", "(I)Z"⟩, 37), (⟨"LandGoodsModel", "restAll", "()V"⟩, 37), (⟨"LandGoodsModel", "every", "()I"⟩, 37), (⟨"LandGoodsModel", "rest", "(I)V"⟩, 37), (⟨"LandGoodsModel", "isPartBound", "(III)Z"⟩, 37)]
theorem lw_r3 : ∀ q ∈ lw_privs_3, lw_okq q := List.forall_mem_cons.mpr ⟨lw_p32, List.forall_mem_cons.mpr ⟨lw_p33, List.forall_mem_cons.mpr ⟨lw_p34, List.forall_mem_cons.mpr ⟨lw_p35, List.forall_mem_cons.mpr ⟨lw_p36, List.forall_mem_cons.mpr ⟨lw_p37, List.forall_mem_cons.mpr ⟨lw_p38, List.forall_mem_cons.mpr ⟨lw_p39, List.forall_mem_cons.mpr ⟨lw_p40, List.forall_mem_cons.mpr ⟨lw_p41, List.forall_mem_cons.mpr ⟨lw_p42, List.forall_mem_cons.mpr ⟨lw_p43, List.forall_mem_cons.mpr ⟨lw_p44, List.forall_mem_cons.mpr ⟨lw_p45, List.forall_mem_cons.mpr ⟨lw_p46, List.forall_mem_cons.mpr ⟨lw_p47, fun _ h => absurd h List.not_mem_nil⟩⟩⟩⟩⟩⟩⟩⟩⟩⟩⟩⟩⟩⟩⟩⟩
theorem lw_p48 : lw_okq (⟨"LandGoodsModel", "allShares", "()I"⟩, 37) := ⟨⟨by decide +kernel, by decide +kernel⟩, List.mem_of_getElem? (i := 710) (by decide +kernel), List.mem_of_getElem? (i := 955) (by decide +kernel), List.mem_of_getElem? (i := 956) (by decide +kernel)⟩
theorem lw_p49 : lw_okq (⟨"LandGoodsModel", "bind", "(IIIJ)V"⟩, 37) := ⟨⟨by decide +kernel, by decide +kernel⟩, List.mem_of_getElem? (i := 710) (by decide +kernel), List.mem_of_getElem? (i := 959) (by decide +kernel), List.mem_of_getElem? (i := 960) (by decide +kernel)⟩
theorem lw_p50 : lw_okq (⟨"LandGoodsModel", "isRowAtRest", "(I)Z"⟩, 37) := ⟨⟨by decide +kernel, by decide +kernel⟩, List.mem_of_getElem? (i := 710) (by decide +kernel), List.mem_of_getElem? (i := 963) (by decide +kernel), List.mem_of_getElem? (i := 964) (by decide +kernel)⟩
theorem lw_p51 : lw_okq (⟨"LandGoodsModel", "isRest", "(IJJJ)Z"⟩, 37) := ⟨⟨by decide +kernel, by decide +kernel⟩, List.mem_of_getElem? (i := 710) (by decide +kernel), List.mem_of_getElem? (i := 967) (by decide +kernel), List.mem_of_getElem? (i := 968) (by decide +kernel)⟩
theorem lw_p52 : lw_okq (⟨"LandGoodsModel", "idleOf", "(I)I"⟩, 37) := ⟨⟨by decide +kernel, by decide +kernel⟩, List.mem_of_getElem? (i := 710) (by decide +kernel), List.mem_of_getElem? (i := 971) (by decide +kernel), List.mem_of_getElem? (i := 972) (by decide +kernel)⟩
theorem lw_p53 : lw_okq (⟨"LandGoodsModel", "incomeOf", "(I)J"⟩, 37) := ⟨⟨by decide +kernel, by decide +kernel⟩, List.mem_of_getElem? (i := 710) (by decide +kernel), List.mem_of_getElem? (i := 975) (by decide +kernel), List.mem_of_getElem? (i := 976) (by decide +kernel)⟩
theorem lw_p54 : lw_okq (⟨"LandGoodsModel", "counts", "(II)Z"⟩, 37) := ⟨⟨by decide +kernel, by decide +kernel⟩, List.mem_of_getElem? (i := 710) (by decide +kernel), List.mem_of_getElem? (i := 979) (by decide +kernel), List.mem_of_getElem? (i := 980) (by decide +kernel)⟩
theorem lw_p55 : lw_okq (⟨"LandGoodsModel", "makersOf", "(II)I"⟩, 37) := ⟨⟨by decide +kernel, by decide +kernel⟩, List.mem_of_getElem? (i := 710) (by decide +kernel), List.mem_of_getElem? (i := 983) (by decide +kernel), List.mem_of_getElem? (i := 984) (by decide +kernel)⟩
theorem lw_p56 : lw_okq (⟨"LandGoodsModel", "priceOf", "(II)J"⟩, 37) := ⟨⟨by decide +kernel, by decide +kernel⟩, List.mem_of_getElem? (i := 710) (by decide +kernel), List.mem_of_getElem? (i := 987) (by decide +kernel), List.mem_of_getElem? (i := 988) (by decide +kernel)⟩
theorem lw_p57 : lw_okq (⟨"LandGoodsModel", "costOf", "(II)J"⟩, 37) := ⟨⟨by decide +kernel, by decide +kernel⟩, List.mem_of_getElem? (i := 710) (by decide +kernel), List.mem_of_getElem? (i := 992) (by decide +kernel), List.mem_of_getElem? (i := 993) (by decide +kernel)⟩
theorem lw_p58 : lw_okq (⟨"LandGoodsModel", "isParted", "(IIII)Z"⟩, 37) := ⟨⟨by decide +kernel, by decide +kernel⟩, List.mem_of_getElem? (i := 710) (by decide +kernel), List.mem_of_getElem? (i := 996) (by decide +kernel), List.mem_of_getElem? (i := 997) (by decide +kernel)⟩
theorem lw_p59 : lw_okq (⟨"LandGoodsModel", "isPairBound", "(III)Z"⟩, 37) := ⟨⟨by decide +kernel, by decide +kernel⟩, List.mem_of_getElem? (i := 710) (by decide +kernel), List.mem_of_getElem? (i := 1000) (by decide +kernel), List.mem_of_getElem? (i := 1001) (by decide +kernel)⟩
theorem lw_p60 : lw_okq (⟨"LandGoodsModel", "lookItems", "(III)J"⟩, 37) := ⟨⟨by decide +kernel, by decide +kernel⟩, List.mem_of_getElem? (i := 710) (by decide +kernel), List.mem_of_getElem? (i := 1023) (by decide +kernel), List.mem_of_getElem? (i := 1024) (by decide +kernel)⟩
theorem lw_p61 : lw_okq (⟨"LandGoodsModel", "isAhead", "(IIII)Z"⟩, 37) := ⟨⟨by decide +kernel, by decide +kernel⟩, List.mem_of_getElem? (i := 710) (by decide +kernel), List.mem_of_getElem? (i := 1032) (by decide +kernel), List.mem_of_getElem? (i := 1033) (by decide +kernel)⟩
theorem lw_p62 : lw_okq (⟨"LandGoodsModel", "isRing", "(IIII)Z"⟩, 37) := ⟨⟨by decide +kernel, by decide +kernel⟩, List.mem_of_getElem? (i := 710) (by decide +kernel), List.mem_of_getElem? (i := 1041) (by decide +kernel), List.mem_of_getElem? (i := 1042) (by decide +kernel)⟩
theorem lw_p63 : lw_okq (⟨"LandGoodsModel", "gives", "(III)Z"⟩, 37) := ⟨⟨by decide +kernel, by decide +kernel⟩, List.mem_of_getElem? (i := 710) (by decide +kernel), List.mem_of_getElem? (i := 1045) (by decide +kernel), List.mem_of_getElem? (i := 1046) (by decide +kernel)⟩
def lw_privs_4 : List (MethodName × Nat) := [(⟨"LandGoodsModel", "allShares", "()I"⟩, 37), (⟨"LandGoodsModel", "bind", "(IIIJ)V"⟩, 37), (⟨"LandGoodsModel", "isRowAtRest", "(I)Z"⟩, 37), (⟨"LandGoodsModel", "isRest", "(IJJJ)Z"⟩, 37), (⟨"LandGoodsModel", "idleOf", "(I)I"⟩, 37), (⟨"LandGoodsModel", "incomeOf", "(I)J"⟩, 37), (⟨"LandGoodsModel", "counts", "(II)Z"⟩, 37), (⟨"LandGoodsModel", "makersOf", "(II)I"⟩, 37), (⟨"LandGoodsModel", "priceOf", "(II)J"⟩, 37), (⟨"LandGoodsModel", "costOf", "(II)J"⟩, 37), (⟨"LandGoodsModel", "isParted", "(IIII)Z"⟩, 37), (⟨"LandGoodsModel", "isPairBound", "(III)Z"⟩, 37), (⟨"LandGoodsModel", "lookItems", "(III)J"⟩, 37), (⟨"LandGoodsModel", "isAhead", "(IIII)Z"⟩, 37), (⟨"LandGoodsModel", "isRing", "(IIII)Z"⟩, 37), (⟨"LandGoodsModel", "gives", "(III)Z"⟩, 37)]
theorem lw_r4 : ∀ q ∈ lw_privs_4, lw_okq q := List.forall_mem_cons.mpr ⟨lw_p48, List.forall_mem_cons.mpr ⟨lw_p49, List.forall_mem_cons.mpr ⟨lw_p50, List.forall_mem_cons.mpr ⟨lw_p51, List.forall_mem_cons.mpr ⟨lw_p52, List.forall_mem_cons.mpr ⟨lw_p53, List.forall_mem_cons.mpr ⟨lw_p54, List.forall_mem_cons.mpr ⟨lw_p55, List.forall_mem_cons.mpr ⟨lw_p56, List.forall_mem_cons.mpr ⟨lw_p57, List.forall_mem_cons.mpr ⟨lw_p58, List.forall_mem_cons.mpr ⟨lw_p59, List.forall_mem_cons.mpr ⟨lw_p60, List.forall_mem_cons.mpr ⟨lw_p61, List.forall_mem_cons.mpr ⟨lw_p62, List.forall_mem_cons.mpr ⟨lw_p63, fun _ h => absurd h List.not_mem_nil⟩⟩⟩⟩⟩⟩⟩⟩⟩⟩⟩⟩⟩⟩⟩⟩
theorem lw_p64 : lw_okq (⟨"LandGoodsModel", "note", "()V"⟩, 37) := ⟨⟨by decide +kernel, by decide +kernel⟩, List.mem_of_getElem? (i := 710) (by decide +kernel), List.mem_of_getElem? (i := 1061) (by decide +kernel), List.mem_of_getElem? (i := 1062) (by decide +kernel)⟩
theorem lw_p65 : lw_okq (⟨"LandGoodsModel", "isOther", "(IIII)Z"⟩, 37) := ⟨⟨by decide +kernel, by decide +kernel⟩, List.mem_of_getElem? (i := 710) (by decide +kernel), List.mem_of_getElem? (i := 1073) (by decide +kernel), List.mem_of_getElem? (i := 1074) (by decide +kernel)⟩
theorem lw_p66 : lw_okq (⟨"LandGoodsModel", "movesOne", "()Z"⟩, 37) := ⟨⟨by decide +kernel, by decide +kernel⟩, List.mem_of_getElem? (i := 710) (by decide +kernel), List.mem_of_getElem? (i := 1083) (by decide +kernel), List.mem_of_getElem? (i := 1084) (by decide +kernel)⟩
theorem lw_p67 : lw_okq (⟨"LandGoodsModel", "kindOf", "(I)I"⟩, 37) := ⟨⟨by decide +kernel, by decide +kernel⟩, List.mem_of_getElem? (i := 710) (by decide +kernel), List.mem_of_getElem? (i := 1091) (by decide +kernel), List.mem_of_getElem? (i := 1092) (by decide +kernel)⟩
theorem lw_p68 : lw_okq (⟨"LandGoodsModel", "sizeOf", "(II)I"⟩, 37) := ⟨⟨by decide +kernel, by decide +kernel⟩, List.mem_of_getElem? (i := 710) (by decide +kernel), List.mem_of_getElem? (i := 1110) (by decide +kernel), List.mem_of_getElem? (i := 1111) (by decide +kernel)⟩
theorem lw_p69 : lw_okq (⟨"LandGoodsModel", "commonSize", "(II)I"⟩, 37) := ⟨⟨by decide +kernel, by decide +kernel⟩, List.mem_of_getElem? (i := 710) (by decide +kernel), List.mem_of_getElem? (i := 1114) (by decide +kernel), List.mem_of_getElem? (i := 1115) (by decide +kernel)⟩
theorem lw_p70 : lw_okq (⟨"LandGoodsModel", "began", "(I)V"⟩, 37) := ⟨⟨by decide +kernel, by decide +kernel⟩, List.mem_of_getElem? (i := 710) (by decide +kernel), List.mem_of_getElem? (i := 1118) (by decide +kernel), List.mem_of_getElem? (i := 1119) (by decide +kernel)⟩
theorem lw_p71 : lw_okq (⟨"LandGoodsModel", "shareOf", "(I)I"⟩, 37) := ⟨⟨by decide +kernel, by decide +kernel⟩, List.mem_of_getElem? (i := 710) (by decide +kernel), List.mem_of_getElem? (i := 1122) (by decide +kernel), List.mem_of_getElem? (i := 1123) (by decide +kernel)⟩
theorem lw_p72 : lw_okq (⟨"LandGoodsModel", "aloneMark", "(II)I"⟩, 37) := ⟨⟨by decide +kernel, by decide +kernel⟩, List.mem_of_getElem? (i := 710) (by decide +kernel), List.mem_of_getElem? (i := 1126) (by decide +kernel), List.mem_of_getElem? (i := 1127) (by decide +kernel)⟩
theorem lw_p73 : lw_okq (⟨"LandGoodsModel", "markOf", "(II)I"⟩, 37) := ⟨⟨by decide +kernel, by decide +kernel⟩, List.mem_of_getElem? (i := 710) (by decide +kernel), List.mem_of_getElem? (i := 1130) (by decide +kernel), List.mem_of_getElem? (i := 1131) (by decide +kernel)⟩
def lw_privs_5 : List (MethodName × Nat) := [(⟨"LandGoodsModel", "note", "()V"⟩, 37), (⟨"LandGoodsModel", "isOther", "(IIII)Z"⟩, 37), (⟨"LandGoodsModel", "movesOne", "()Z"⟩, 37), (⟨"LandGoodsModel", "kindOf", "(I)I"⟩, 37), (⟨"LandGoodsModel", "sizeOf", "(II)I"⟩, 37), (⟨"LandGoodsModel", "commonSize", "(II)I"⟩, 37), (⟨"LandGoodsModel", "began", "(I)V"⟩, 37), (⟨"LandGoodsModel", "shareOf", "(I)I"⟩, 37), (⟨"LandGoodsModel", "aloneMark", "(II)I"⟩, 37), (⟨"LandGoodsModel", "markOf", "(II)I"⟩, 37)]
theorem lw_r5 : ∀ q ∈ lw_privs_5, lw_okq q := List.forall_mem_cons.mpr ⟨lw_p64, List.forall_mem_cons.mpr ⟨lw_p65, List.forall_mem_cons.mpr ⟨lw_p66, List.forall_mem_cons.mpr ⟨lw_p67, List.forall_mem_cons.mpr ⟨lw_p68, List.forall_mem_cons.mpr ⟨lw_p69, List.forall_mem_cons.mpr ⟨lw_p70, List.forall_mem_cons.mpr ⟨lw_p71, List.forall_mem_cons.mpr ⟨lw_p72, List.forall_mem_cons.mpr ⟨lw_p73, fun _ h => absurd h List.not_mem_nil⟩⟩⟩⟩⟩⟩⟩⟩⟩⟩
def lw_privs : List (MethodName × Nat) := lw_privs_1 ++ (lw_privs_2 ++ (lw_privs_3 ++ (lw_privs_4 ++ (lw_privs_5))))
def lw_tbl : List Cond := k2_sels lw_privs ++ tables_1
theorem lw_privs_ok : ∀ q ∈ lw_privs, lw_okq q := by
  show ∀ q ∈ lw_privs_1 ++ (lw_privs_2 ++ (lw_privs_3 ++ (lw_privs_4 ++ (lw_privs_5)))), lw_okq q
  exact List.forall_mem_append.mpr ⟨lw_r1, List.forall_mem_append.mpr ⟨lw_r2, List.forall_mem_append.mpr ⟨lw_r3, List.forall_mem_append.mpr ⟨lw_r4, lw_r5⟩⟩⟩⟩
end
section
/-! ===== BEGIN words of one list among another's, by their places ===== -/
theorem goodIn_r {big : List Cond} (ws : List Cond) (ps : List Nat) (hp : ws = ps.filterMap (fun i => big[i]?)) (h : ws.all goodWord = true) : GoodIn big ws := by
  intro w hw
  have h1 := List.all_eq_true.mp h w hw
  rw [hp] at hw
  obtain ⟨i, -, hi⟩ := List.mem_filterMap.mp hw
  have hm : w ∈ big := by first | exact List.mem_of_getElem? hi | exact List.getElem?_mem hi
  exact ⟨hm, good_of_word h1⟩
theorem goodIn_app {big a b : List Cond} (ha : GoodIn big a) (hb : GoodIn big b) : GoodIn big (a ++ b) := fun w h => (List.mem_append.mp h).elim (ha w) (hb w)
theorem goodIn_ca {big a b : List Cond} {c : Cond} (ha : GoodIn big (c :: a)) (hb : GoodIn big b) : GoodIn big (c :: (a ++ b)) := fun w h => (List.mem_cons.mp h).elim (fun e => ha w (List.mem_cons.mpr (Or.inl e))) (fun h => (List.mem_append.mp h).elim (fun h => ha w (List.mem_cons.mpr (Or.inr h))) (hb w))
theorem goodIn_sub {big ws : List Cond} (hm : ∀ w ∈ ws, w ∈ big) (h : ws.all goodWord = true) : GoodIn big ws := fun w hw => ⟨hm w hw, good_of_word (List.all_eq_true.mp h w hw)⟩
/-! ===== END ===== -/

/-! ===== BEGIN new T[n][m]: the outer array a place, the inner ones among the pooled ===== -/
/-- f, but v at every address of l -/
def vr_up {α : Type} (f : Nat → α) (l : List Nat) (v : α) : Nat → α := fun a => if a ∈ l then v else f a
theorem vr_up_in {α : Type} {f : Nat → α} {l : List Nat} {v : α} {a : Nat} (h : a ∈ l) : vr_up f l v a = v := if_pos h
theorem vr_up_ne {α : Type} {f : Nat → α} {l : List Nat} {v : α} {a : Nat} (h : a ∉ l) : vr_up f l v a = f a := if_neg h
theorem vr_rows {L l : List Nat} {f : Nat → va_E} {e : va_E} (h : ∀ a, a ∈ l → a ∉ L) : va_pl L f ++ l.map (fun a => (a, e)) = va_pl (L ++ l) (vr_up f l e) := by
  unfold va_pl
  rw [List.map_append]
  congr 1
  · apply List.map_congr_left
    intro a ha
    rw [vr_up_ne (fun q => h a q ha)]
  · apply List.map_congr_left
    intro a ha
    rw [vr_up_in ha]
theorem vr_lay {X rows : va_W} {x : Nat × va_E} {pl : va_W} {D : va_G} {cl : List vw_C} {H : Heap} (hP : va_P D cl (((X ++ pl) ++ [x]) ++ rows) H) : va_P D cl ((X ++ [x]) ++ (pl ++ rows)) H := by
  rw [List.append_assoc (X ++ pl)] at hP
  have h := va_P.swap hP
  rw [← List.append_assoc X] at h
  have h2 := va_P.swap h
  rw [List.append_assoc (X ++ [x])] at h2
  exact h2
theorem vr_layD {X rows : va_W} {x : Nat × va_E} {pl : va_W} {A : Nat → Prop} (hD : va_D A (((X ++ pl) ++ [x]) ++ rows)) : va_D A ((X ++ [x]) ++ (pl ++ rows)) := by
  rw [List.append_assoc (X ++ pl)] at hD
  have h := va_D.swap hD
  rw [← List.append_assoc X] at h
  have h2 := va_D.swap h
  rw [List.append_assoc (X ++ [x])] at h2
  exact h2
theorem vr_outer (c : ClassId) (N h0 : Nat) : ∀ i : Nat, Jvm.Free.Multi.outerC c N h0 i = arrV c N (fun j => va_rf (if j < i then some (h0 + 1 + j) else none))
  | 0 => by
    show ({ cls := c, slots := Array.replicate N .null, vm := .none } : Cell) = _
    rw [arrV_new]
    refine congrArg (arrV c N) (funext fun j => ?_)
    simp [va_rf]
  | i + 1 => by
    show (Jvm.Free.Multi.outerC c N h0 i).setSlot i (.ref (h0 + 1 + i)) = _
    rw [vr_outer c N h0 i, arrV_store]
    refine congrArg (arrV c N) (funext fun j => ?_)
    by_cases e : j = i
    · subst e
      simp [updV, va_rf]
    · by_cases h : j < i
      · simp [updV, e, h, Nat.lt_succ_of_lt h]
      · simp [updV, e, h, show ¬ j < i + 1 by omega]
def va_AOA (t : FieldType) (U : State) : Prop := (Cond.arrayOver (.array t)).before #[] U = true
theorem va_AOA.of {t : FieldType} {A : Array Value} {U : State} (h : (Cond.arrayOver (.array t)).before A U = true) : va_AOA t U := h
theorem va_AOA.use {t : FieldType} {A : Array Value} {U : State} (h : va_AOA t U) : (Cond.arrayOver (.array t)).before A U = true := h
section VGM
variable {p : Program} {l : Launch} {e : Env} {R : Room} {s : State} {m : MethodId} {args : Array Value} {below : List Frame} {meth : Method} {c : Code} {H : Heap} {locs : List Loc} {cells slots : Nat} {Q : State → Prop}
variable {cc : ByteArray} {pc : Nat} {ls : Array Slot} {rest : List Value} {D : va_G} {cl : List vw_C} {A : Nat → Prop} {a : Nat} {tys : List (ClassId × FieldType)} {ws : va_W} {H0 : Heap}
theorem va_mna {X : va_W} {L : List Nat} {f : Nat → va_E} {cc : ByteArray} (hexec : p.tables.exec = Jvm.exec) (hb : c.code = cc) {own : String} {index : Nat} {ty : FieldType} {cy : ClassId} (hown : s.vm.findClass own = some m.cls) (hclink : (Cond.classLink own index ("[" ++ (FieldType.array ty).toString)).before args s = true) (hover : va_AOA ty s) (harr : (Cond.arrayClass ty).before args s = true) (hcy : s.vm.findClass (FieldType.array ty).toString = some cy)
    (hK : va_K D cl tys s) (hP : va_P D cl (X ++ va_pl L f) H) (hD : va_D A (X ++ va_pl L f)) (hS : va_S A H0 H locs) (hA : ∀ q, H0.size ≤ q → A q) {n k : Int32} {N' K' : Nat} {z : vp_A} (hn : ¬ n < 0) (hk : ¬ k < 0) (hN : n.toNatClampNeg = N') (hM : k.toNatClampNeg = K')
    (hb1 : N' * 4 ≤ 536870912) (hb2 : K' * componentBytes ty ≤ 536870912) (hb3 : K' ≤ 536870912) (hdf : fits ty (defaultValue ty) = true) (hdd : (defaultValue ty).isDefault = true) (hcells : cells + (1 + N') ≤ R.cells) (hslots : slots + (N' + N' * K') ≤ R.slots) (hz : ∀ c : ClassId, Jvm.Free.Multi.innerC c K' (defaultValue ty) = vp_cell c z) (hdg : decode cc pc = .ok (.multianewarray index 2, 4))
    (kk : ∀ (q : Nat) (r : Nat → Nat) (cA : ClassId) (H1 : Heap), (∀ i j : Nat, i < N' → j < N' → r i = r j → i = j) → (∀ i : Nat, i < N' → r i ∉ L) → va_K D cl (tys ++ [(cA, .array ty)]) s →
      va_P D cl ((X ++ [(q, .inl (cA, N', .inr (.inr (.inr (.inr (fun i => if i < N' then some (r i) else none))))))]) ++ va_pl (L ++ (List.range N').map r) (vr_up f ((List.range N').map r) (.inl (cy, z)))) H1 → va_D A ((X ++ [(q, .inl (cA, N', .inr (.inr (.inr (.inr (fun i => if i < N' then some (r i) else none))))))]) ++ va_pl (L ++ (List.range N').map r) (vr_up f ((List.range N').map r) (.inl (cy, z)))) → va_S A H0 H1 locs →
      W p l e R s m args below meth c H1 locs (cells + 1 + N') (slots + N' + N' * K') Q (F0 m (pc + 4) ls (.ref q :: rest))) : W p l e R s m args below meth c H locs cells slots Q (F0 m pc ls (.int k :: .int n :: rest)) := by
  subst hN
  subst hM
  intro T hT Xs
  obtain ⟨vm₁, cA, comp, -, fA, fC, hO, -, X', step⟩ := Xs.multianewarray2F hexec hown hclink (va_AOA.use hover) harr (g := F0 m pc ls (.int k :: .int n :: rest)) rfl (by rw [hb]; exact hdg) rfl hn hk hb1 hb2 hb3 hdf hdd hcells hslots
  have ec : some cy = some comp := hcy.symm.trans fC
  cases ec
  generalize hF : Jvm.Free.Multi.fill (T.setVm vm₁) cA cy n.toNatClampNeg k.toNatClampNeg (defaultValue ty) n.toNatClampNeg = F at X' step
  have hTh : (T.setVm vm₁).heap = H := hT
  obtain ⟨f1, f2, -, -⟩ := Jvm.Free.Multi.fill_facts (T.setVm vm₁) cA cy n.toNatClampNeg k.toNatClampNeg (defaultValue ty) n.toNatClampNeg
  rw [hF, hTh] at f1 f2
  have hold : ∀ x : Nat, x < H.size → F.heap[x]? = H[x]? := fun x hx => by
    have := Jvm.Free.Multi.fill_old (T.setVm vm₁) cA cy n.toNatClampNeg k.toNatClampNeg (defaultValue ty) (a := x) (by rw [hTh]; exact hx) n.toNatClampNeg
    rw [hF, hTh] at this
    exact this
  have hrow : ∀ j : Nat, j < n.toNatClampNeg → F.heap[H.size + 1 + j]? = some (vp_cell cy z) := fun j hj => by
    have := Jvm.Free.Multi.fill_inner (T.setVm vm₁) cA cy n.toNatClampNeg k.toNatClampNeg (defaultValue ty) n.toNatClampNeg j hj
    rw [hF, hTh, hz] at this
    exact this
  have hout : Jvm.Free.Multi.outerC cA n.toNatClampNeg H.size n.toNatClampNeg = vp_cell cA (n.toNatClampNeg, .inr (.inr (.inr (.inr (fun i => if i < n.toNatClampNeg then some (H.size + 1 + i) else none))))) := by
    rw [vp_cell_q]
    exact vr_outer cA n.toNatClampNeg H.size n.toNatClampNeg
  rw [hout] at f2
  have hlt : ∀ a, a ∈ L → a < H.size := fun a ha => by
    obtain ⟨k9, hk9⟩ := va_pl_get (X := X) (f := f) ha
    exact (hP k9 _ hk9).lt
  have hnl : ∀ i : Nat, i < n.toNatClampNeg → H.size + 1 + i ∉ L := fun i _ h => by
    have := hlt _ h
    omega
  have hnm : ∀ a, a ∈ (List.range n.toNatClampNeg).map (fun i => H.size + 1 + i) → a ∉ L := fun a ha h => by
    obtain ⟨i, -, rfl⟩ := List.mem_map.mp ha
    have := hlt _ h
    omega
  have hP0 : va_P D cl (X ++ va_pl L f) F.heap := hP.kept (fun k9 x hx => hold x.1 ((hP k9 x hx).lt))
  have hP1 : va_P D cl ((X ++ va_pl L f) ++ [(H.size, .inl (cA, n.toNatClampNeg, .inr (.inr (.inr (.inr (fun i => if i < n.toNatClampNeg then some (H.size + 1 + i) else none))))))]) F.heap := hP0.app (fun k9 x hx => by
    have h0 : k9 < 1 := (List.getElem?_eq_some_iff.mp hx).1
    rw [show k9 = 0 by omega] at hx
    cases hx
    exact f2)
  have hP2 : va_P D cl (((X ++ va_pl L f) ++ [(H.size, .inl (cA, n.toNatClampNeg, .inr (.inr (.inr (.inr (fun i => if i < n.toNatClampNeg then some (H.size + 1 + i) else none))))))]) ++ ((List.range n.toNatClampNeg).map (fun i => H.size + 1 + i)).map (fun a => (a, .inl (cy, z)))) F.heap := hP1.app (fun k9 x hx => by
    obtain ⟨a, ha, rfl⟩ := List.mem_map.mp (List.mem_of_getElem? hx)
    obtain ⟨i, hi, rfl⟩ := List.mem_map.mp ha
    exact hrow i (List.mem_range.mp hi))
  have hD2 : va_D A (((X ++ va_pl L f) ++ [(H.size, .inl (cA, n.toNatClampNeg, .inr (.inr (.inr (.inr (fun i => if i < n.toNatClampNeg then some (H.size + 1 + i) else none))))))]) ++ ((List.range n.toNatClampNeg).map (fun i => H.size + 1 + i)).map (fun a => (a, .inl (cy, z)))) := by
    have hD1 := hD.push (e := .inl (cA, n.toNatClampNeg, .inr (.inr (.inr (.inr (fun i => if i < n.toNatClampNeg then some (H.size + 1 + i) else none)))))) hP rfl (hA _ hS.1)
    generalize hW1 : (X ++ va_pl L f) ++ [(H.size, .inl (cA, n.toNatClampNeg, .inr (.inr (.inr (.inr (fun i => if i < n.toNatClampNeg then some (H.size + 1 + i) else none))))))] = W1 at hD1 hP1 ⊢
    have hle : ∀ (k9 : Nat) (x : Nat × va_E), W1[k9]? = some x → x.1 ≤ H.size := fun k9 x hx => by
      rw [← hW1] at hx
      by_cases hl : k9 < (X ++ va_pl L f).length
      · rw [List.getElem?_append_left hl] at hx
        exact Nat.le_of_lt ((hP k9 x hx).lt)
      · rw [List.getElem?_append_right (by omega)] at hx
        have h0 : k9 - (X ++ va_pl L f).length < 1 := (List.getElem?_eq_some_iff.mp hx).1
        rw [show k9 - (X ++ va_pl L f).length = 0 by omega] at hx
        cases hx
        exact Nat.le_refl _
    have hr : ∀ (k9 : Nat) (x : Nat × va_E), (((List.range n.toNatClampNeg).map (fun i => H.size + 1 + i)).map (fun a => ((a, .inl (cy, z)) : Nat × va_E)))[k9]? = some x → x.1 = H.size + 1 + k9 := fun k9 x hx => by
      rw [List.getElem?_map, List.getElem?_map] at hx
      by_cases h9 : k9 < n.toNatClampNeg
      · rw [List.getElem?_range h9] at hx
        cases hx
        rfl
      · have hn0 : (List.range n.toNatClampNeg)[k9]? = none := List.getElem?_eq_none (by rw [List.length_range]; omega)
        rw [hn0] at hx
        cases hx
    refine ⟨fun i j x y hi hj hxy => ?_, fun k9 x hx => ?_⟩
    · by_cases h1 : i < W1.length <;> by_cases h2 : j < W1.length
      · rw [List.getElem?_append_left h1] at hi
        rw [List.getElem?_append_left h2] at hj
        exact hD1.1 i j x y hi hj hxy
      · rw [List.getElem?_append_left h1] at hi
        rw [List.getElem?_append_right (by omega)] at hj
        have := hle _ _ hi
        have := hr _ _ hj
        omega
      · rw [List.getElem?_append_right (by omega)] at hi
        rw [List.getElem?_append_left h2] at hj
        have := hle _ _ hj
        have := hr _ _ hi
        omega
      · rw [List.getElem?_append_right (by omega)] at hi hj
        have := hr _ _ hi
        have := hr _ _ hj
        omega
    · by_cases h1 : k9 < W1.length
      · rw [List.getElem?_append_left h1] at hx
        exact hD1.2 k9 x hx
      · rw [List.getElem?_append_right (by omega)] at hx
        have := hr _ _ hx
        exact hA _ (by have := hS.1; omega)
  have hAr : ArrOfT s cA (.array ty) := fun N9 z9 => by
    obtain ⟨-, k9, hk9, cm9, hkk9⟩ := (hO 0 0 0).1
    exact ⟨(fun q hq => by cases hq), k9, hk9, cm9, hkk9⟩
  have hK2 : va_K D cl (tys ++ [(cA, .array ty)]) s := ⟨hK.1, fun k9 x hx => by
    by_cases hl : k9 < tys.length
    · rw [List.getElem?_append_left hl] at hx
      exact hK.2 k9 x hx
    · rw [List.getElem?_append_right (by omega)] at hx
      have h0 : k9 - tys.length < 1 := (List.getElem?_eq_some_iff.mp hx).1
      rw [show k9 - tys.length = 0 by omega] at hx
      cases hx
      exact ⟨hAr, fA⟩⟩
  obtain ⟨t, a1, b1⟩ := kk H.size (fun i => H.size + 1 + i) cA F.heap (fun i j _ _ h => by have h9 : H.size + 1 + i = H.size + 1 + j := h; omega) hnl hK2 (by rw [← vr_rows hnm]; exact vr_lay hP2) (by rw [← vr_rows hnm]; exact vr_layD hD2) ⟨by rw [f1]; have := hS.1; omega, fun x h1 h2 => (hold x (Nat.lt_of_lt_of_le h1 hS.1)).trans (hS.2.1 x h1 h2), hS.2.2⟩ F rfl X'
  refine ⟨t, step t ?_, b1⟩
  have e : T.heap.size = H.size := by rw [hT]
  rw [e]
  exact a1
end VGM
/-! ===== END ===== -/

/-! ===== BEGIN printed: names, fields, word lists, decode rows ===== -/
def RX0 : String := "LandGoods$Pair"
def TX0 : u_T := fun k => match k with
  | 0 => ("LandGoods$Pair", "goods", "I", false)
  | 1 => ("LandGoods$Pair", "shares", "[I", true)
  | 2 => ("LandGoods$Pair", "firstHours", "[J", true)
  | 3 => ("LandGoods$Pair", "secondHours", "[J", true)
  | 4 => ("LandGoods$Pair", "order", "[I", true)
  | 5 => ("LandGoods$Pair", "firstHands", "J", false)
  | 6 => ("LandGoods$Pair", "secondHands", "J", false)
  | 7 => ("LandGoods$Pair", "firstWage", "J", false)
  | _ => ("LandGoods$Pair", "secondWage", "J", false)
def tyX0 : Nat → FieldType := fun k => match k with
  | 0 => .int
  | 1 => .array .int
  | 2 => .array .long
  | 3 => .array .long
  | 4 => .array .int
  | 5 => .long
  | 6 => .long
  | 7 => .long
  | _ => .long
abbrev wsX00 : List Cond := u_ws RX0 TX0 9
theorem nmX0 : ∀ a, a < 9 → ∀ b, b < 9 → a ≠ b → (TX0 a).2.1 ≠ (TX0 b).2.1 := by decide +kernel
theorem tyX0_ok : ∀ k, k < 9 → parseFieldDescriptor (TX0 k).2.2.1 = some (tyX0 k) := by decide +kernel
abbrev cX0_init : ByteArray := prog_2_method_1_code
def yX0_init : MethodName := ⟨RX0, "<init>", "()V"⟩
abbrev cX0_layTwo : ByteArray := prog_2_method_2_code
def yX0_layTwo : MethodName := ⟨RX0, "layTwo", "(LLandGoods$World;II)V"⟩
abbrev cX0_layTied : ByteArray := prog_2_method_3_code
def yX0_layTied : MethodName := ⟨RX0, "layTied", "(LLandGoods$World;IJIJI)V"⟩
abbrev cX0_sort : ByteArray := prog_2_method_4_code
def yX0_sort : MethodName := ⟨RX0, "sort", "()V"⟩
abbrev cX0_settleTwo : ByteArray := prog_2_method_5_code
def yX0_settleTwo : MethodName := ⟨RX0, "settleTwo", "()V"⟩
abbrev cX0_cut : ByteArray := prog_2_method_6_code
def yX0_cut : MethodName := ⟨RX0, "cut", "()I"⟩
abbrev cX0_allShares : ByteArray := prog_2_method_7_code
def yX0_allShares : MethodName := ⟨RX0, "allShares", "()J"⟩
def RX1 : String := "LandGoods$Rest"
def TX1 : u_T := fun k => match k with
  | 0 => ("LandGoods$Rest", "couple", "LLandGoods$Pair;", true)
  | 1 => ("LandGoods$Rest", "tied", "LLandGoods$Pair;", true)
  | _ => ("LandGoods$Rest", "wins", "[[I", true)
def tyX1 : Nat → FieldType := fun k => match k with
  | 0 => .object "LandGoods$Pair"
  | 1 => .object "LandGoods$Pair"
  | _ => .array (.array .int)
abbrev wsX10 : List Cond := u_ws RX1 TX1 3
theorem nmX1 : ∀ a, a < 3 → ∀ b, b < 3 → a ≠ b → (TX1 a).2.1 ≠ (TX1 b).2.1 := by decide +kernel
theorem tyX1_ok : ∀ k, k < 3 → parseFieldDescriptor (TX1 k).2.2.1 = some (tyX1 k) := by decide +kernel
abbrev cX1_init : ByteArray := prog_3_method_1_code
def yX1_init : MethodName := ⟨RX1, "<init>", "()V"⟩
abbrev cX1_settle : ByteArray := prog_3_method_2_code
def yX1_settle : MethodName := ⟨RX1, "settle", "(LLandGoods$World;)V"⟩
abbrev cX1_clearWins : ByteArray := prog_3_method_3_code
def yX1_clearWins : MethodName := ⟨RX1, "clearWins", "()V"⟩
abbrev cX1_findTied : ByteArray := prog_3_method_4_code
def yX1_findTied : MethodName := ⟨RX1, "findTied", "(LLandGoods$World;II)Z"⟩
abbrev cX1_tie : ByteArray := prog_3_method_5_code
def yX1_tie : MethodName := ⟨RX1, "tie", "(LLandGoods$World;III)V"⟩
abbrev cX1_settleApart : ByteArray := prog_3_method_6_code
def yX1_settleApart : MethodName := ⟨RX1, "settleApart", "(LLandGoods$World;)V"⟩
abbrev cX1_shorten : ByteArray := prog_3_method_7_code
def yX1_shorten : MethodName := ⟨RX1, "shorten", "(LLandGoods$World;)V"⟩
def RX2 : String := "LandGoods$Rows"
def TX2 : u_T := fun k => match k with
  | 0 => ("LandGoods$Rows", "items", "[[I", true)
  | 1 => ("LandGoods$Rows", "lanes", "[I", true)
  | _ => ("LandGoods$Rows", "sizes", "[I", true)
def tyX2 : Nat → FieldType := fun k => match k with
  | 0 => .array (.array .int)
  | 1 => .array .int
  | _ => .array .int
abbrev wsX20 : List Cond := u_ws RX2 TX2 3
theorem nmX2 : ∀ a, a < 3 → ∀ b, b < 3 → a ≠ b → (TX2 a).2.1 ≠ (TX2 b).2.1 := by decide +kernel
theorem tyX2_ok : ∀ k, k < 3 → parseFieldDescriptor (TX2 k).2.2.1 = some (tyX2 k) := by decide +kernel
abbrev cX2_init : ByteArray := prog_4_method_1_code
def yX2_init : MethodName := ⟨RX2, "<init>", "()V"⟩
abbrev cX2_isRow : ByteArray := prog_4_method_2_code
def yX2_isRow : MethodName := ⟨RX2, "isRow", "(I)Z"⟩
abbrev cX2_isLane : ByteArray := prog_4_method_3_code
def yX2_isLane : MethodName := ⟨RX2, "isLane", "(I)Z"⟩
abbrev cX2_isMissing : ByteArray := prog_4_method_4_code
def yX2_isMissing : MethodName := ⟨RX2, "isMissing", "(I)Z"⟩
abbrev cX2_sameLane : ByteArray := prog_4_method_5_code
def yX2_sameLane : MethodName := ⟨RX2, "sameLane", "(II)Z"⟩
abbrev cX2_has : ByteArray := prog_4_method_6_code
def yX2_has : MethodName := ⟨RX2, "has", "(III)Z"⟩
abbrev cX2_item : ByteArray := prog_4_method_7_code
def yX2_item : MethodName := ⟨RX2, "item", "(II)I"⟩
abbrev cX2_make : ByteArray := prog_4_method_8_code
def yX2_make : MethodName := ⟨RX2, "make", "(III)V"⟩
abbrev cX2_put : ByteArray := prog_4_method_9_code
def yX2_put : MethodName := ⟨RX2, "put", "(III)I"⟩
abbrev cX2_carry : ByteArray := prog_4_method_10_code
def yX2_carry : MethodName := ⟨RX2, "carry", "(IIIII)V"⟩
abbrev cX2_remove : ByteArray := prog_4_method_11_code
def yX2_remove : MethodName := ⟨RX2, "remove", "(I)I"⟩
abbrev cX2_present : ByteArray := prog_4_method_12_code
def yX2_present : MethodName := ⟨RX2, "present", "()I"⟩
def RX3 : String := "LandGoods$Tape"
def TX3 : u_T := fun k => match k with
  | 0 => ("LandGoods$Tape", "bytes", "[B", true)
  | 1 => ("LandGoods$Tape", "length", "I", false)
  | 2 => ("LandGoods$Tape", "faultNumber", "I", false)
  | 3 => ("LandGoods$Tape", "faultPlace", "I", false)
  | 4 => ("LandGoods$Tape", "start", "I", false)
  | 5 => ("LandGoods$Tape", "behind", "I", false)
  | 6 => ("LandGoods$Tape", "token", "I", false)
  | _ => ("LandGoods$Tape", "value", "I", false)
def tyX3 : Nat → FieldType := fun k => match k with
  | 0 => .array .byte
  | 1 => .int
  | 2 => .int
  | 3 => .int
  | 4 => .int
  | 5 => .int
  | 6 => .int
  | _ => .int
abbrev wsX30 : List Cond := u_ws RX3 TX3 8
theorem nmX3 : ∀ a, a < 8 → ∀ b, b < 8 → a ≠ b → (TX3 a).2.1 ≠ (TX3 b).2.1 := by decide +kernel
theorem tyX3_ok : ∀ k, k < 8 → parseFieldDescriptor (TX3 k).2.2.1 = some (tyX3 k) := by decide +kernel
abbrev cX3_init : ByteArray := prog_5_method_1_code
def yX3_init : MethodName := ⟨RX3, "<init>", "()V"⟩
abbrev cX3_hasRoom : ByteArray := prog_5_method_2_code
def yX3_hasRoom : MethodName := ⟨RX3, "hasRoom", "(I)Z"⟩
abbrev cX3_append : ByteArray := prog_5_method_3_code
def yX3_append : MethodName := ⟨RX3, "append", "(JI)I"⟩
abbrev cX3_empty : ByteArray := prog_5_method_4_code
def yX3_empty : MethodName := ⟨RX3, "empty", "()V"⟩
abbrev cX3_readInto : ByteArray := prog_5_method_5_code
def yX3_readInto : MethodName := ⟨RX3, "readInto", "(LLandGoods$World;)Z"⟩
abbrev cX3_readGood : ByteArray := prog_5_method_6_code
def yX3_readGood : MethodName := ⟨RX3, "readGood", "(LLandGoods$World;)Z"⟩
abbrev cX3_readLand : ByteArray := prog_5_method_7_code
def yX3_readLand : MethodName := ⟨RX3, "readLand", "(LLandGoods$World;)Z"⟩
abbrev cX3_passSemicolon : ByteArray := prog_5_method_8_code
def yX3_passSemicolon : MethodName := ⟨RX3, "passSemicolon", "()Z"⟩
abbrev cX3_isNumberUpTo : ByteArray := prog_5_method_9_code
def yX3_isNumberUpTo : MethodName := ⟨RX3, "isNumberUpTo", "(I)Z"⟩
abbrev cX3_blame : ByteArray := prog_5_method_10_code
def yX3_blame : MethodName := ⟨RX3, "blame", "(I)Z"⟩
abbrev cX3_step : ByteArray := prog_5_method_11_code
def yX3_step : MethodName := ⟨RX3, "step", "()V"⟩
abbrev cX3_takeName : ByteArray := prog_5_method_12_code
def yX3_takeName : MethodName := ⟨RX3, "takeName", "()V"⟩
abbrev cX3_isWord : ByteArray := prog_5_method_13_code
def yX3_isWord : MethodName := ⟨RX3, "isWord", "(Ljava/lang/String;)Z"⟩
abbrev cX3_takeNumber : ByteArray := prog_5_method_14_code
def yX3_takeNumber : MethodName := ⟨RX3, "takeNumber", "()V"⟩
abbrev cX3_isLetter : ByteArray := prog_5_method_15_code
def yX3_isLetter : MethodName := ⟨RX3, "isLetter", "(B)Z"⟩
abbrev cX3_isFigure : ByteArray := prog_5_method_16_code
def yX3_isFigure : MethodName := ⟨RX3, "isFigure", "(B)Z"⟩
def RX4 : String := "LandGoods$Trace"
def TX4 : u_T := fun k => match k with
  | 0 => ("LandGoods$Trace", "numbers", "[I", true)
  | _ => ("LandGoods$Trace", "length", "I", false)
def tyX4 : Nat → FieldType := fun k => match k with
  | 0 => .array .int
  | _ => .int
abbrev wsX40 : List Cond := u_ws RX4 TX4 2
theorem nmX4 : ∀ a, a < 2 → ∀ b, b < 2 → a ≠ b → (TX4 a).2.1 ≠ (TX4 b).2.1 := by decide +kernel
theorem tyX4_ok : ∀ k, k < 2 → parseFieldDescriptor (TX4 k).2.2.1 = some (tyX4 k) := by decide +kernel
abbrev cX4_init : ByteArray := prog_6_method_1_code
def yX4_init : MethodName := ⟨RX4, "<init>", "()V"⟩
abbrev cX4_empty : ByteArray := prog_6_method_2_code
def yX4_empty : MethodName := ⟨RX4, "empty", "()V"⟩
abbrev cX4_add : ByteArray := prog_6_method_3_code
def yX4_add : MethodName := ⟨RX4, "add", "(I)V"⟩
abbrev cX4_at : ByteArray := prog_6_method_4_code
def yX4_at : MethodName := ⟨RX4, "at", "(I)I"⟩
def RX5 : String := "LandGoods$World"
def TX5 : u_T := fun k => match k with
  | 0 => ("LandGoods$World", "lands", "I", false)
  | 1 => ("LandGoods$World", "goods", "I", false)
  | 2 => ("LandGoods$World", "shares", "[I", true)
  | 3 => ("LandGoods$World", "hands", "[I", true)
  | 4 => ("LandGoods$World", "hours", "[[I", true)
  | 5 => ("LandGoods$World", "wages", "[J", true)
  | _ => ("LandGoods$World", "makers", "[I", true)
def tyX5 : Nat → FieldType := fun k => match k with
  | 0 => .int
  | 1 => .int
  | 2 => .array .int
  | 3 => .array .int
  | 4 => .array (.array .int)
  | 5 => .array .long
  | _ => .array .int
abbrev wsX50 : List Cond := u_ws RX5 TX5 7
theorem nmX5 : ∀ a, a < 7 → ∀ b, b < 7 → a ≠ b → (TX5 a).2.1 ≠ (TX5 b).2.1 := by decide +kernel
theorem tyX5_ok : ∀ k, k < 7 → parseFieldDescriptor (TX5 k).2.2.1 = some (tyX5 k) := by decide +kernel
abbrev cX5_init : ByteArray := prog_7_method_1_code
def yX5_init : MethodName := ⟨RX5, "<init>", "()V"⟩
abbrev cX5_take : ByteArray := prog_7_method_2_code
def yX5_take : MethodName := ⟨RX5, "take", "(LLandGoods$World;)V"⟩
abbrev cX5_isThere : ByteArray := prog_7_method_3_code
def yX5_isThere : MethodName := ⟨RX5, "isThere", "()Z"⟩
abbrev cX5_isLand : ByteArray := prog_7_method_4_code
def yX5_isLand : MethodName := ⟨RX5, "isLand", "(I)Z"⟩
abbrev cX5_isGood : ByteArray := prog_7_method_5_code
def yX5_isGood : MethodName := ⟨RX5, "isGood", "(I)Z"⟩
abbrev cX5_allLands : ByteArray := prog_7_method_6_code
def yX5_allLands : MethodName := ⟨RX5, "allLands", "()I"⟩
abbrev cX5_allHands : ByteArray := prog_7_method_7_code
def yX5_allHands : MethodName := ⟨RX5, "allHands", "()I"⟩
abbrev cX5_allShares : ByteArray := prog_7_method_8_code
def yX5_allShares : MethodName := ⟨RX5, "allShares", "()I"⟩
abbrev cX5_cost : ByteArray := prog_7_method_9_code
def yX5_cost : MethodName := ⟨RX5, "cost", "([JII)J"⟩
abbrev cX5_leastCost : ByteArray := prog_7_method_10_code
def yX5_leastCost : MethodName := ⟨RX5, "leastCost", "([JI)J"⟩
abbrev cX5_makersBy : ByteArray := prog_7_method_11_code
def yX5_makersBy : MethodName := ⟨RX5, "makersBy", "([JI)I"⟩
abbrev cX5_firstMaker : ByteArray := prog_7_method_12_code
def yX5_firstMaker : MethodName := ⟨RX5, "firstMaker", "(I)I"⟩
abbrev cX5_idleBy : ByteArray := prog_7_method_13_code
def yX5_idleBy : MethodName := ⟨RX5, "idleBy", "([J)I"⟩
abbrev cX5_incomeOf : ByteArray := prog_7_method_14_code
def yX5_incomeOf : MethodName := ⟨RX5, "incomeOf", "([JI)J"⟩
abbrev cX5_sharesFor : ByteArray := prog_7_method_15_code
def yX5_sharesFor : MethodName := ⟨RX5, "sharesFor", "(I)J"⟩
def RX6 : String := "LandGoods"
def TX6 : u_T := fun k => match k with
  | 0 => ("LandGoods", "rows", "LLandGoods$Rows;", true)
  | 1 => ("LandGoods", "tape", "LLandGoods$Tape;", true)
  | 2 => ("LandGoods", "bodies", "LLandGoods$Trace;", true)
  | 3 => ("LandGoods", "rest", "LLandGoods$Rest;", true)
  | 4 => ("LandGoods", "pair", "LLandGoods$Pair;", true)
  | 5 => ("LandGoods", "now", "LLandGoods$World;", true)
  | 6 => ("LandGoods", "ahead", "LLandGoods$World;", true)
  | 7 => ("LandGoods", "trial", "LLandGoods$World;", true)
  | 8 => ("LandGoods", "byHand", "[J", true)
  | 9 => ("LandGoods", "spread", "[I", true)
  | 10 => ("LandGoods", "hasAhead", "Z", false)
  | _ => ("LandGoods", "latestFinding", "I", false)
def tyX6 : Nat → FieldType := fun k => match k with
  | 0 => .object "LandGoods$Rows"
  | 1 => .object "LandGoods$Tape"
  | 2 => .object "LandGoods$Trace"
  | 3 => .object "LandGoods$Rest"
  | 4 => .object "LandGoods$Pair"
  | 5 => .object "LandGoods$World"
  | 6 => .object "LandGoods$World"
  | 7 => .object "LandGoods$World"
  | 8 => .array .long
  | 9 => .array .int
  | 10 => .boolean
  | _ => .int
abbrev wsX60 : List Cond := u_ws RX6 TX6 12
theorem nmX6 : ∀ a, a < 12 → ∀ b, b < 12 → a ≠ b → (TX6 a).2.1 ≠ (TX6 b).2.1 := by decide +kernel
theorem tyX6_ok : ∀ k, k < 12 → parseFieldDescriptor (TX6 k).2.2.1 = some (tyX6 k) := by decide +kernel
abbrev cX6_init : ByteArray := prog_1_method_1_code
def yX6_init : MethodName := ⟨RX6, "<init>", "()V"⟩
abbrev cX6_row : ByteArray := prog_1_method_2_code
def yX6_row : MethodName := ⟨RX6, "row", "(III)J"⟩
abbrev cX6_set : ByteArray := prog_1_method_3_code
def yX6_set : MethodName := ⟨RX6, "set", "(III)J"⟩
abbrev cX6_copy : ByteArray := prog_1_method_4_code
def yX6_copy : MethodName := ⟨RX6, "copy", "(IIIII)J"⟩
abbrev cX6_drop : ByteArray := prog_1_method_5_code
def yX6_drop : MethodName := ⟨RX6, "drop", "(I)J"⟩
abbrev cX6_feed : ByteArray := prog_1_method_6_code
def yX6_feed : MethodName := ⟨RX6, "feed", "(JI)J"⟩
abbrev cX6_world : ByteArray := prog_1_method_7_code
def yX6_world : MethodName := ⟨RX6, "world", "()J"⟩
abbrev cX6_fault : ByteArray := prog_1_method_8_code
def yX6_fault : MethodName := ⟨RX6, "fault", "()I"⟩
abbrev cX6_told : ByteArray := prog_1_method_9_code
def yX6_told : MethodName := ⟨RX6, "told", "(III)J"⟩
abbrev cX6_wage : ByteArray := prog_1_method_10_code
def yX6_wage : MethodName := ⟨RX6, "wage", "(II)J"⟩
abbrev cX6_price : ByteArray := prog_1_method_11_code
def yX6_price : MethodName := ⟨RX6, "price", "(II)J"⟩
abbrev cX6_gain : ByteArray := prog_1_method_12_code
def yX6_gain : MethodName := ⟨RX6, "gain", "(III)J"⟩
abbrev cX6_judge : ByteArray := prog_1_method_13_code
def yX6_judge : MethodName := ⟨RX6, "judge", "(II)J"⟩
abbrev cX6_chain : ByteArray := prog_1_method_14_code
def yX6_chain : MethodName := ⟨RX6, "chain", "(III)J"⟩
abbrev cX6_more : ByteArray := prog_1_method_15_code
def yX6_more : MethodName := ⟨RX6, "more", "(II)J"⟩
abbrev cX6_stays : ByteArray := prog_1_method_16_code
def yX6_stays : MethodName := ⟨RX6, "stays", "(III)J"⟩
abbrev cX6_learn : ByteArray := prog_1_method_17_code
def yX6_learn : MethodName := ⟨RX6, "learn", "(III)J"⟩
abbrev cX6_on : ByteArray := prog_1_method_18_code
def yX6_on : MethodName := ⟨RX6, "on", "(I)J"⟩
abbrev cX6_edge : ByteArray := prog_1_method_19_code
def yX6_edge : MethodName := ⟨RX6, "edge", "(II)J"⟩
abbrev cX6_move : ByteArray := prog_1_method_20_code
def yX6_move : MethodName := ⟨RX6, "move", "(I)J"⟩
abbrev cX6_kind : ByteArray := prog_1_method_21_code
def yX6_kind : MethodName := ⟨RX6, "kind", "(I)J"⟩
abbrev cX6_as : ByteArray := prog_1_method_22_code
def yX6_as : MethodName := ⟨RX6, "as", "(II)J"⟩
abbrev cX6_ask : ByteArray := prog_1_method_23_code
def yX6_ask : MethodName := ⟨RX6, "ask", "(II)J"⟩
abbrev cX6_trace : ByteArray := prog_1_method_24_code
def yX6_trace : MethodName := ⟨RX6, "trace", "(I)I"⟩
abbrev cX6_count : ByteArray := prog_1_method_25_code
def yX6_count : MethodName := ⟨RX6, "count", "(I)J"⟩
abbrev cX6_status : ByteArray := prog_1_method_26_code
def yX6_status : MethodName := ⟨RX6, "status", "()I"⟩
abbrev cX6_found : ByteArray := prog_1_method_27_code
def yX6_found : MethodName := ⟨RX6, "found", "(I)J"⟩
abbrev cX6_fine : ByteArray := prog_1_method_28_code
def yX6_fine : MethodName := ⟨RX6, "fine", "(J)J"⟩
abbrev cX6_findingAt : ByteArray := prog_1_method_29_code
def yX6_findingAt : MethodName := ⟨RX6, "findingAt", "(III)I"⟩
abbrev cX6_keepAhead : ByteArray := prog_1_method_30_code
def yX6_keepAhead : MethodName := ⟨RX6, "keepAhead", "()V"⟩
abbrev cX6_part : ByteArray := prog_1_method_31_code
def yX6_part : MethodName := ⟨RX6, "part", "(JJI)J"⟩
abbrev cX6_commonDivisor : ByteArray := prog_1_method_32_code
def yX6_commonDivisor : MethodName := ⟨RX6, "commonDivisor", "(JJ)J"⟩
abbrev cX6_leastRing : ByteArray := prog_1_method_33_code
def yX6_leastRing : MethodName := ⟨RX6, "leastRing", "()J"⟩
abbrev cX6_makesMore : ByteArray := prog_1_method_34_code
def yX6_makesMore : MethodName := ⟨RX6, "makesMore", "(I)Z"⟩
abbrev cX6_landOfRing : ByteArray := prog_1_method_35_code
def yX6_landOfRing : MethodName := ⟨RX6, "landOfRing", "(II)I"⟩
abbrev cX6_bestGift : ByteArray := prog_1_method_36_code
def yX6_bestGift : MethodName := ⟨RX6, "bestGift", "(II)I"⟩
abbrev cX6_makersChange : ByteArray := prog_1_method_37_code
def yX6_makersChange : MethodName := ⟨RX6, "makersChange", "(III)Z"⟩
abbrev cX6_oneGoes : ByteArray := prog_1_method_38_code
def yX6_oneGoes : MethodName := ⟨RX6, "oneGoes", "()Z"⟩
abbrev cX6_kindOf : ByteArray := prog_1_method_39_code
def yX6_kindOf : MethodName := ⟨RX6, "kindOf", "(I)I"⟩
abbrev cX6_isOfKind : ByteArray := prog_1_method_40_code
def yX6_isOfKind : MethodName := ⟨RX6, "isOfKind", "(II)Z"⟩
abbrev cX6_commonGoods : ByteArray := prog_1_method_41_code
def yX6_commonGoods : MethodName := ⟨RX6, "commonGoods", "()J"⟩
abbrev cX6_sizeOf : ByteArray := prog_1_method_42_code
def yX6_sizeOf : MethodName := ⟨RX6, "sizeOf", "(II)J"⟩
abbrev cX6_markOf : ByteArray := prog_1_method_43_code
def yX6_markOf : MethodName := ⟨RX6, "markOf", "(II)J"⟩
abbrev cX6_body : ByteArray := prog_1_method_44_code
def yX6_body : MethodName := ⟨RX6, "body", "(III)J"⟩
def RX7 : String := "LandGoodsModel"
def TX7 : u_T := fun k => match k with
  | 0 => ("LandGoodsModel", "thrown", "I", false)
  | 1 => ("LandGoodsModel", "status", "I", false)
  | 2 => ("LandGoodsModel", "lane", "[I", true)
  | 3 => ("LandGoodsModel", "many", "[I", true)
  | 4 => ("LandGoodsModel", "item", "[I", true)
  | 5 => ("LandGoodsModel", "lands", "I", false)
  | 6 => ("LandGoodsModel", "goods", "I", false)
  | 7 => ("LandGoodsModel", "share", "[I", true)
  | 8 => ("LandGoodsModel", "hands", "[I", true)
  | 9 => ("LandGoodsModel", "hours", "[I", true)
  | 10 => ("LandGoodsModel", "newLands", "I", false)
  | 11 => ("LandGoodsModel", "newGoods", "I", false)
  | 12 => ("LandGoodsModel", "newShare", "[I", true)
  | 13 => ("LandGoodsModel", "newHands", "[I", true)
  | 14 => ("LandGoodsModel", "newHours", "[I", true)
  | 15 => ("LandGoodsModel", "tape", "[I", true)
  | 16 => ("LandGoodsModel", "taped", "I", false)
  | 17 => ("LandGoodsModel", "latest", "I", false)
  | 18 => ("LandGoodsModel", "length", "I", false)
  | 19 => ("LandGoodsModel", "cursor", "I", false)
  | 20 => ("LandGoodsModel", "token", "I", false)
  | 21 => ("LandGoodsModel", "from", "I", false)
  | 22 => ("LandGoodsModel", "till", "I", false)
  | 23 => ("LandGoodsModel", "fault", "I", false)
  | 24 => ("LandGoodsModel", "faultAt", "I", false)
  | 25 => ("LandGoodsModel", "wasChanged", "Z", false)
  | 26 => ("LandGoodsModel", "wages", "[J", true)
  | 27 => ("LandGoodsModel", "makes", "[I", true)
  | 28 => ("LandGoodsModel", "row", "[J", true)
  | 29 => ("LandGoodsModel", "isKnown", "Z", false)
  | 30 => ("LandGoodsModel", "known", "[J", true)
  | 31 => ("LandGoodsModel", "ringAbove", "J", false)
  | 32 => ("LandGoodsModel", "ringBelow", "J", false)
  | 33 => ("LandGoodsModel", "wasAbove", "[J", true)
  | 34 => ("LandGoodsModel", "wasBelow", "[J", true)
  | 35 => ("LandGoodsModel", "trace", "[I", true)
  | _ => ("LandGoodsModel", "traced", "I", false)
def tyX7 : Nat → FieldType := fun k => match k with
  | 0 => .int
  | 1 => .int
  | 2 => .array .int
  | 3 => .array .int
  | 4 => .array .int
  | 5 => .int
  | 6 => .int
  | 7 => .array .int
  | 8 => .array .int
  | 9 => .array .int
  | 10 => .int
  | 11 => .int
  | 12 => .array .int
  | 13 => .array .int
  | 14 => .array .int
  | 15 => .array .int
  | 16 => .int
  | 17 => .int
  | 18 => .int
  | 19 => .int
  | 20 => .int
  | 21 => .int
  | 22 => .int
  | 23 => .int
  | 24 => .int
  | 25 => .boolean
  | 26 => .array .long
  | 27 => .array .int
  | 28 => .array .long
  | 29 => .boolean
  | 30 => .array .long
  | 31 => .long
  | 32 => .long
  | 33 => .array .long
  | 34 => .array .long
  | 35 => .array .int
  | _ => .int
abbrev wsX70 : List Cond := u_ws RX7 TX7 37
theorem nmX7 : ∀ a, a < 37 → ∀ b, b < 37 → a ≠ b → (TX7 a).2.1 ≠ (TX7 b).2.1 := by decide +kernel
theorem tyX7_ok : ∀ k, k < 37 → parseFieldDescriptor (TX7 k).2.2.1 = some (tyX7 k) := by decide +kernel
abbrev cX7_init : ByteArray := prog_9_method_1_code
def yX7_init : MethodName := ⟨RX7, "<init>", "()V"⟩
abbrev cX7_in : ByteArray := prog_9_method_3_code
def yX7_in : MethodName := ⟨RX7, "in", "(JJJ)Z"⟩
abbrev cX7_finding : ByteArray := prog_9_method_4_code
def yX7_finding : MethodName := ⟨RX7, "finding", "(I)J"⟩
abbrev cX7_isRow : ByteArray := prog_9_method_5_code
def yX7_isRow : MethodName := ⟨RX7, "isRow", "(I)Z"⟩
abbrev cX7_row : ByteArray := prog_9_method_6_code
def yX7_row : MethodName := ⟨RX7, "row", "(III)J"⟩
abbrev cX7_set : ByteArray := prog_9_method_7_code
def yX7_set : MethodName := ⟨RX7, "set", "(III)J"⟩
abbrev cX7_copy : ByteArray := prog_9_method_8_code
def yX7_copy : MethodName := ⟨RX7, "copy", "(IIIII)J"⟩
abbrev cX7_drop : ByteArray := prog_9_method_9_code
def yX7_drop : MethodName := ⟨RX7, "drop", "(I)J"⟩
abbrev cX7_lookItems : ByteArray := prog_9_method_10_code
def yX7_lookItems : MethodName := ⟨RX7, "lookItems", "(III)J"⟩
abbrev cX7_feed : ByteArray := prog_9_method_11_code
def yX7_feed : MethodName := ⟨RX7, "feed", "(JI)J"⟩
abbrev cX7_byteAt : ByteArray := prog_9_method_12_code
def yX7_byteAt : MethodName := ⟨RX7, "byteAt", "(I)I"⟩
abbrev cX7_isLetter : ByteArray := prog_9_method_13_code
def yX7_isLetter : MethodName := ⟨RX7, "isLetter", "(I)Z"⟩
abbrev cX7_isFigure : ByteArray := prog_9_method_14_code
def yX7_isFigure : MethodName := ⟨RX7, "isFigure", "(I)Z"⟩
abbrev cX7_next : ByteArray := prog_9_method_15_code
def yX7_next : MethodName := ⟨RX7, "next", "()V"⟩
abbrev cX7_bad : ByteArray := prog_9_method_16_code
def yX7_bad : MethodName := ⟨RX7, "bad", "(I)V"⟩
abbrev cX7_must : ByteArray := prog_9_method_17_code
def yX7_must : MethodName := ⟨RX7, "must", "(Z)V"⟩
abbrev cX7_word : ByteArray := prog_9_method_18_code
def yX7_word : MethodName := ⟨RX7, "word", "()J"⟩
abbrev cX7_numberTo : ByteArray := prog_9_method_19_code
def yX7_numberTo : MethodName := ⟨RX7, "numberTo", "(I)I"⟩
abbrev cX7_isWord : ByteArray := prog_9_method_20_code
def yX7_isWord : MethodName := ⟨RX7, "isWord", "(J)Z"⟩
abbrev cX7_mustEnd : ByteArray := prog_9_method_21_code
def yX7_mustEnd : MethodName := ⟨RX7, "mustEnd", "()V"⟩
abbrev cX7_readGood : ByteArray := prog_9_method_22_code
def yX7_readGood : MethodName := ⟨RX7, "readGood", "()V"⟩
abbrev cX7_readLand : ByteArray := prog_9_method_23_code
def yX7_readLand : MethodName := ⟨RX7, "readLand", "()V"⟩
abbrev cX7_world : ByteArray := prog_9_method_24_code
def yX7_world : MethodName := ⟨RX7, "world", "()J"⟩
abbrev cX7_fault : ByteArray := prog_9_method_25_code
def yX7_fault : MethodName := ⟨RX7, "fault", "()I"⟩
abbrev cX7_isLand : ByteArray := prog_9_method_26_code
def yX7_isLand : MethodName := ⟨RX7, "isLand", "(I)Z"⟩
abbrev cX7_isGood : ByteArray := prog_9_method_27_code
def yX7_isGood : MethodName := ⟨RX7, "isGood", "(I)Z"⟩
abbrev cX7_told : ByteArray := prog_9_method_28_code
def yX7_told : MethodName := ⟨RX7, "told", "(III)J"⟩
abbrev cX7_counts : ByteArray := prog_9_method_29_code
def yX7_counts : MethodName := ⟨RX7, "counts", "(II)Z"⟩
abbrev cX7_costOf : ByteArray := prog_9_method_30_code
def yX7_costOf : MethodName := ⟨RX7, "costOf", "(II)J"⟩
abbrev cX7_priceOf : ByteArray := prog_9_method_31_code
def yX7_priceOf : MethodName := ⟨RX7, "priceOf", "(II)J"⟩
abbrev cX7_makersOf : ByteArray := prog_9_method_32_code
def yX7_makersOf : MethodName := ⟨RX7, "makersOf", "(II)I"⟩
abbrev cX7_allShares : ByteArray := prog_9_method_33_code
def yX7_allShares : MethodName := ⟨RX7, "allShares", "()I"⟩
abbrev cX7_incomeOf : ByteArray := prog_9_method_34_code
def yX7_incomeOf : MethodName := ⟨RX7, "incomeOf", "(I)J"⟩
abbrev cX7_idleOf : ByteArray := prog_9_method_35_code
def yX7_idleOf : MethodName := ⟨RX7, "idleOf", "(I)I"⟩
abbrev cX7_isRest : ByteArray := prog_9_method_36_code
def yX7_isRest : MethodName := ⟨RX7, "isRest", "(IJJJ)Z"⟩
abbrev cX7_isRowAtRest : ByteArray := prog_9_method_37_code
def yX7_isRowAtRest : MethodName := ⟨RX7, "isRowAtRest", "(I)Z"⟩
abbrev cX7_bind : ByteArray := prog_9_method_38_code
def yX7_bind : MethodName := ⟨RX7, "bind", "(IIIJ)V"⟩
abbrev cX7_isPairBound : ByteArray := prog_9_method_39_code
def yX7_isPairBound : MethodName := ⟨RX7, "isPairBound", "(III)Z"⟩
abbrev cX7_isParted : ByteArray := prog_9_method_40_code
def yX7_isParted : MethodName := ⟨RX7, "isParted", "(IIII)Z"⟩
abbrev cX7_isPartBound : ByteArray := prog_9_method_41_code
def yX7_isPartBound : MethodName := ⟨RX7, "isPartBound", "(III)Z"⟩
abbrev cX7_rest : ByteArray := prog_9_method_42_code
def yX7_rest : MethodName := ⟨RX7, "rest", "(I)V"⟩
abbrev cX7_every : ByteArray := prog_9_method_43_code
def yX7_every : MethodName := ⟨RX7, "every", "()I"⟩
abbrev cX7_restAll : ByteArray := prog_9_method_44_code
def yX7_restAll : MethodName := ⟨RX7, "restAll", "()V"⟩
abbrev cX7_common : ByteArray := prog_9_method_45_code
def yX7_common : MethodName := ⟨RX7, "common", "(JJ)J"⟩
abbrev cX7_partOf : ByteArray := prog_9_method_46_code
def yX7_partOf : MethodName := ⟨RX7, "partOf", "(JJI)J"⟩
abbrev cX7_wage : ByteArray := prog_9_method_47_code
def yX7_wage : MethodName := ⟨RX7, "wage", "(II)J"⟩
abbrev cX7_price : ByteArray := prog_9_method_48_code
def yX7_price : MethodName := ⟨RX7, "price", "(II)J"⟩
abbrev cX7_gain : ByteArray := prog_9_method_49_code
def yX7_gain : MethodName := ⟨RX7, "gain", "(III)J"⟩
abbrev cX7_judge : ByteArray := prog_9_method_50_code
def yX7_judge : MethodName := ⟨RX7, "judge", "(II)J"⟩
abbrev cX7_isAhead : ByteArray := prog_9_method_51_code
def yX7_isAhead : MethodName := ⟨RX7, "isAhead", "(IIII)Z"⟩
abbrev cX7_chain : ByteArray := prog_9_method_52_code
def yX7_chain : MethodName := ⟨RX7, "chain", "(III)J"⟩
abbrev cX7_gives : ByteArray := prog_9_method_53_code
def yX7_gives : MethodName := ⟨RX7, "gives", "(III)Z"⟩
abbrev cX7_isRing : ByteArray := prog_9_method_54_code
def yX7_isRing : MethodName := ⟨RX7, "isRing", "(IIII)Z"⟩
abbrev cX7_more : ByteArray := prog_9_method_55_code
def yX7_more : MethodName := ⟨RX7, "more", "(II)J"⟩
abbrev cX7_stays : ByteArray := prog_9_method_56_code
def yX7_stays : MethodName := ⟨RX7, "stays", "(III)J"⟩
abbrev cX7_note : ByteArray := prog_9_method_57_code
def yX7_note : MethodName := ⟨RX7, "note", "()V"⟩
abbrev cX7_learn : ByteArray := prog_9_method_58_code
def yX7_learn : MethodName := ⟨RX7, "learn", "(III)J"⟩
abbrev cX7_on : ByteArray := prog_9_method_59_code
def yX7_on : MethodName := ⟨RX7, "on", "(I)J"⟩
abbrev cX7_isOther : ByteArray := prog_9_method_60_code
def yX7_isOther : MethodName := ⟨RX7, "isOther", "(IIII)Z"⟩
abbrev cX7_edge : ByteArray := prog_9_method_61_code
def yX7_edge : MethodName := ⟨RX7, "edge", "(II)J"⟩
abbrev cX7_movesOne : ByteArray := prog_9_method_62_code
def yX7_movesOne : MethodName := ⟨RX7, "movesOne", "()Z"⟩
abbrev cX7_move : ByteArray := prog_9_method_63_code
def yX7_move : MethodName := ⟨RX7, "move", "(I)J"⟩
abbrev cX7_bits : ByteArray := prog_9_method_64_code
def yX7_bits : MethodName := ⟨RX7, "bits", "(I)I"⟩
abbrev cX7_kindOf : ByteArray := prog_9_method_65_code
def yX7_kindOf : MethodName := ⟨RX7, "kindOf", "(I)I"⟩
abbrev cX7_isOf : ByteArray := prog_9_method_66_code
def yX7_isOf : MethodName := ⟨RX7, "isOf", "(II)Z"⟩
abbrev cX7_kind : ByteArray := prog_9_method_67_code
def yX7_kind : MethodName := ⟨RX7, "kind", "(I)J"⟩
abbrev cX7_as : ByteArray := prog_9_method_68_code
def yX7_as : MethodName := ⟨RX7, "as", "(II)J"⟩
abbrev cX7_began : ByteArray := prog_9_method_69_code
def yX7_began : MethodName := ⟨RX7, "began", "(I)V"⟩
abbrev cX7_shareOf : ByteArray := prog_9_method_70_code
def yX7_shareOf : MethodName := ⟨RX7, "shareOf", "(I)I"⟩
abbrev cX7_aloneMark : ByteArray := prog_9_method_71_code
def yX7_aloneMark : MethodName := ⟨RX7, "aloneMark", "(II)I"⟩
abbrev cX7_commonSize : ByteArray := prog_9_method_72_code
def yX7_commonSize : MethodName := ⟨RX7, "commonSize", "(II)I"⟩
abbrev cX7_sizeOf : ByteArray := prog_9_method_73_code
def yX7_sizeOf : MethodName := ⟨RX7, "sizeOf", "(II)I"⟩
abbrev cX7_markOf : ByteArray := prog_9_method_74_code
def yX7_markOf : MethodName := ⟨RX7, "markOf", "(II)I"⟩
abbrev cX7_ask : ByteArray := prog_9_method_75_code
def yX7_ask : MethodName := ⟨RX7, "ask", "(II)J"⟩
abbrev cX7_trace : ByteArray := prog_9_method_76_code
def yX7_trace : MethodName := ⟨RX7, "trace", "(I)I"⟩
abbrev cX7_count : ByteArray := prog_9_method_77_code
def yX7_count : MethodName := ⟨RX7, "count", "(I)J"⟩
abbrev cX7_status : ByteArray := prog_9_method_78_code
def yX7_status : MethodName := ⟨RX7, "status", "()I"⟩
def RJ6 : String := "java/lang/Integer"
def TJ6 : u_T := fun k => match k with
  | _ => ("", "", "", false)
def tyJ6 : Nat → FieldType := fun k => match k with
  | _ => .int
abbrev wsJ60 : List Cond := u_ws RJ6 TJ6 0
theorem nmJ6 : ∀ a, a < 0 → ∀ b, b < 0 → a ≠ b → (TJ6 a).2.1 ≠ (TJ6 b).2.1 := by decide +kernel
theorem tyJ6_ok : ∀ k, k < 0 → parseFieldDescriptor (TJ6 k).2.2.1 = some (tyJ6 k) := by decide +kernel
abbrev cJ6_bitCount_0f7a4 : ByteArray := prog_10_method_49_code
def yJ6_bitCount_0f7a4 : MethodName := ⟨RJ6, "bitCount", "(I)I"⟩
def RJ9 : String := "java/lang/Math"
def TJ9 : u_T := fun k => match k with
  | _ => ("", "", "", false)
def tyJ9 : Nat → FieldType := fun k => match k with
  | _ => .int
abbrev wsJ90 : List Cond := u_ws RJ9 TJ9 0
theorem nmJ9 : ∀ a, a < 0 → ∀ b, b < 0 → a ≠ b → (TJ9 a).2.1 ≠ (TJ9 b).2.1 := by decide +kernel
theorem tyJ9_ok : ∀ k, k < 0 → parseFieldDescriptor (TJ9 k).2.2.1 = some (tyJ9 k) := by decide +kernel
abbrev cJ9_min_f86c9 : ByteArray := prog_11_method_70_code
def yJ9_min_f86c9 : MethodName := ⟨RJ9, "min", "(JJ)J"⟩
def RJ0 : String := "java/lang/String"
def TJ0 : u_T := fun k => match k with
  | _ => ("", "", "", false)
def tyJ0 : Nat → FieldType := fun k => match k with
  | _ => .int
abbrev wsJ00 : List Cond := u_ws RJ0 TJ0 0
theorem nmJ0 : ∀ a, a < 0 → ∀ b, b < 0 → a ≠ b → (TJ0 a).2.1 ≠ (TJ0 b).2.1 := by decide +kernel
theorem tyJ0_ok : ∀ k, k < 0 → parseFieldDescriptor (TJ0 k).2.2.1 = some (tyJ0 k) := by decide +kernel
abbrev cJ0_length_8abf5 : ByteArray := prog_12_method_54_code
def yJ0_length_8abf5 : MethodName := ⟨RJ0, "length", "()I"⟩
abbrev cJ0_charAt_5068e : ByteArray := prog_12_method_56_code
def yJ0_charAt_5068e : MethodName := ⟨RJ0, "charAt", "(I)C"⟩
abbrev cJ0_coder_7d493 : ByteArray := prog_12_method_152_code
def yJ0_coder_7d493 : MethodName := ⟨RJ0, "coder", "()B"⟩
abbrev cJ0_isLatin1_aae02 : ByteArray := prog_12_method_154_code
def yJ0_isLatin1_aae02 : MethodName := ⟨RJ0, "isLatin1", "()Z"⟩
abbrev cJ0_checkIndex_df160 : ByteArray := prog_12_method_155_code
def yJ0_checkIndex_df160 : MethodName := ⟨RJ0, "checkIndex", "(II)V"⟩
def RJ1 : String := "java/lang/StringLatin1"
def TJ1 : u_T := fun k => match k with
  | _ => ("", "", "", false)
def tyJ1 : Nat → FieldType := fun k => match k with
  | _ => .int
abbrev wsJ10 : List Cond := u_ws RJ1 TJ1 0
theorem nmJ1 : ∀ a, a < 0 → ∀ b, b < 0 → a ≠ b → (TJ1 a).2.1 ≠ (TJ1 b).2.1 := by decide +kernel
theorem tyJ1_ok : ∀ k, k < 0 → parseFieldDescriptor (TJ1 k).2.2.1 = some (tyJ1 k) := by decide +kernel
abbrev cJ1_charAt_3b067 : ByteArray := prog_13_method_2_code
def yJ1_charAt_3b067 : MethodName := ⟨RJ1, "charAt", "([BI)C"⟩
def RJ2 : String := "java/lang/StringUTF16"
def TJ2 : u_T := fun k => match k with
  | _ => ("", "", "", false)
def tyJ2 : Nat → FieldType := fun k => match k with
  | _ => .int
abbrev wsJ20 : List Cond := u_ws RJ2 TJ2 0
theorem nmJ2 : ∀ a, a < 0 → ∀ b, b < 0 → a ≠ b → (TJ2 a).2.1 ≠ (TJ2 b).2.1 := by decide +kernel
theorem tyJ2_ok : ∀ k, k < 0 → parseFieldDescriptor (TJ2 k).2.2.1 = some (tyJ2 k) := by decide +kernel
abbrev cJ2_getChar_3b067 : ByteArray := prog_14_method_5_code
def yJ2_getChar_3b067 : MethodName := ⟨RJ2, "getChar", "([BI)C"⟩
abbrev cJ2_length_9d52b : ByteArray := prog_14_method_6_code
def yJ2_length_9d52b : MethodName := ⟨RJ2, "length", "([B)I"⟩
abbrev cJ2_charAt_3b067 : ByteArray := prog_14_method_83_code
def yJ2_charAt_3b067 : MethodName := ⟨RJ2, "charAt", "([BI)C"⟩
abbrev cJ2_checkIndex_2214a : ByteArray := prog_14_method_91_code
def yJ2_checkIndex_2214a : MethodName := ⟨RJ2, "checkIndex", "(I[B)V"⟩
def RJ10 : String := "java/lang/System"
def TJ10 : u_T := fun k => match k with
  | _ => ("", "", "", false)
def tyJ10 : Nat → FieldType := fun k => match k with
  | _ => .int
abbrev wsJ100 : List Cond := u_ws RJ10 TJ10 0
theorem nmJ10 : ∀ a, a < 0 → ∀ b, b < 0 → a ≠ b → (TJ10 a).2.1 ≠ (TJ10 b).2.1 := by decide +kernel
theorem tyJ10_ok : ∀ k, k < 0 → parseFieldDescriptor (TJ10 k).2.2.1 = some (tyJ10 k) := by decide +kernel
def RJ3 : String := "jdk/internal/util/Preconditions"
def TJ3 : u_T := fun k => match k with
  | _ => ("", "", "", false)
def tyJ3 : Nat → FieldType := fun k => match k with
  | _ => .int
abbrev wsJ30 : List Cond := u_ws RJ3 TJ3 0
theorem nmJ3 : ∀ a, a < 0 → ∀ b, b < 0 → a ≠ b → (TJ3 a).2.1 ≠ (TJ3 b).2.1 := by decide +kernel
theorem tyJ3_ok : ∀ k, k < 0 → parseFieldDescriptor (TJ3 k).2.2.1 = some (tyJ3 k) := by decide +kernel
abbrev cJ3_checkIndex_8e157 : ByteArray := prog_16_method_11_code
def yJ3_checkIndex_8e157 : MethodName := ⟨RJ3, "checkIndex", "(IILjava/util/function/BiFunction;)I"⟩
def RL : String := "LandGoodsLaw"
abbrev cL_law : ByteArray := code
def yL_law : MethodName := ⟨RL, "law", "([I)Z"⟩
end
section
theorem dX0_init_0 : decode cX0_init 0 = .ok (.aload_n 0, 1) := by decide +kernel
theorem dX0_init_1 : decode cX0_init 1 = .ok (.invokespecial 3, 3) := by decide +kernel
theorem dX0_init_4 : decode cX0_init 4 = .ok (.aload_n 0, 1) := by decide +kernel
theorem dX0_init_5 : decode cX0_init 5 = .ok (.iconst 0, 1) := by decide +kernel
theorem dX0_init_6 : decode cX0_init 6 = .ok (.putfield 9, 3) := by decide +kernel
theorem dX0_init_9 : decode cX0_init 9 = .ok (.aload_n 0, 1) := by decide +kernel
theorem dX0_init_10 : decode cX0_init 10 = .ok (.bipush 6, 2) := by decide +kernel
theorem dX0_init_12 : decode cX0_init 12 = .ok (.newarray .int, 2) := by decide +kernel
theorem dX0_init_14 : decode cX0_init 14 = .ok (.putfield 15, 3) := by decide +kernel
theorem dX0_init_17 : decode cX0_init 17 = .ok (.aload_n 0, 1) := by decide +kernel
theorem dX0_init_18 : decode cX0_init 18 = .ok (.bipush 6, 2) := by decide +kernel
theorem dX0_init_20 : decode cX0_init 20 = .ok (.newarray .long, 2) := by decide +kernel
theorem dX0_init_22 : decode cX0_init 22 = .ok (.putfield 19, 3) := by decide +kernel
theorem dX0_init_25 : decode cX0_init 25 = .ok (.aload_n 0, 1) := by decide +kernel
theorem dX0_init_26 : decode cX0_init 26 = .ok (.bipush 6, 2) := by decide +kernel
theorem dX0_init_28 : decode cX0_init 28 = .ok (.newarray .long, 2) := by decide +kernel
theorem dX0_init_30 : decode cX0_init 30 = .ok (.putfield 23, 3) := by decide +kernel
theorem dX0_init_33 : decode cX0_init 33 = .ok (.aload_n 0, 1) := by decide +kernel
theorem dX0_init_34 : decode cX0_init 34 = .ok (.bipush 6, 2) := by decide +kernel
theorem dX0_init_36 : decode cX0_init 36 = .ok (.newarray .int, 2) := by decide +kernel
theorem dX0_init_38 : decode cX0_init 38 = .ok (.putfield 26, 3) := by decide +kernel
theorem dX0_init_41 : decode cX0_init 41 = .ok (.aload_n 0, 1) := by decide +kernel
theorem dX0_init_42 : decode cX0_init 42 = .ok (.lconst 1, 1) := by decide +kernel
theorem dX0_init_43 : decode cX0_init 43 = .ok (.putfield 29, 3) := by decide +kernel
theorem dX0_init_46 : decode cX0_init 46 = .ok (.aload_n 0, 1) := by decide +kernel
theorem dX0_init_47 : decode cX0_init 47 = .ok (.lconst 1, 1) := by decide +kernel
theorem dX0_init_48 : decode cX0_init 48 = .ok (.putfield 33, 3) := by decide +kernel
theorem dX0_init_51 : decode cX0_init 51 = .ok (.aload_n 0, 1) := by decide +kernel
theorem dX0_init_52 : decode cX0_init 52 = .ok (.lconst 1, 1) := by decide +kernel
theorem dX0_init_53 : decode cX0_init 53 = .ok (.putfield 36, 3) := by decide +kernel
theorem dX0_init_56 : decode cX0_init 56 = .ok (.aload_n 0, 1) := by decide +kernel
theorem dX0_init_57 : decode cX0_init 57 = .ok (.lconst 1, 1) := by decide +kernel
theorem dX0_init_58 : decode cX0_init 58 = .ok (.putfield 39, 3) := by decide +kernel
theorem dX0_init_61 : decode cX0_init 61 = .ok (.return_, 1) := by decide +kernel
theorem dX0_layTwo_0 : decode cX0_layTwo 0 = .ok (.aload_n 0, 1) := by decide +kernel
theorem dX0_layTwo_1 : decode cX0_layTwo 1 = .ok (.aload_n 1, 1) := by decide +kernel
theorem dX0_layTwo_2 : decode cX0_layTwo 2 = .ok (.getfield 42, 3) := by decide +kernel
theorem dX0_layTwo_5 : decode cX0_layTwo 5 = .ok (.putfield 9, 3) := by decide +kernel
theorem dX0_layTwo_8 : decode cX0_layTwo 8 = .ok (.aload_n 0, 1) := by decide +kernel
theorem dX0_layTwo_9 : decode cX0_layTwo 9 = .ok (.aload_n 1, 1) := by decide +kernel
theorem dX0_layTwo_10 : decode cX0_layTwo 10 = .ok (.getfield 45, 3) := by decide +kernel
theorem dX0_layTwo_13 : decode cX0_layTwo 13 = .ok (.iload_n 2, 1) := by decide +kernel
theorem dX0_layTwo_14 : decode cX0_layTwo 14 = .ok (.iaload, 1) := by decide +kernel
theorem dX0_layTwo_15 : decode cX0_layTwo 15 = .ok (.i2l, 1) := by decide +kernel
theorem dX0_layTwo_16 : decode cX0_layTwo 16 = .ok (.putfield 29, 3) := by decide +kernel
theorem dX0_layTwo_19 : decode cX0_layTwo 19 = .ok (.aload_n 0, 1) := by decide +kernel
theorem dX0_layTwo_20 : decode cX0_layTwo 20 = .ok (.aload_n 1, 1) := by decide +kernel
theorem dX0_layTwo_21 : decode cX0_layTwo 21 = .ok (.getfield 45, 3) := by decide +kernel
theorem dX0_layTwo_24 : decode cX0_layTwo 24 = .ok (.iload_n 3, 1) := by decide +kernel
theorem dX0_layTwo_25 : decode cX0_layTwo 25 = .ok (.iaload, 1) := by decide +kernel
theorem dX0_layTwo_26 : decode cX0_layTwo 26 = .ok (.i2l, 1) := by decide +kernel
theorem dX0_layTwo_27 : decode cX0_layTwo 27 = .ok (.putfield 33, 3) := by decide +kernel
theorem dX0_layTwo_30 : decode cX0_layTwo 30 = .ok (.iconst 0, 1) := by decide +kernel
theorem dX0_layTwo_31 : decode cX0_layTwo 31 = .ok (.istore 4, 2) := by decide +kernel
theorem dX0_layTwo_33 : decode cX0_layTwo 33 = .ok (.iload 4, 2) := by decide +kernel
theorem dX0_layTwo_35 : decode cX0_layTwo 35 = .ok (.aload_n 0, 1) := by decide +kernel
theorem dX0_layTwo_36 : decode cX0_layTwo 36 = .ok (.getfield 9, 3) := by decide +kernel
theorem dX0_layTwo_39 : decode cX0_layTwo 39 = .ok (.if_icmp .ge 57, 3) := by decide +kernel
theorem dX0_layTwo_42 : decode cX0_layTwo 42 = .ok (.aload_n 0, 1) := by decide +kernel
theorem dX0_layTwo_43 : decode cX0_layTwo 43 = .ok (.getfield 15, 3) := by decide +kernel
theorem dX0_layTwo_46 : decode cX0_layTwo 46 = .ok (.iload 4, 2) := by decide +kernel
theorem dX0_layTwo_48 : decode cX0_layTwo 48 = .ok (.aload_n 1, 1) := by decide +kernel
theorem dX0_layTwo_49 : decode cX0_layTwo 49 = .ok (.getfield 48, 3) := by decide +kernel
theorem dX0_layTwo_52 : decode cX0_layTwo 52 = .ok (.iload 4, 2) := by decide +kernel
theorem dX0_layTwo_54 : decode cX0_layTwo 54 = .ok (.iaload, 1) := by decide +kernel
theorem dX0_layTwo_55 : decode cX0_layTwo 55 = .ok (.iastore, 1) := by decide +kernel
theorem dX0_layTwo_56 : decode cX0_layTwo 56 = .ok (.aload_n 0, 1) := by decide +kernel
theorem dX0_layTwo_57 : decode cX0_layTwo 57 = .ok (.getfield 19, 3) := by decide +kernel
theorem dX0_layTwo_60 : decode cX0_layTwo 60 = .ok (.iload 4, 2) := by decide +kernel
theorem dX0_layTwo_62 : decode cX0_layTwo 62 = .ok (.aload_n 1, 1) := by decide +kernel
theorem dX0_layTwo_63 : decode cX0_layTwo 63 = .ok (.getfield 49, 3) := by decide +kernel
theorem dX0_layTwo_66 : decode cX0_layTwo 66 = .ok (.iload_n 2, 1) := by decide +kernel
theorem dX0_layTwo_67 : decode cX0_layTwo 67 = .ok (.aaload, 1) := by decide +kernel
theorem dX0_layTwo_68 : decode cX0_layTwo 68 = .ok (.iload 4, 2) := by decide +kernel
theorem dX0_layTwo_70 : decode cX0_layTwo 70 = .ok (.iaload, 1) := by decide +kernel
theorem dX0_layTwo_71 : decode cX0_layTwo 71 = .ok (.i2l, 1) := by decide +kernel
theorem dX0_layTwo_72 : decode cX0_layTwo 72 = .ok (.lastore, 1) := by decide +kernel
theorem dX0_layTwo_73 : decode cX0_layTwo 73 = .ok (.aload_n 0, 1) := by decide +kernel
theorem dX0_layTwo_74 : decode cX0_layTwo 74 = .ok (.getfield 23, 3) := by decide +kernel
theorem dX0_layTwo_77 : decode cX0_layTwo 77 = .ok (.iload 4, 2) := by decide +kernel
theorem dX0_layTwo_79 : decode cX0_layTwo 79 = .ok (.aload_n 1, 1) := by decide +kernel
theorem dX0_layTwo_80 : decode cX0_layTwo 80 = .ok (.getfield 49, 3) := by decide +kernel
theorem dX0_layTwo_83 : decode cX0_layTwo 83 = .ok (.iload_n 3, 1) := by decide +kernel
theorem dX0_layTwo_84 : decode cX0_layTwo 84 = .ok (.aaload, 1) := by decide +kernel
theorem dX0_layTwo_85 : decode cX0_layTwo 85 = .ok (.iload 4, 2) := by decide +kernel
theorem dX0_layTwo_87 : decode cX0_layTwo 87 = .ok (.iaload, 1) := by decide +kernel
theorem dX0_layTwo_88 : decode cX0_layTwo 88 = .ok (.i2l, 1) := by decide +kernel
theorem dX0_layTwo_89 : decode cX0_layTwo 89 = .ok (.lastore, 1) := by decide +kernel
theorem dX0_layTwo_90 : decode cX0_layTwo 90 = .ok (.iinc 4 1, 3) := by decide +kernel
theorem dX0_layTwo_93 : decode cX0_layTwo 93 = .ok (.goto (-60), 3) := by decide +kernel
theorem dX0_layTwo_96 : decode cX0_layTwo 96 = .ok (.return_, 1) := by decide +kernel
theorem dX0_layTied_0 : decode cX0_layTied 0 = .ok (.aload_n 0, 1) := by decide +kernel
theorem dX0_layTied_1 : decode cX0_layTied 1 = .ok (.aload_n 1, 1) := by decide +kernel
theorem dX0_layTied_2 : decode cX0_layTied 2 = .ok (.getfield 42, 3) := by decide +kernel
theorem dX0_layTied_5 : decode cX0_layTied 5 = .ok (.putfield 9, 3) := by decide +kernel
theorem dX0_layTied_8 : decode cX0_layTied 8 = .ok (.aload_n 0, 1) := by decide +kernel
theorem dX0_layTied_9 : decode cX0_layTied 9 = .ok (.aload_n 1, 1) := by decide +kernel
theorem dX0_layTied_10 : decode cX0_layTied 10 = .ok (.getfield 45, 3) := by decide +kernel
theorem dX0_layTied_13 : decode cX0_layTied 13 = .ok (.iload_n 2, 1) := by decide +kernel
theorem dX0_layTied_14 : decode cX0_layTied 14 = .ok (.iaload, 1) := by decide +kernel
theorem dX0_layTied_15 : decode cX0_layTied 15 = .ok (.i2l, 1) := by decide +kernel
theorem dX0_layTied_16 : decode cX0_layTied 16 = .ok (.lload_n 3, 1) := by decide +kernel
theorem dX0_layTied_17 : decode cX0_layTied 17 = .ok (.lmul, 1) := by decide +kernel
theorem dX0_layTied_18 : decode cX0_layTied 18 = .ok (.aload_n 1, 1) := by decide +kernel
theorem dX0_layTied_19 : decode cX0_layTied 19 = .ok (.getfield 45, 3) := by decide +kernel
theorem dX0_layTied_22 : decode cX0_layTied 22 = .ok (.iload 5, 2) := by decide +kernel
theorem dX0_layTied_24 : decode cX0_layTied 24 = .ok (.iaload, 1) := by decide +kernel
theorem dX0_layTied_25 : decode cX0_layTied 25 = .ok (.i2l, 1) := by decide +kernel
theorem dX0_layTied_26 : decode cX0_layTied 26 = .ok (.lload 6, 2) := by decide +kernel
theorem dX0_layTied_28 : decode cX0_layTied 28 = .ok (.lmul, 1) := by decide +kernel
theorem dX0_layTied_29 : decode cX0_layTied 29 = .ok (.ladd, 1) := by decide +kernel
theorem dX0_layTied_30 : decode cX0_layTied 30 = .ok (.putfield 29, 3) := by decide +kernel
theorem dX0_layTied_33 : decode cX0_layTied 33 = .ok (.aload_n 0, 1) := by decide +kernel
theorem dX0_layTied_34 : decode cX0_layTied 34 = .ok (.aload_n 1, 1) := by decide +kernel
theorem dX0_layTied_35 : decode cX0_layTied 35 = .ok (.getfield 45, 3) := by decide +kernel
theorem dX0_layTied_38 : decode cX0_layTied 38 = .ok (.iload 8, 2) := by decide +kernel
theorem dX0_layTied_40 : decode cX0_layTied 40 = .ok (.iaload, 1) := by decide +kernel
theorem dX0_layTied_41 : decode cX0_layTied 41 = .ok (.i2l, 1) := by decide +kernel
theorem dX0_layTied_42 : decode cX0_layTied 42 = .ok (.putfield 33, 3) := by decide +kernel
theorem dX0_layTied_45 : decode cX0_layTied 45 = .ok (.iconst 0, 1) := by decide +kernel
theorem dX0_layTied_46 : decode cX0_layTied 46 = .ok (.istore 9, 2) := by decide +kernel
theorem dX0_layTied_48 : decode cX0_layTied 48 = .ok (.iload 9, 2) := by decide +kernel
theorem dX0_layTied_50 : decode cX0_layTied 50 = .ok (.aload_n 0, 1) := by decide +kernel
theorem dX0_layTied_51 : decode cX0_layTied 51 = .ok (.getfield 9, 3) := by decide +kernel
theorem dX0_layTied_54 : decode cX0_layTied 54 = .ok (.if_icmp .ge 77, 3) := by decide +kernel
theorem dX0_layTied_57 : decode cX0_layTied 57 = .ok (.aload_n 0, 1) := by decide +kernel
theorem dX0_layTied_58 : decode cX0_layTied 58 = .ok (.getfield 15, 3) := by decide +kernel
theorem dX0_layTied_61 : decode cX0_layTied 61 = .ok (.iload 9, 2) := by decide +kernel
theorem dX0_layTied_63 : decode cX0_layTied 63 = .ok (.aload_n 1, 1) := by decide +kernel
theorem dX0_layTied_64 : decode cX0_layTied 64 = .ok (.getfield 48, 3) := by decide +kernel
theorem dX0_layTied_67 : decode cX0_layTied 67 = .ok (.iload 9, 2) := by decide +kernel
theorem dX0_layTied_69 : decode cX0_layTied 69 = .ok (.iaload, 1) := by decide +kernel
theorem dX0_layTied_70 : decode cX0_layTied 70 = .ok (.iastore, 1) := by decide +kernel
theorem dX0_layTied_71 : decode cX0_layTied 71 = .ok (.aload_n 0, 1) := by decide +kernel
theorem dX0_layTied_72 : decode cX0_layTied 72 = .ok (.getfield 19, 3) := by decide +kernel
theorem dX0_layTied_75 : decode cX0_layTied 75 = .ok (.iload 9, 2) := by decide +kernel
theorem dX0_layTied_77 : decode cX0_layTied 77 = .ok (.aload_n 1, 1) := by decide +kernel
theorem dX0_layTied_78 : decode cX0_layTied 78 = .ok (.getfield 49, 3) := by decide +kernel
theorem dX0_layTied_81 : decode cX0_layTied 81 = .ok (.iload_n 2, 1) := by decide +kernel
theorem dX0_layTied_82 : decode cX0_layTied 82 = .ok (.aaload, 1) := by decide +kernel
theorem dX0_layTied_83 : decode cX0_layTied 83 = .ok (.iload 9, 2) := by decide +kernel
theorem dX0_layTied_85 : decode cX0_layTied 85 = .ok (.iaload, 1) := by decide +kernel
theorem dX0_layTied_86 : decode cX0_layTied 86 = .ok (.i2l, 1) := by decide +kernel
theorem dX0_layTied_87 : decode cX0_layTied 87 = .ok (.lload_n 3, 1) := by decide +kernel
theorem dX0_layTied_88 : decode cX0_layTied 88 = .ok (.lmul, 1) := by decide +kernel
theorem dX0_layTied_89 : decode cX0_layTied 89 = .ok (.aload_n 1, 1) := by decide +kernel
theorem dX0_layTied_90 : decode cX0_layTied 90 = .ok (.getfield 49, 3) := by decide +kernel
theorem dX0_layTied_93 : decode cX0_layTied 93 = .ok (.iload 5, 2) := by decide +kernel
theorem dX0_layTied_95 : decode cX0_layTied 95 = .ok (.aaload, 1) := by decide +kernel
theorem dX0_layTied_96 : decode cX0_layTied 96 = .ok (.iload 9, 2) := by decide +kernel
theorem dX0_layTied_98 : decode cX0_layTied 98 = .ok (.iaload, 1) := by decide +kernel
theorem dX0_layTied_99 : decode cX0_layTied 99 = .ok (.i2l, 1) := by decide +kernel
theorem dX0_layTied_100 : decode cX0_layTied 100 = .ok (.lload 6, 2) := by decide +kernel
theorem dX0_layTied_102 : decode cX0_layTied 102 = .ok (.lmul, 1) := by decide +kernel
theorem dX0_layTied_103 : decode cX0_layTied 103 = .ok (.invokestatic 53, 3) := by decide +kernel
theorem dX0_layTied_106 : decode cX0_layTied 106 = .ok (.lastore, 1) := by decide +kernel
theorem dX0_layTied_107 : decode cX0_layTied 107 = .ok (.aload_n 0, 1) := by decide +kernel
theorem dX0_layTied_108 : decode cX0_layTied 108 = .ok (.getfield 23, 3) := by decide +kernel
theorem dX0_layTied_111 : decode cX0_layTied 111 = .ok (.iload 9, 2) := by decide +kernel
theorem dX0_layTied_113 : decode cX0_layTied 113 = .ok (.aload_n 1, 1) := by decide +kernel
theorem dX0_layTied_114 : decode cX0_layTied 114 = .ok (.getfield 49, 3) := by decide +kernel
theorem dX0_layTied_117 : decode cX0_layTied 117 = .ok (.iload 8, 2) := by decide +kernel
theorem dX0_layTied_119 : decode cX0_layTied 119 = .ok (.aaload, 1) := by decide +kernel
theorem dX0_layTied_120 : decode cX0_layTied 120 = .ok (.iload 9, 2) := by decide +kernel
theorem dX0_layTied_122 : decode cX0_layTied 122 = .ok (.iaload, 1) := by decide +kernel
theorem dX0_layTied_123 : decode cX0_layTied 123 = .ok (.i2l, 1) := by decide +kernel
theorem dX0_layTied_124 : decode cX0_layTied 124 = .ok (.lastore, 1) := by decide +kernel
theorem dX0_layTied_125 : decode cX0_layTied 125 = .ok (.iinc 9 1, 3) := by decide +kernel
theorem dX0_layTied_128 : decode cX0_layTied 128 = .ok (.goto (-80), 3) := by decide +kernel
theorem dX0_layTied_131 : decode cX0_layTied 131 = .ok (.return_, 1) := by decide +kernel
theorem dX0_sort_0 : decode cX0_sort 0 = .ok (.iconst 0, 1) := by decide +kernel
theorem dX0_sort_1 : decode cX0_sort 1 = .ok (.istore_n 1, 1) := by decide +kernel
theorem dX0_sort_2 : decode cX0_sort 2 = .ok (.iload_n 1, 1) := by decide +kernel
theorem dX0_sort_3 : decode cX0_sort 3 = .ok (.aload_n 0, 1) := by decide +kernel
theorem dX0_sort_4 : decode cX0_sort 4 = .ok (.getfield 9, 3) := by decide +kernel
theorem dX0_sort_7 : decode cX0_sort 7 = .ok (.if_icmp .ge 86, 3) := by decide +kernel
theorem dX0_sort_10 : decode cX0_sort 10 = .ok (.iload_n 1, 1) := by decide +kernel
theorem dX0_sort_11 : decode cX0_sort 11 = .ok (.istore_n 2, 1) := by decide +kernel
theorem dX0_sort_12 : decode cX0_sort 12 = .ok (.iload_n 2, 1) := by decide +kernel
theorem dX0_sort_13 : decode cX0_sort 13 = .ok (.ifCond .le 67, 3) := by decide +kernel
theorem dX0_sort_16 : decode cX0_sort 16 = .ok (.aload_n 0, 1) := by decide +kernel
theorem dX0_sort_17 : decode cX0_sort 17 = .ok (.getfield 19, 3) := by decide +kernel
theorem dX0_sort_20 : decode cX0_sort 20 = .ok (.aload_n 0, 1) := by decide +kernel
theorem dX0_sort_21 : decode cX0_sort 21 = .ok (.getfield 26, 3) := by decide +kernel
theorem dX0_sort_24 : decode cX0_sort 24 = .ok (.iload_n 2, 1) := by decide +kernel
theorem dX0_sort_25 : decode cX0_sort 25 = .ok (.iconst 1, 1) := by decide +kernel
theorem dX0_sort_26 : decode cX0_sort 26 = .ok (.isub, 1) := by decide +kernel
theorem dX0_sort_27 : decode cX0_sort 27 = .ok (.iaload, 1) := by decide +kernel
theorem dX0_sort_28 : decode cX0_sort 28 = .ok (.laload, 1) := by decide +kernel
theorem dX0_sort_29 : decode cX0_sort 29 = .ok (.aload_n 0, 1) := by decide +kernel
theorem dX0_sort_30 : decode cX0_sort 30 = .ok (.getfield 23, 3) := by decide +kernel
theorem dX0_sort_33 : decode cX0_sort 33 = .ok (.iload_n 1, 1) := by decide +kernel
theorem dX0_sort_34 : decode cX0_sort 34 = .ok (.laload, 1) := by decide +kernel
theorem dX0_sort_35 : decode cX0_sort 35 = .ok (.lmul, 1) := by decide +kernel
theorem dX0_sort_36 : decode cX0_sort 36 = .ok (.aload_n 0, 1) := by decide +kernel
theorem dX0_sort_37 : decode cX0_sort 37 = .ok (.getfield 19, 3) := by decide +kernel
theorem dX0_sort_40 : decode cX0_sort 40 = .ok (.iload_n 1, 1) := by decide +kernel
theorem dX0_sort_41 : decode cX0_sort 41 = .ok (.laload, 1) := by decide +kernel
theorem dX0_sort_42 : decode cX0_sort 42 = .ok (.aload_n 0, 1) := by decide +kernel
theorem dX0_sort_43 : decode cX0_sort 43 = .ok (.getfield 23, 3) := by decide +kernel
theorem dX0_sort_46 : decode cX0_sort 46 = .ok (.aload_n 0, 1) := by decide +kernel
theorem dX0_sort_47 : decode cX0_sort 47 = .ok (.getfield 26, 3) := by decide +kernel
theorem dX0_sort_50 : decode cX0_sort 50 = .ok (.iload_n 2, 1) := by decide +kernel
theorem dX0_sort_51 : decode cX0_sort 51 = .ok (.iconst 1, 1) := by decide +kernel
theorem dX0_sort_52 : decode cX0_sort 52 = .ok (.isub, 1) := by decide +kernel
theorem dX0_sort_53 : decode cX0_sort 53 = .ok (.iaload, 1) := by decide +kernel
theorem dX0_sort_54 : decode cX0_sort 54 = .ok (.laload, 1) := by decide +kernel
theorem dX0_sort_55 : decode cX0_sort 55 = .ok (.lmul, 1) := by decide +kernel
theorem dX0_sort_56 : decode cX0_sort 56 = .ok (.lcmp, 1) := by decide +kernel
theorem dX0_sort_57 : decode cX0_sort 57 = .ok (.ifCond .le 23, 3) := by decide +kernel
theorem dX0_sort_60 : decode cX0_sort 60 = .ok (.aload_n 0, 1) := by decide +kernel
theorem dX0_sort_61 : decode cX0_sort 61 = .ok (.getfield 26, 3) := by decide +kernel
theorem dX0_sort_64 : decode cX0_sort 64 = .ok (.iload_n 2, 1) := by decide +kernel
theorem dX0_sort_65 : decode cX0_sort 65 = .ok (.aload_n 0, 1) := by decide +kernel
theorem dX0_sort_66 : decode cX0_sort 66 = .ok (.getfield 26, 3) := by decide +kernel
theorem dX0_sort_69 : decode cX0_sort 69 = .ok (.iload_n 2, 1) := by decide +kernel
theorem dX0_sort_70 : decode cX0_sort 70 = .ok (.iconst 1, 1) := by decide +kernel
theorem dX0_sort_71 : decode cX0_sort 71 = .ok (.isub, 1) := by decide +kernel
theorem dX0_sort_72 : decode cX0_sort 72 = .ok (.iaload, 1) := by decide +kernel
theorem dX0_sort_73 : decode cX0_sort 73 = .ok (.iastore, 1) := by decide +kernel
theorem dX0_sort_74 : decode cX0_sort 74 = .ok (.iinc 2 (-1), 3) := by decide +kernel
theorem dX0_sort_77 : decode cX0_sort 77 = .ok (.goto (-65), 3) := by decide +kernel
theorem dX0_sort_80 : decode cX0_sort 80 = .ok (.aload_n 0, 1) := by decide +kernel
theorem dX0_sort_81 : decode cX0_sort 81 = .ok (.getfield 26, 3) := by decide +kernel
theorem dX0_sort_84 : decode cX0_sort 84 = .ok (.iload_n 2, 1) := by decide +kernel
theorem dX0_sort_85 : decode cX0_sort 85 = .ok (.iload_n 1, 1) := by decide +kernel
theorem dX0_sort_86 : decode cX0_sort 86 = .ok (.iastore, 1) := by decide +kernel
theorem dX0_sort_87 : decode cX0_sort 87 = .ok (.iinc 1 1, 3) := by decide +kernel
theorem dX0_sort_90 : decode cX0_sort 90 = .ok (.goto (-88), 3) := by decide +kernel
theorem dX0_sort_93 : decode cX0_sort 93 = .ok (.return_, 1) := by decide +kernel
theorem dX0_settleTwo_0 : decode cX0_settleTwo 0 = .ok (.aload_n 0, 1) := by decide +kernel
theorem dX0_settleTwo_1 : decode cX0_settleTwo 1 = .ok (.invokevirtual 59, 3) := by decide +kernel
theorem dX0_settleTwo_4 : decode cX0_settleTwo 4 = .ok (.lstore_n 1, 1) := by decide +kernel
theorem dX0_settleTwo_5 : decode cX0_settleTwo 5 = .ok (.lconst 0, 1) := by decide +kernel
theorem dX0_settleTwo_6 : decode cX0_settleTwo 6 = .ok (.lstore_n 3, 1) := by decide +kernel
theorem dX0_settleTwo_7 : decode cX0_settleTwo 7 = .ok (.iconst 0, 1) := by decide +kernel
theorem dX0_settleTwo_8 : decode cX0_settleTwo 8 = .ok (.istore 5, 2) := by decide +kernel
theorem dX0_settleTwo_10 : decode cX0_settleTwo 10 = .ok (.iload 5, 2) := by decide +kernel
theorem dX0_settleTwo_12 : decode cX0_settleTwo 12 = .ok (.aload_n 0, 1) := by decide +kernel
theorem dX0_settleTwo_13 : decode cX0_settleTwo 13 = .ok (.getfield 9, 3) := by decide +kernel
theorem dX0_settleTwo_16 : decode cX0_settleTwo 16 = .ok (.if_icmp .ge 119, 3) := by decide +kernel
theorem dX0_settleTwo_19 : decode cX0_settleTwo 19 = .ok (.aload_n 0, 1) := by decide +kernel
theorem dX0_settleTwo_20 : decode cX0_settleTwo 20 = .ok (.getfield 26, 3) := by decide +kernel
theorem dX0_settleTwo_23 : decode cX0_settleTwo 23 = .ok (.iload 5, 2) := by decide +kernel
theorem dX0_settleTwo_25 : decode cX0_settleTwo 25 = .ok (.iaload, 1) := by decide +kernel
theorem dX0_settleTwo_26 : decode cX0_settleTwo 26 = .ok (.istore 6, 2) := by decide +kernel
theorem dX0_settleTwo_28 : decode cX0_settleTwo 28 = .ok (.aload_n 0, 1) := by decide +kernel
theorem dX0_settleTwo_29 : decode cX0_settleTwo 29 = .ok (.getfield 29, 3) := by decide +kernel
theorem dX0_settleTwo_32 : decode cX0_settleTwo 32 = .ok (.aload_n 0, 1) := by decide +kernel
theorem dX0_settleTwo_33 : decode cX0_settleTwo 33 = .ok (.getfield 23, 3) := by decide +kernel
theorem dX0_settleTwo_36 : decode cX0_settleTwo 36 = .ok (.iload 6, 2) := by decide +kernel
theorem dX0_settleTwo_38 : decode cX0_settleTwo 38 = .ok (.laload, 1) := by decide +kernel
theorem dX0_settleTwo_39 : decode cX0_settleTwo 39 = .ok (.lmul, 1) := by decide +kernel
theorem dX0_settleTwo_40 : decode cX0_settleTwo 40 = .ok (.lstore 7, 2) := by decide +kernel
theorem dX0_settleTwo_42 : decode cX0_settleTwo 42 = .ok (.lload 7, 2) := by decide +kernel
theorem dX0_settleTwo_44 : decode cX0_settleTwo 44 = .ok (.aload_n 0, 1) := by decide +kernel
theorem dX0_settleTwo_45 : decode cX0_settleTwo 45 = .ok (.getfield 33, 3) := by decide +kernel
theorem dX0_settleTwo_48 : decode cX0_settleTwo 48 = .ok (.aload_n 0, 1) := by decide +kernel
theorem dX0_settleTwo_49 : decode cX0_settleTwo 49 = .ok (.getfield 19, 3) := by decide +kernel
theorem dX0_settleTwo_52 : decode cX0_settleTwo 52 = .ok (.iload 6, 2) := by decide +kernel
theorem dX0_settleTwo_54 : decode cX0_settleTwo 54 = .ok (.laload, 1) := by decide +kernel
theorem dX0_settleTwo_55 : decode cX0_settleTwo 55 = .ok (.lmul, 1) := by decide +kernel
theorem dX0_settleTwo_56 : decode cX0_settleTwo 56 = .ok (.ladd, 1) := by decide +kernel
theorem dX0_settleTwo_57 : decode cX0_settleTwo 57 = .ok (.lstore 9, 2) := by decide +kernel
theorem dX0_settleTwo_59 : decode cX0_settleTwo 59 = .ok (.lload 7, 2) := by decide +kernel
theorem dX0_settleTwo_61 : decode cX0_settleTwo 61 = .ok (.lload_n 1, 1) := by decide +kernel
theorem dX0_settleTwo_62 : decode cX0_settleTwo 62 = .ok (.lmul, 1) := by decide +kernel
theorem dX0_settleTwo_63 : decode cX0_settleTwo 63 = .ok (.lload_n 3, 1) := by decide +kernel
theorem dX0_settleTwo_64 : decode cX0_settleTwo 64 = .ok (.lload 9, 2) := by decide +kernel
theorem dX0_settleTwo_66 : decode cX0_settleTwo 66 = .ok (.lmul, 1) := by decide +kernel
theorem dX0_settleTwo_67 : decode cX0_settleTwo 67 = .ok (.lcmp, 1) := by decide +kernel
theorem dX0_settleTwo_68 : decode cX0_settleTwo 68 = .ok (.ifCond .ge 6, 3) := by decide +kernel
theorem dX0_settleTwo_71 : decode cX0_settleTwo 71 = .ok (.goto 64, 3) := by decide +kernel
theorem dX0_settleTwo_74 : decode cX0_settleTwo 74 = .ok (.lload 7, 2) := by decide +kernel
theorem dX0_settleTwo_76 : decode cX0_settleTwo 76 = .ok (.lload_n 1, 1) := by decide +kernel
theorem dX0_settleTwo_77 : decode cX0_settleTwo 77 = .ok (.lmul, 1) := by decide +kernel
theorem dX0_settleTwo_78 : decode cX0_settleTwo 78 = .ok (.lload_n 3, 1) := by decide +kernel
theorem dX0_settleTwo_79 : decode cX0_settleTwo 79 = .ok (.aload_n 0, 1) := by decide +kernel
theorem dX0_settleTwo_80 : decode cX0_settleTwo 80 = .ok (.getfield 15, 3) := by decide +kernel
theorem dX0_settleTwo_83 : decode cX0_settleTwo 83 = .ok (.iload 6, 2) := by decide +kernel
theorem dX0_settleTwo_85 : decode cX0_settleTwo 85 = .ok (.iaload, 1) := by decide +kernel
theorem dX0_settleTwo_86 : decode cX0_settleTwo 86 = .ok (.i2l, 1) := by decide +kernel
theorem dX0_settleTwo_87 : decode cX0_settleTwo 87 = .ok (.ladd, 1) := by decide +kernel
theorem dX0_settleTwo_88 : decode cX0_settleTwo 88 = .ok (.lload 9, 2) := by decide +kernel
theorem dX0_settleTwo_90 : decode cX0_settleTwo 90 = .ok (.lmul, 1) := by decide +kernel
theorem dX0_settleTwo_91 : decode cX0_settleTwo 91 = .ok (.lcmp, 1) := by decide +kernel
theorem dX0_settleTwo_92 : decode cX0_settleTwo 92 = .ok (.ifCond .gt 26, 3) := by decide +kernel
theorem dX0_settleTwo_95 : decode cX0_settleTwo 95 = .ok (.aload_n 0, 1) := by decide +kernel
theorem dX0_settleTwo_96 : decode cX0_settleTwo 96 = .ok (.aload_n 0, 1) := by decide +kernel
theorem dX0_settleTwo_97 : decode cX0_settleTwo 97 = .ok (.getfield 23, 3) := by decide +kernel
theorem dX0_settleTwo_100 : decode cX0_settleTwo 100 = .ok (.iload 6, 2) := by decide +kernel
theorem dX0_settleTwo_102 : decode cX0_settleTwo 102 = .ok (.laload, 1) := by decide +kernel
theorem dX0_settleTwo_103 : decode cX0_settleTwo 103 = .ok (.putfield 36, 3) := by decide +kernel
theorem dX0_settleTwo_106 : decode cX0_settleTwo 106 = .ok (.aload_n 0, 1) := by decide +kernel
theorem dX0_settleTwo_107 : decode cX0_settleTwo 107 = .ok (.aload_n 0, 1) := by decide +kernel
theorem dX0_settleTwo_108 : decode cX0_settleTwo 108 = .ok (.getfield 19, 3) := by decide +kernel
theorem dX0_settleTwo_111 : decode cX0_settleTwo 111 = .ok (.iload 6, 2) := by decide +kernel
theorem dX0_settleTwo_113 : decode cX0_settleTwo 113 = .ok (.laload, 1) := by decide +kernel
theorem dX0_settleTwo_114 : decode cX0_settleTwo 114 = .ok (.putfield 39, 3) := by decide +kernel
theorem dX0_settleTwo_117 : decode cX0_settleTwo 117 = .ok (.return_, 1) := by decide +kernel
theorem dX0_settleTwo_118 : decode cX0_settleTwo 118 = .ok (.lload_n 3, 1) := by decide +kernel
theorem dX0_settleTwo_119 : decode cX0_settleTwo 119 = .ok (.aload_n 0, 1) := by decide +kernel
theorem dX0_settleTwo_120 : decode cX0_settleTwo 120 = .ok (.getfield 15, 3) := by decide +kernel
theorem dX0_settleTwo_123 : decode cX0_settleTwo 123 = .ok (.iload 6, 2) := by decide +kernel
theorem dX0_settleTwo_125 : decode cX0_settleTwo 125 = .ok (.iaload, 1) := by decide +kernel
theorem dX0_settleTwo_126 : decode cX0_settleTwo 126 = .ok (.i2l, 1) := by decide +kernel
theorem dX0_settleTwo_127 : decode cX0_settleTwo 127 = .ok (.ladd, 1) := by decide +kernel
theorem dX0_settleTwo_128 : decode cX0_settleTwo 128 = .ok (.lstore_n 3, 1) := by decide +kernel
theorem dX0_settleTwo_129 : decode cX0_settleTwo 129 = .ok (.iinc 5 1, 3) := by decide +kernel
theorem dX0_settleTwo_132 : decode cX0_settleTwo 132 = .ok (.goto (-122), 3) := by decide +kernel
theorem dX0_settleTwo_135 : decode cX0_settleTwo 135 = .ok (.aload_n 0, 1) := by decide +kernel
theorem dX0_settleTwo_136 : decode cX0_settleTwo 136 = .ok (.lload_n 3, 1) := by decide +kernel
theorem dX0_settleTwo_137 : decode cX0_settleTwo 137 = .ok (.aload_n 0, 1) := by decide +kernel
theorem dX0_settleTwo_138 : decode cX0_settleTwo 138 = .ok (.getfield 33, 3) := by decide +kernel
theorem dX0_settleTwo_141 : decode cX0_settleTwo 141 = .ok (.lmul, 1) := by decide +kernel
theorem dX0_settleTwo_142 : decode cX0_settleTwo 142 = .ok (.putfield 36, 3) := by decide +kernel
theorem dX0_settleTwo_145 : decode cX0_settleTwo 145 = .ok (.aload_n 0, 1) := by decide +kernel
theorem dX0_settleTwo_146 : decode cX0_settleTwo 146 = .ok (.lload_n 1, 1) := by decide +kernel
theorem dX0_settleTwo_147 : decode cX0_settleTwo 147 = .ok (.lload_n 3, 1) := by decide +kernel
theorem dX0_settleTwo_148 : decode cX0_settleTwo 148 = .ok (.lsub, 1) := by decide +kernel
theorem dX0_settleTwo_149 : decode cX0_settleTwo 149 = .ok (.aload_n 0, 1) := by decide +kernel
theorem dX0_settleTwo_150 : decode cX0_settleTwo 150 = .ok (.getfield 29, 3) := by decide +kernel
theorem dX0_settleTwo_153 : decode cX0_settleTwo 153 = .ok (.lmul, 1) := by decide +kernel
theorem dX0_settleTwo_154 : decode cX0_settleTwo 154 = .ok (.putfield 39, 3) := by decide +kernel
theorem dX0_settleTwo_157 : decode cX0_settleTwo 157 = .ok (.return_, 1) := by decide +kernel
theorem dX0_cut_0 : decode cX0_cut 0 = .ok (.iconst 0, 1) := by decide +kernel
theorem dX0_cut_1 : decode cX0_cut 1 = .ok (.istore_n 1, 1) := by decide +kernel
theorem dX0_cut_2 : decode cX0_cut 2 = .ok (.iconst 0, 1) := by decide +kernel
theorem dX0_cut_3 : decode cX0_cut 3 = .ok (.istore_n 2, 1) := by decide +kernel
theorem dX0_cut_4 : decode cX0_cut 4 = .ok (.iconst 0, 1) := by decide +kernel
theorem dX0_cut_5 : decode cX0_cut 5 = .ok (.istore_n 3, 1) := by decide +kernel
theorem dX0_cut_6 : decode cX0_cut 6 = .ok (.iload_n 3, 1) := by decide +kernel
theorem dX0_cut_7 : decode cX0_cut 7 = .ok (.aload_n 0, 1) := by decide +kernel
theorem dX0_cut_8 : decode cX0_cut 8 = .ok (.getfield 9, 3) := by decide +kernel
theorem dX0_cut_11 : decode cX0_cut 11 = .ok (.if_icmp .ge 59, 3) := by decide +kernel
theorem dX0_cut_14 : decode cX0_cut 14 = .ok (.aload_n 0, 1) := by decide +kernel
theorem dX0_cut_15 : decode cX0_cut 15 = .ok (.getfield 19, 3) := by decide +kernel
theorem dX0_cut_18 : decode cX0_cut 18 = .ok (.iload_n 3, 1) := by decide +kernel
theorem dX0_cut_19 : decode cX0_cut 19 = .ok (.laload, 1) := by decide +kernel
theorem dX0_cut_20 : decode cX0_cut 20 = .ok (.aload_n 0, 1) := by decide +kernel
theorem dX0_cut_21 : decode cX0_cut 21 = .ok (.getfield 36, 3) := by decide +kernel
theorem dX0_cut_24 : decode cX0_cut 24 = .ok (.lmul, 1) := by decide +kernel
theorem dX0_cut_25 : decode cX0_cut 25 = .ok (.lstore 4, 2) := by decide +kernel
theorem dX0_cut_27 : decode cX0_cut 27 = .ok (.aload_n 0, 1) := by decide +kernel
theorem dX0_cut_28 : decode cX0_cut 28 = .ok (.getfield 23, 3) := by decide +kernel
theorem dX0_cut_31 : decode cX0_cut 31 = .ok (.iload_n 3, 1) := by decide +kernel
theorem dX0_cut_32 : decode cX0_cut 32 = .ok (.laload, 1) := by decide +kernel
theorem dX0_cut_33 : decode cX0_cut 33 = .ok (.aload_n 0, 1) := by decide +kernel
theorem dX0_cut_34 : decode cX0_cut 34 = .ok (.getfield 39, 3) := by decide +kernel
theorem dX0_cut_37 : decode cX0_cut 37 = .ok (.lmul, 1) := by decide +kernel
theorem dX0_cut_38 : decode cX0_cut 38 = .ok (.lstore 6, 2) := by decide +kernel
theorem dX0_cut_40 : decode cX0_cut 40 = .ok (.lload 4, 2) := by decide +kernel
theorem dX0_cut_42 : decode cX0_cut 42 = .ok (.lload 6, 2) := by decide +kernel
theorem dX0_cut_44 : decode cX0_cut 44 = .ok (.lcmp, 1) := by decide +kernel
theorem dX0_cut_45 : decode cX0_cut 45 = .ok (.ifCond .ge 9, 3) := by decide +kernel
theorem dX0_cut_48 : decode cX0_cut 48 = .ok (.iinc 1 1, 3) := by decide +kernel
theorem dX0_cut_51 : decode cX0_cut 51 = .ok (.goto 13, 3) := by decide +kernel
theorem dX0_cut_54 : decode cX0_cut 54 = .ok (.lload 4, 2) := by decide +kernel
theorem dX0_cut_56 : decode cX0_cut 56 = .ok (.lload 6, 2) := by decide +kernel
theorem dX0_cut_58 : decode cX0_cut 58 = .ok (.lcmp, 1) := by decide +kernel
theorem dX0_cut_59 : decode cX0_cut 59 = .ok (.ifCond .ne 5, 3) := by decide +kernel
theorem dX0_cut_62 : decode cX0_cut 62 = .ok (.iconst 1, 1) := by decide +kernel
theorem dX0_cut_63 : decode cX0_cut 63 = .ok (.istore_n 2, 1) := by decide +kernel
theorem dX0_cut_64 : decode cX0_cut 64 = .ok (.iinc 3 1, 3) := by decide +kernel
theorem dX0_cut_67 : decode cX0_cut 67 = .ok (.goto (-61), 3) := by decide +kernel
theorem dX0_cut_70 : decode cX0_cut 70 = .ok (.iconst 2, 1) := by decide +kernel
theorem dX0_cut_71 : decode cX0_cut 71 = .ok (.iload_n 1, 1) := by decide +kernel
theorem dX0_cut_72 : decode cX0_cut 72 = .ok (.imul, 1) := by decide +kernel
theorem dX0_cut_73 : decode cX0_cut 73 = .ok (.iload_n 2, 1) := by decide +kernel
theorem dX0_cut_74 : decode cX0_cut 74 = .ok (.iadd, 1) := by decide +kernel
theorem dX0_cut_75 : decode cX0_cut 75 = .ok (.ireturn, 1) := by decide +kernel
theorem dX0_allShares_0 : decode cX0_allShares 0 = .ok (.lconst 0, 1) := by decide +kernel
theorem dX0_allShares_1 : decode cX0_allShares 1 = .ok (.lstore_n 1, 1) := by decide +kernel
theorem dX0_allShares_2 : decode cX0_allShares 2 = .ok (.iconst 0, 1) := by decide +kernel
theorem dX0_allShares_3 : decode cX0_allShares 3 = .ok (.istore_n 3, 1) := by decide +kernel
theorem dX0_allShares_4 : decode cX0_allShares 4 = .ok (.iload_n 3, 1) := by decide +kernel
theorem dX0_allShares_5 : decode cX0_allShares 5 = .ok (.aload_n 0, 1) := by decide +kernel
theorem dX0_allShares_6 : decode cX0_allShares 6 = .ok (.getfield 9, 3) := by decide +kernel
theorem dX0_allShares_9 : decode cX0_allShares 9 = .ok (.if_icmp .ge 19, 3) := by decide +kernel
theorem dX0_allShares_12 : decode cX0_allShares 12 = .ok (.lload_n 1, 1) := by decide +kernel
theorem dX0_allShares_13 : decode cX0_allShares 13 = .ok (.aload_n 0, 1) := by decide +kernel
theorem dX0_allShares_14 : decode cX0_allShares 14 = .ok (.getfield 15, 3) := by decide +kernel
theorem dX0_allShares_17 : decode cX0_allShares 17 = .ok (.iload_n 3, 1) := by decide +kernel
theorem dX0_allShares_18 : decode cX0_allShares 18 = .ok (.iaload, 1) := by decide +kernel
theorem dX0_allShares_19 : decode cX0_allShares 19 = .ok (.i2l, 1) := by decide +kernel
theorem dX0_allShares_20 : decode cX0_allShares 20 = .ok (.ladd, 1) := by decide +kernel
theorem dX0_allShares_21 : decode cX0_allShares 21 = .ok (.lstore_n 1, 1) := by decide +kernel
theorem dX0_allShares_22 : decode cX0_allShares 22 = .ok (.iinc 3 1, 3) := by decide +kernel
theorem dX0_allShares_25 : decode cX0_allShares 25 = .ok (.goto (-21), 3) := by decide +kernel
theorem dX0_allShares_28 : decode cX0_allShares 28 = .ok (.lload_n 1, 1) := by decide +kernel
theorem dX0_allShares_29 : decode cX0_allShares 29 = .ok (.lreturn, 1) := by decide +kernel
theorem dX1_init_0 : decode cX1_init 0 = .ok (.aload_n 0, 1) := by decide +kernel
theorem dX1_init_1 : decode cX1_init 1 = .ok (.invokespecial 3, 3) := by decide +kernel
theorem dX1_init_4 : decode cX1_init 4 = .ok (.aload_n 0, 1) := by decide +kernel
theorem dX1_init_5 : decode cX1_init 5 = .ok (.new 9, 3) := by decide +kernel
theorem dX1_init_8 : decode cX1_init 8 = .ok (.dup, 1) := by decide +kernel
theorem dX1_init_9 : decode cX1_init 9 = .ok (.invokespecial 11, 3) := by decide +kernel
theorem dX1_init_12 : decode cX1_init 12 = .ok (.putfield 12, 3) := by decide +kernel
theorem dX1_init_15 : decode cX1_init 15 = .ok (.aload_n 0, 1) := by decide +kernel
theorem dX1_init_16 : decode cX1_init 16 = .ok (.new 9, 3) := by decide +kernel
theorem dX1_init_19 : decode cX1_init 19 = .ok (.dup, 1) := by decide +kernel
theorem dX1_init_20 : decode cX1_init 20 = .ok (.invokespecial 11, 3) := by decide +kernel
theorem dX1_init_23 : decode cX1_init 23 = .ok (.putfield 18, 3) := by decide +kernel
theorem dX1_init_26 : decode cX1_init 26 = .ok (.aload_n 0, 1) := by decide +kernel
theorem dX1_init_27 : decode cX1_init 27 = .ok (.iconst 3, 1) := by decide +kernel
theorem dX1_init_28 : decode cX1_init 28 = .ok (.bipush 6, 2) := by decide +kernel
theorem dX1_init_30 : decode cX1_init 30 = .ok (.multianewarray 21 2, 4) := by decide +kernel
theorem dX1_init_34 : decode cX1_init 34 = .ok (.putfield 23, 3) := by decide +kernel
theorem dX1_init_37 : decode cX1_init 37 = .ok (.return_, 1) := by decide +kernel
theorem dX1_settle_0 : decode cX1_settle 0 = .ok (.aload_n 1, 1) := by decide +kernel
theorem dX1_settle_1 : decode cX1_settle 1 = .ok (.getfield 26, 3) := by decide +kernel
theorem dX1_settle_4 : decode cX1_settle 4 = .ok (.iconst 1, 1) := by decide +kernel
theorem dX1_settle_5 : decode cX1_settle 5 = .ok (.if_icmp .ne 13, 3) := by decide +kernel
theorem dX1_settle_8 : decode cX1_settle 8 = .ok (.aload_n 1, 1) := by decide +kernel
theorem dX1_settle_9 : decode cX1_settle 9 = .ok (.getfield 32, 3) := by decide +kernel
theorem dX1_settle_12 : decode cX1_settle 12 = .ok (.iconst 0, 1) := by decide +kernel
theorem dX1_settle_13 : decode cX1_settle 13 = .ok (.lconst 1, 1) := by decide +kernel
theorem dX1_settle_14 : decode cX1_settle 14 = .ok (.lastore, 1) := by decide +kernel
theorem dX1_settle_15 : decode cX1_settle 15 = .ok (.goto 111, 3) := by decide +kernel
theorem dX1_settle_18 : decode cX1_settle 18 = .ok (.aload_n 1, 1) := by decide +kernel
theorem dX1_settle_19 : decode cX1_settle 19 = .ok (.getfield 26, 3) := by decide +kernel
theorem dX1_settle_22 : decode cX1_settle 22 = .ok (.iconst 2, 1) := by decide +kernel
theorem dX1_settle_23 : decode cX1_settle 23 = .ok (.if_icmp .ne 56, 3) := by decide +kernel
theorem dX1_settle_26 : decode cX1_settle 26 = .ok (.aload_n 0, 1) := by decide +kernel
theorem dX1_settle_27 : decode cX1_settle 27 = .ok (.getfield 12, 3) := by decide +kernel
theorem dX1_settle_30 : decode cX1_settle 30 = .ok (.aload_n 1, 1) := by decide +kernel
theorem dX1_settle_31 : decode cX1_settle 31 = .ok (.iconst 0, 1) := by decide +kernel
theorem dX1_settle_32 : decode cX1_settle 32 = .ok (.iconst 1, 1) := by decide +kernel
theorem dX1_settle_33 : decode cX1_settle 33 = .ok (.invokevirtual 36, 3) := by decide +kernel
theorem dX1_settle_36 : decode cX1_settle 36 = .ok (.aload_n 0, 1) := by decide +kernel
theorem dX1_settle_37 : decode cX1_settle 37 = .ok (.getfield 12, 3) := by decide +kernel
theorem dX1_settle_40 : decode cX1_settle 40 = .ok (.invokevirtual 40, 3) := by decide +kernel
theorem dX1_settle_43 : decode cX1_settle 43 = .ok (.aload_n 0, 1) := by decide +kernel
theorem dX1_settle_44 : decode cX1_settle 44 = .ok (.getfield 12, 3) := by decide +kernel
theorem dX1_settle_47 : decode cX1_settle 47 = .ok (.invokevirtual 43, 3) := by decide +kernel
theorem dX1_settle_50 : decode cX1_settle 50 = .ok (.aload_n 1, 1) := by decide +kernel
theorem dX1_settle_51 : decode cX1_settle 51 = .ok (.getfield 32, 3) := by decide +kernel
theorem dX1_settle_54 : decode cX1_settle 54 = .ok (.iconst 0, 1) := by decide +kernel
theorem dX1_settle_55 : decode cX1_settle 55 = .ok (.aload_n 0, 1) := by decide +kernel
theorem dX1_settle_56 : decode cX1_settle 56 = .ok (.getfield 12, 3) := by decide +kernel
theorem dX1_settle_59 : decode cX1_settle 59 = .ok (.getfield 46, 3) := by decide +kernel
theorem dX1_settle_62 : decode cX1_settle 62 = .ok (.lastore, 1) := by decide +kernel
theorem dX1_settle_63 : decode cX1_settle 63 = .ok (.aload_n 1, 1) := by decide +kernel
theorem dX1_settle_64 : decode cX1_settle 64 = .ok (.getfield 32, 3) := by decide +kernel
theorem dX1_settle_67 : decode cX1_settle 67 = .ok (.iconst 1, 1) := by decide +kernel
theorem dX1_settle_68 : decode cX1_settle 68 = .ok (.aload_n 0, 1) := by decide +kernel
theorem dX1_settle_69 : decode cX1_settle 69 = .ok (.getfield 12, 3) := by decide +kernel
theorem dX1_settle_72 : decode cX1_settle 72 = .ok (.getfield 50, 3) := by decide +kernel
theorem dX1_settle_75 : decode cX1_settle 75 = .ok (.lastore, 1) := by decide +kernel
theorem dX1_settle_76 : decode cX1_settle 76 = .ok (.goto 50, 3) := by decide +kernel
theorem dX1_settle_79 : decode cX1_settle 79 = .ok (.aload_n 1, 1) := by decide +kernel
theorem dX1_settle_80 : decode cX1_settle 80 = .ok (.getfield 26, 3) := by decide +kernel
theorem dX1_settle_83 : decode cX1_settle 83 = .ok (.iconst 3, 1) := by decide +kernel
theorem dX1_settle_84 : decode cX1_settle 84 = .ok (.if_icmp .ne 42, 3) := by decide +kernel
theorem dX1_settle_87 : decode cX1_settle 87 = .ok (.aload_n 0, 1) := by decide +kernel
theorem dX1_settle_88 : decode cX1_settle 88 = .ok (.invokevirtual 53, 3) := by decide +kernel
theorem dX1_settle_91 : decode cX1_settle 91 = .ok (.aload_n 0, 1) := by decide +kernel
theorem dX1_settle_92 : decode cX1_settle 92 = .ok (.aload_n 1, 1) := by decide +kernel
theorem dX1_settle_93 : decode cX1_settle 93 = .ok (.iconst 0, 1) := by decide +kernel
theorem dX1_settle_94 : decode cX1_settle 94 = .ok (.iconst 1, 1) := by decide +kernel
theorem dX1_settle_95 : decode cX1_settle 95 = .ok (.invokevirtual 56, 3) := by decide +kernel
theorem dX1_settle_98 : decode cX1_settle 98 = .ok (.ifCond .ne 28, 3) := by decide +kernel
theorem dX1_settle_101 : decode cX1_settle 101 = .ok (.aload_n 0, 1) := by decide +kernel
theorem dX1_settle_102 : decode cX1_settle 102 = .ok (.aload_n 1, 1) := by decide +kernel
theorem dX1_settle_103 : decode cX1_settle 103 = .ok (.iconst 0, 1) := by decide +kernel
theorem dX1_settle_104 : decode cX1_settle 104 = .ok (.iconst 2, 1) := by decide +kernel
theorem dX1_settle_105 : decode cX1_settle 105 = .ok (.invokevirtual 56, 3) := by decide +kernel
theorem dX1_settle_108 : decode cX1_settle 108 = .ok (.ifCond .ne 18, 3) := by decide +kernel
theorem dX1_settle_111 : decode cX1_settle 111 = .ok (.aload_n 0, 1) := by decide +kernel
theorem dX1_settle_112 : decode cX1_settle 112 = .ok (.aload_n 1, 1) := by decide +kernel
theorem dX1_settle_113 : decode cX1_settle 113 = .ok (.iconst 1, 1) := by decide +kernel
theorem dX1_settle_114 : decode cX1_settle 114 = .ok (.iconst 2, 1) := by decide +kernel
theorem dX1_settle_115 : decode cX1_settle 115 = .ok (.invokevirtual 56, 3) := by decide +kernel
theorem dX1_settle_118 : decode cX1_settle 118 = .ok (.ifCond .ne 8, 3) := by decide +kernel
theorem dX1_settle_121 : decode cX1_settle 121 = .ok (.aload_n 0, 1) := by decide +kernel
theorem dX1_settle_122 : decode cX1_settle 122 = .ok (.aload_n 1, 1) := by decide +kernel
theorem dX1_settle_123 : decode cX1_settle 123 = .ok (.invokevirtual 60, 3) := by decide +kernel
theorem dX1_settle_126 : decode cX1_settle 126 = .ok (.aload_n 1, 1) := by decide +kernel
theorem dX1_settle_127 : decode cX1_settle 127 = .ok (.invokestatic 64, 3) := by decide +kernel
theorem dX1_settle_130 : decode cX1_settle 130 = .ok (.return_, 1) := by decide +kernel
theorem dX1_clearWins_0 : decode cX1_clearWins 0 = .ok (.iconst 0, 1) := by decide +kernel
theorem dX1_clearWins_1 : decode cX1_clearWins 1 = .ok (.istore_n 1, 1) := by decide +kernel
theorem dX1_clearWins_2 : decode cX1_clearWins 2 = .ok (.iload_n 1, 1) := by decide +kernel
theorem dX1_clearWins_3 : decode cX1_clearWins 3 = .ok (.iconst 3, 1) := by decide +kernel
theorem dX1_clearWins_4 : decode cX1_clearWins 4 = .ok (.if_icmp .ge 32, 3) := by decide +kernel
theorem dX1_clearWins_7 : decode cX1_clearWins 7 = .ok (.iconst 0, 1) := by decide +kernel
theorem dX1_clearWins_8 : decode cX1_clearWins 8 = .ok (.istore_n 2, 1) := by decide +kernel
theorem dX1_clearWins_9 : decode cX1_clearWins 9 = .ok (.iload_n 2, 1) := by decide +kernel
theorem dX1_clearWins_10 : decode cX1_clearWins 10 = .ok (.bipush 6, 2) := by decide +kernel
theorem dX1_clearWins_12 : decode cX1_clearWins 12 = .ok (.if_icmp .ge 18, 3) := by decide +kernel
theorem dX1_clearWins_15 : decode cX1_clearWins 15 = .ok (.aload_n 0, 1) := by decide +kernel
theorem dX1_clearWins_16 : decode cX1_clearWins 16 = .ok (.getfield 23, 3) := by decide +kernel
theorem dX1_clearWins_19 : decode cX1_clearWins 19 = .ok (.iload_n 1, 1) := by decide +kernel
theorem dX1_clearWins_20 : decode cX1_clearWins 20 = .ok (.aaload, 1) := by decide +kernel
theorem dX1_clearWins_21 : decode cX1_clearWins 21 = .ok (.iload_n 2, 1) := by decide +kernel
theorem dX1_clearWins_22 : decode cX1_clearWins 22 = .ok (.iconst 0, 1) := by decide +kernel
theorem dX1_clearWins_23 : decode cX1_clearWins 23 = .ok (.iastore, 1) := by decide +kernel
theorem dX1_clearWins_24 : decode cX1_clearWins 24 = .ok (.iinc 2 1, 3) := by decide +kernel
theorem dX1_clearWins_27 : decode cX1_clearWins 27 = .ok (.goto (-18), 3) := by decide +kernel
theorem dX1_clearWins_30 : decode cX1_clearWins 30 = .ok (.iinc 1 1, 3) := by decide +kernel
theorem dX1_clearWins_33 : decode cX1_clearWins 33 = .ok (.goto (-31), 3) := by decide +kernel
theorem dX1_clearWins_36 : decode cX1_clearWins 36 = .ok (.return_, 1) := by decide +kernel
theorem dX1_findTied_0 : decode cX1_findTied 0 = .ok (.aload_n 0, 1) := by decide +kernel
theorem dX1_findTied_1 : decode cX1_findTied 1 = .ok (.getfield 12, 3) := by decide +kernel
theorem dX1_findTied_4 : decode cX1_findTied 4 = .ok (.aload_n 1, 1) := by decide +kernel
theorem dX1_findTied_5 : decode cX1_findTied 5 = .ok (.iload_n 2, 1) := by decide +kernel
theorem dX1_findTied_6 : decode cX1_findTied 6 = .ok (.iload_n 3, 1) := by decide +kernel
theorem dX1_findTied_7 : decode cX1_findTied 7 = .ok (.invokevirtual 36, 3) := by decide +kernel
theorem dX1_findTied_10 : decode cX1_findTied 10 = .ok (.aload_n 0, 1) := by decide +kernel
theorem dX1_findTied_11 : decode cX1_findTied 11 = .ok (.getfield 12, 3) := by decide +kernel
theorem dX1_findTied_14 : decode cX1_findTied 14 = .ok (.invokevirtual 40, 3) := by decide +kernel
theorem dX1_findTied_17 : decode cX1_findTied 17 = .ok (.iconst 0, 1) := by decide +kernel
theorem dX1_findTied_18 : decode cX1_findTied 18 = .ok (.istore 4, 2) := by decide +kernel
theorem dX1_findTied_20 : decode cX1_findTied 20 = .ok (.aload_n 1, 1) := by decide +kernel
theorem dX1_findTied_21 : decode cX1_findTied 21 = .ok (.getfield 67, 3) := by decide +kernel
theorem dX1_findTied_24 : decode cX1_findTied 24 = .ok (.istore 5, 2) := by decide +kernel
theorem dX1_findTied_26 : decode cX1_findTied 26 = .ok (.iconst 0, 1) := by decide +kernel
theorem dX1_findTied_27 : decode cX1_findTied 27 = .ok (.istore 6, 2) := by decide +kernel
theorem dX1_findTied_29 : decode cX1_findTied 29 = .ok (.iload 6, 2) := by decide +kernel
theorem dX1_findTied_31 : decode cX1_findTied 31 = .ok (.bipush 6, 2) := by decide +kernel
theorem dX1_findTied_33 : decode cX1_findTied 33 = .ok (.if_icmp .ge 81, 3) := by decide +kernel
theorem dX1_findTied_36 : decode cX1_findTied 36 = .ok (.iload 4, 2) := by decide +kernel
theorem dX1_findTied_38 : decode cX1_findTied 38 = .ok (.iload 5, 2) := by decide +kernel
theorem dX1_findTied_40 : decode cX1_findTied 40 = .ok (.if_icmp .ge 74, 3) := by decide +kernel
theorem dX1_findTied_43 : decode cX1_findTied 43 = .ok (.iload 4, 2) := by decide +kernel
theorem dX1_findTied_45 : decode cX1_findTied 45 = .ok (.iload 5, 2) := by decide +kernel
theorem dX1_findTied_47 : decode cX1_findTied 47 = .ok (.iadd, 1) := by decide +kernel
theorem dX1_findTied_48 : decode cX1_findTied 48 = .ok (.iconst 1, 1) := by decide +kernel
theorem dX1_findTied_49 : decode cX1_findTied 49 = .ok (.ishr, 1) := by decide +kernel
theorem dX1_findTied_50 : decode cX1_findTied 50 = .ok (.istore 7, 2) := by decide +kernel
theorem dX1_findTied_52 : decode cX1_findTied 52 = .ok (.aload_n 0, 1) := by decide +kernel
theorem dX1_findTied_53 : decode cX1_findTied 53 = .ok (.aload_n 1, 1) := by decide +kernel
theorem dX1_findTied_54 : decode cX1_findTied 54 = .ok (.iload_n 2, 1) := by decide +kernel
theorem dX1_findTied_55 : decode cX1_findTied 55 = .ok (.iload_n 3, 1) := by decide +kernel
theorem dX1_findTied_56 : decode cX1_findTied 56 = .ok (.aload_n 0, 1) := by decide +kernel
theorem dX1_findTied_57 : decode cX1_findTied 57 = .ok (.getfield 12, 3) := by decide +kernel
theorem dX1_findTied_60 : decode cX1_findTied 60 = .ok (.getfield 70, 3) := by decide +kernel
theorem dX1_findTied_63 : decode cX1_findTied 63 = .ok (.iload 7, 2) := by decide +kernel
theorem dX1_findTied_65 : decode cX1_findTied 65 = .ok (.iaload, 1) := by decide +kernel
theorem dX1_findTied_66 : decode cX1_findTied 66 = .ok (.invokevirtual 74, 3) := by decide +kernel
theorem dX1_findTied_69 : decode cX1_findTied 69 = .ok (.aload_n 1, 1) := by decide +kernel
theorem dX1_findTied_70 : decode cX1_findTied 70 = .ok (.aload_n 1, 1) := by decide +kernel
theorem dX1_findTied_71 : decode cX1_findTied 71 = .ok (.getfield 32, 3) := by decide +kernel
theorem dX1_findTied_74 : decode cX1_findTied 74 = .ok (.invokevirtual 78, 3) := by decide +kernel
theorem dX1_findTied_77 : decode cX1_findTied 77 = .ok (.istore 8, 2) := by decide +kernel
theorem dX1_findTied_79 : decode cX1_findTied 79 = .ok (.iload 8, 2) := by decide +kernel
theorem dX1_findTied_81 : decode cX1_findTied 81 = .ok (.ifCond .ne 5, 3) := by decide +kernel
theorem dX1_findTied_84 : decode cX1_findTied 84 = .ok (.iconst 1, 1) := by decide +kernel
theorem dX1_findTied_85 : decode cX1_findTied 85 = .ok (.ireturn, 1) := by decide +kernel
theorem dX1_findTied_86 : decode cX1_findTied 86 = .ok (.iload 8, 2) := by decide +kernel
theorem dX1_findTied_88 : decode cX1_findTied 88 = .ok (.iload_n 2, 1) := by decide +kernel
theorem dX1_findTied_89 : decode cX1_findTied 89 = .ok (.ishr, 1) := by decide +kernel
theorem dX1_findTied_90 : decode cX1_findTied 90 = .ok (.iconst 1, 1) := by decide +kernel
theorem dX1_findTied_91 : decode cX1_findTied 91 = .ok (.iand, 1) := by decide +kernel
theorem dX1_findTied_92 : decode cX1_findTied 92 = .ok (.ifCond .eq 12, 3) := by decide +kernel
theorem dX1_findTied_95 : decode cX1_findTied 95 = .ok (.iload 7, 2) := by decide +kernel
theorem dX1_findTied_97 : decode cX1_findTied 97 = .ok (.iconst 1, 1) := by decide +kernel
theorem dX1_findTied_98 : decode cX1_findTied 98 = .ok (.iadd, 1) := by decide +kernel
theorem dX1_findTied_99 : decode cX1_findTied 99 = .ok (.istore 4, 2) := by decide +kernel
theorem dX1_findTied_101 : decode cX1_findTied 101 = .ok (.goto 7, 3) := by decide +kernel
theorem dX1_findTied_104 : decode cX1_findTied 104 = .ok (.iload 7, 2) := by decide +kernel
theorem dX1_findTied_106 : decode cX1_findTied 106 = .ok (.istore 5, 2) := by decide +kernel
theorem dX1_findTied_108 : decode cX1_findTied 108 = .ok (.iinc 6 1, 3) := by decide +kernel
theorem dX1_findTied_111 : decode cX1_findTied 111 = .ok (.goto (-82), 3) := by decide +kernel
theorem dX1_findTied_114 : decode cX1_findTied 114 = .ok (.iconst 0, 1) := by decide +kernel
theorem dX1_findTied_115 : decode cX1_findTied 115 = .ok (.istore 6, 2) := by decide +kernel
theorem dX1_findTied_117 : decode cX1_findTied 117 = .ok (.iload 6, 2) := by decide +kernel
theorem dX1_findTied_119 : decode cX1_findTied 119 = .ok (.aload_n 1, 1) := by decide +kernel
theorem dX1_findTied_120 : decode cX1_findTied 120 = .ok (.getfield 67, 3) := by decide +kernel
theorem dX1_findTied_123 : decode cX1_findTied 123 = .ok (.if_icmp .ge 41, 3) := by decide +kernel
theorem dX1_findTied_126 : decode cX1_findTied 126 = .ok (.aload_n 0, 1) := by decide +kernel
theorem dX1_findTied_127 : decode cX1_findTied 127 = .ok (.getfield 23, 3) := by decide +kernel
theorem dX1_findTied_130 : decode cX1_findTied 130 = .ok (.iload 6, 2) := by decide +kernel
theorem dX1_findTied_132 : decode cX1_findTied 132 = .ok (.iload 4, 2) := by decide +kernel
theorem dX1_findTied_134 : decode cX1_findTied 134 = .ok (.if_icmp .ge 7, 3) := by decide +kernel
theorem dX1_findTied_137 : decode cX1_findTied 137 = .ok (.iload_n 2, 1) := by decide +kernel
theorem dX1_findTied_138 : decode cX1_findTied 138 = .ok (.goto 4, 3) := by decide +kernel
theorem dX1_findTied_141 : decode cX1_findTied 141 = .ok (.iload_n 3, 1) := by decide +kernel
theorem dX1_findTied_142 : decode cX1_findTied 142 = .ok (.aaload, 1) := by decide +kernel
theorem dX1_findTied_143 : decode cX1_findTied 143 = .ok (.aload_n 0, 1) := by decide +kernel
theorem dX1_findTied_144 : decode cX1_findTied 144 = .ok (.getfield 12, 3) := by decide +kernel
theorem dX1_findTied_147 : decode cX1_findTied 147 = .ok (.getfield 70, 3) := by decide +kernel
theorem dX1_findTied_150 : decode cX1_findTied 150 = .ok (.iload 6, 2) := by decide +kernel
theorem dX1_findTied_152 : decode cX1_findTied 152 = .ok (.iaload, 1) := by decide +kernel
theorem dX1_findTied_153 : decode cX1_findTied 153 = .ok (.dup2, 1) := by decide +kernel
theorem dX1_findTied_154 : decode cX1_findTied 154 = .ok (.iaload, 1) := by decide +kernel
theorem dX1_findTied_155 : decode cX1_findTied 155 = .ok (.iconst 1, 1) := by decide +kernel
theorem dX1_findTied_156 : decode cX1_findTied 156 = .ok (.iadd, 1) := by decide +kernel
theorem dX1_findTied_157 : decode cX1_findTied 157 = .ok (.iastore, 1) := by decide +kernel
theorem dX1_findTied_158 : decode cX1_findTied 158 = .ok (.iinc 6 1, 3) := by decide +kernel
theorem dX1_findTied_161 : decode cX1_findTied 161 = .ok (.goto (-44), 3) := by decide +kernel
theorem dX1_findTied_164 : decode cX1_findTied 164 = .ok (.iconst 0, 1) := by decide +kernel
theorem dX1_findTied_165 : decode cX1_findTied 165 = .ok (.ireturn, 1) := by decide +kernel
theorem dX1_tie_0 : decode cX1_tie 0 = .ok (.iconst 3, 1) := by decide +kernel
theorem dX1_tie_1 : decode cX1_tie 1 = .ok (.iload_n 2, 1) := by decide +kernel
theorem dX1_tie_2 : decode cX1_tie 2 = .ok (.isub, 1) := by decide +kernel
theorem dX1_tie_3 : decode cX1_tie 3 = .ok (.iload_n 3, 1) := by decide +kernel
theorem dX1_tie_4 : decode cX1_tie 4 = .ok (.isub, 1) := by decide +kernel
theorem dX1_tie_5 : decode cX1_tie 5 = .ok (.istore 5, 2) := by decide +kernel
theorem dX1_tie_7 : decode cX1_tie 7 = .ok (.aload_n 1, 1) := by decide +kernel
theorem dX1_tie_8 : decode cX1_tie 8 = .ok (.getfield 82, 3) := by decide +kernel
theorem dX1_tie_11 : decode cX1_tie 11 = .ok (.iload_n 3, 1) := by decide +kernel
theorem dX1_tie_12 : decode cX1_tie 12 = .ok (.aaload, 1) := by decide +kernel
theorem dX1_tie_13 : decode cX1_tie 13 = .ok (.iload 4, 2) := by decide +kernel
theorem dX1_tie_15 : decode cX1_tie 15 = .ok (.iaload, 1) := by decide +kernel
theorem dX1_tie_16 : decode cX1_tie 16 = .ok (.i2l, 1) := by decide +kernel
theorem dX1_tie_17 : decode cX1_tie 17 = .ok (.lstore 6, 2) := by decide +kernel
theorem dX1_tie_19 : decode cX1_tie 19 = .ok (.aload_n 1, 1) := by decide +kernel
theorem dX1_tie_20 : decode cX1_tie 20 = .ok (.getfield 82, 3) := by decide +kernel
theorem dX1_tie_23 : decode cX1_tie 23 = .ok (.iload_n 2, 1) := by decide +kernel
theorem dX1_tie_24 : decode cX1_tie 24 = .ok (.aaload, 1) := by decide +kernel
theorem dX1_tie_25 : decode cX1_tie 25 = .ok (.iload 4, 2) := by decide +kernel
theorem dX1_tie_27 : decode cX1_tie 27 = .ok (.iaload, 1) := by decide +kernel
theorem dX1_tie_28 : decode cX1_tie 28 = .ok (.i2l, 1) := by decide +kernel
theorem dX1_tie_29 : decode cX1_tie 29 = .ok (.lstore 8, 2) := by decide +kernel
theorem dX1_tie_31 : decode cX1_tie 31 = .ok (.aload_n 0, 1) := by decide +kernel
theorem dX1_tie_32 : decode cX1_tie 32 = .ok (.getfield 18, 3) := by decide +kernel
theorem dX1_tie_35 : decode cX1_tie 35 = .ok (.aload_n 1, 1) := by decide +kernel
theorem dX1_tie_36 : decode cX1_tie 36 = .ok (.iload_n 2, 1) := by decide +kernel
theorem dX1_tie_37 : decode cX1_tie 37 = .ok (.lload 6, 2) := by decide +kernel
theorem dX1_tie_39 : decode cX1_tie 39 = .ok (.iload_n 3, 1) := by decide +kernel
theorem dX1_tie_40 : decode cX1_tie 40 = .ok (.lload 8, 2) := by decide +kernel
theorem dX1_tie_42 : decode cX1_tie 42 = .ok (.iload 5, 2) := by decide +kernel
theorem dX1_tie_44 : decode cX1_tie 44 = .ok (.invokevirtual 85, 3) := by decide +kernel
theorem dX1_tie_47 : decode cX1_tie 47 = .ok (.aload_n 0, 1) := by decide +kernel
theorem dX1_tie_48 : decode cX1_tie 48 = .ok (.getfield 18, 3) := by decide +kernel
theorem dX1_tie_51 : decode cX1_tie 51 = .ok (.invokevirtual 40, 3) := by decide +kernel
theorem dX1_tie_54 : decode cX1_tie 54 = .ok (.aload_n 0, 1) := by decide +kernel
theorem dX1_tie_55 : decode cX1_tie 55 = .ok (.getfield 18, 3) := by decide +kernel
theorem dX1_tie_58 : decode cX1_tie 58 = .ok (.invokevirtual 43, 3) := by decide +kernel
theorem dX1_tie_61 : decode cX1_tie 61 = .ok (.aload_n 1, 1) := by decide +kernel
theorem dX1_tie_62 : decode cX1_tie 62 = .ok (.getfield 32, 3) := by decide +kernel
theorem dX1_tie_65 : decode cX1_tie 65 = .ok (.iload_n 2, 1) := by decide +kernel
theorem dX1_tie_66 : decode cX1_tie 66 = .ok (.lload 6, 2) := by decide +kernel
theorem dX1_tie_68 : decode cX1_tie 68 = .ok (.aload_n 0, 1) := by decide +kernel
theorem dX1_tie_69 : decode cX1_tie 69 = .ok (.getfield 18, 3) := by decide +kernel
theorem dX1_tie_72 : decode cX1_tie 72 = .ok (.getfield 46, 3) := by decide +kernel
theorem dX1_tie_75 : decode cX1_tie 75 = .ok (.lmul, 1) := by decide +kernel
theorem dX1_tie_76 : decode cX1_tie 76 = .ok (.lastore, 1) := by decide +kernel
theorem dX1_tie_77 : decode cX1_tie 77 = .ok (.aload_n 1, 1) := by decide +kernel
theorem dX1_tie_78 : decode cX1_tie 78 = .ok (.getfield 32, 3) := by decide +kernel
theorem dX1_tie_81 : decode cX1_tie 81 = .ok (.iload_n 3, 1) := by decide +kernel
theorem dX1_tie_82 : decode cX1_tie 82 = .ok (.lload 8, 2) := by decide +kernel
theorem dX1_tie_84 : decode cX1_tie 84 = .ok (.aload_n 0, 1) := by decide +kernel
theorem dX1_tie_85 : decode cX1_tie 85 = .ok (.getfield 18, 3) := by decide +kernel
theorem dX1_tie_88 : decode cX1_tie 88 = .ok (.getfield 46, 3) := by decide +kernel
theorem dX1_tie_91 : decode cX1_tie 91 = .ok (.lmul, 1) := by decide +kernel
theorem dX1_tie_92 : decode cX1_tie 92 = .ok (.lastore, 1) := by decide +kernel
theorem dX1_tie_93 : decode cX1_tie 93 = .ok (.aload_n 1, 1) := by decide +kernel
theorem dX1_tie_94 : decode cX1_tie 94 = .ok (.getfield 32, 3) := by decide +kernel
theorem dX1_tie_97 : decode cX1_tie 97 = .ok (.iload 5, 2) := by decide +kernel
theorem dX1_tie_99 : decode cX1_tie 99 = .ok (.aload_n 0, 1) := by decide +kernel
theorem dX1_tie_100 : decode cX1_tie 100 = .ok (.getfield 18, 3) := by decide +kernel
theorem dX1_tie_103 : decode cX1_tie 103 = .ok (.getfield 50, 3) := by decide +kernel
theorem dX1_tie_106 : decode cX1_tie 106 = .ok (.lastore, 1) := by decide +kernel
theorem dX1_tie_107 : decode cX1_tie 107 = .ok (.return_, 1) := by decide +kernel
theorem dX1_settleApart_0 : decode cX1_settleApart 0 = .ok (.aload_n 1, 1) := by decide +kernel
theorem dX1_settleApart_1 : decode cX1_settleApart 1 = .ok (.getfield 89, 3) := by decide +kernel
theorem dX1_settleApart_4 : decode cX1_settleApart 4 = .ok (.iconst 0, 1) := by decide +kernel
theorem dX1_settleApart_5 : decode cX1_settleApart 5 = .ok (.iaload, 1) := by decide +kernel
theorem dX1_settleApart_6 : decode cX1_settleApart 6 = .ok (.i2l, 1) := by decide +kernel
theorem dX1_settleApart_7 : decode cX1_settleApart 7 = .ok (.aload_n 1, 1) := by decide +kernel
theorem dX1_settleApart_8 : decode cX1_settleApart 8 = .ok (.getfield 89, 3) := by decide +kernel
theorem dX1_settleApart_11 : decode cX1_settleApart 11 = .ok (.iconst 1, 1) := by decide +kernel
theorem dX1_settleApart_12 : decode cX1_settleApart 12 = .ok (.iaload, 1) := by decide +kernel
theorem dX1_settleApart_13 : decode cX1_settleApart 13 = .ok (.i2l, 1) := by decide +kernel
theorem dX1_settleApart_14 : decode cX1_settleApart 14 = .ok (.lmul, 1) := by decide +kernel
theorem dX1_settleApart_15 : decode cX1_settleApart 15 = .ok (.aload_n 1, 1) := by decide +kernel
theorem dX1_settleApart_16 : decode cX1_settleApart 16 = .ok (.getfield 89, 3) := by decide +kernel
theorem dX1_settleApart_19 : decode cX1_settleApart 19 = .ok (.iconst 2, 1) := by decide +kernel
theorem dX1_settleApart_20 : decode cX1_settleApart 20 = .ok (.iaload, 1) := by decide +kernel
theorem dX1_settleApart_21 : decode cX1_settleApart 21 = .ok (.i2l, 1) := by decide +kernel
theorem dX1_settleApart_22 : decode cX1_settleApart 22 = .ok (.lmul, 1) := by decide +kernel
theorem dX1_settleApart_23 : decode cX1_settleApart 23 = .ok (.lstore_n 2, 1) := by decide +kernel
theorem dX1_settleApart_24 : decode cX1_settleApart 24 = .ok (.iconst 0, 1) := by decide +kernel
theorem dX1_settleApart_25 : decode cX1_settleApart 25 = .ok (.istore 4, 2) := by decide +kernel
theorem dX1_settleApart_27 : decode cX1_settleApart 27 = .ok (.iload 4, 2) := by decide +kernel
theorem dX1_settleApart_29 : decode cX1_settleApart 29 = .ok (.iconst 3, 1) := by decide +kernel
theorem dX1_settleApart_30 : decode cX1_settleApart 30 = .ok (.if_icmp .ge 87, 3) := by decide +kernel
theorem dX1_settleApart_33 : decode cX1_settleApart 33 = .ok (.lconst 0, 1) := by decide +kernel
theorem dX1_settleApart_34 : decode cX1_settleApart 34 = .ok (.lstore 5, 2) := by decide +kernel
theorem dX1_settleApart_36 : decode cX1_settleApart 36 = .ok (.iconst 0, 1) := by decide +kernel
theorem dX1_settleApart_37 : decode cX1_settleApart 37 = .ok (.istore 7, 2) := by decide +kernel
theorem dX1_settleApart_39 : decode cX1_settleApart 39 = .ok (.iload 7, 2) := by decide +kernel
theorem dX1_settleApart_41 : decode cX1_settleApart 41 = .ok (.aload_n 1, 1) := by decide +kernel
theorem dX1_settleApart_42 : decode cX1_settleApart 42 = .ok (.getfield 67, 3) := by decide +kernel
theorem dX1_settleApart_45 : decode cX1_settleApart 45 = .ok (.if_icmp .ge 36, 3) := by decide +kernel
theorem dX1_settleApart_48 : decode cX1_settleApart 48 = .ok (.aload_n 0, 1) := by decide +kernel
theorem dX1_settleApart_49 : decode cX1_settleApart 49 = .ok (.getfield 23, 3) := by decide +kernel
theorem dX1_settleApart_52 : decode cX1_settleApart 52 = .ok (.iload 4, 2) := by decide +kernel
theorem dX1_settleApart_54 : decode cX1_settleApart 54 = .ok (.aaload, 1) := by decide +kernel
theorem dX1_settleApart_55 : decode cX1_settleApart 55 = .ok (.iload 7, 2) := by decide +kernel
theorem dX1_settleApart_57 : decode cX1_settleApart 57 = .ok (.iaload, 1) := by decide +kernel
theorem dX1_settleApart_58 : decode cX1_settleApart 58 = .ok (.iconst 2, 1) := by decide +kernel
theorem dX1_settleApart_59 : decode cX1_settleApart 59 = .ok (.if_icmp .ne 16, 3) := by decide +kernel
theorem dX1_settleApart_62 : decode cX1_settleApart 62 = .ok (.lload 5, 2) := by decide +kernel
theorem dX1_settleApart_64 : decode cX1_settleApart 64 = .ok (.aload_n 1, 1) := by decide +kernel
theorem dX1_settleApart_65 : decode cX1_settleApart 65 = .ok (.getfield 92, 3) := by decide +kernel
theorem dX1_settleApart_68 : decode cX1_settleApart 68 = .ok (.iload 7, 2) := by decide +kernel
theorem dX1_settleApart_70 : decode cX1_settleApart 70 = .ok (.iaload, 1) := by decide +kernel
theorem dX1_settleApart_71 : decode cX1_settleApart 71 = .ok (.i2l, 1) := by decide +kernel
theorem dX1_settleApart_72 : decode cX1_settleApart 72 = .ok (.ladd, 1) := by decide +kernel
theorem dX1_settleApart_73 : decode cX1_settleApart 73 = .ok (.lstore 5, 2) := by decide +kernel
theorem dX1_settleApart_75 : decode cX1_settleApart 75 = .ok (.iinc 7 1, 3) := by decide +kernel
theorem dX1_settleApart_78 : decode cX1_settleApart 78 = .ok (.goto (-39), 3) := by decide +kernel
theorem dX1_settleApart_81 : decode cX1_settleApart 81 = .ok (.aload_n 1, 1) := by decide +kernel
theorem dX1_settleApart_82 : decode cX1_settleApart 82 = .ok (.getfield 89, 3) := by decide +kernel
theorem dX1_settleApart_85 : decode cX1_settleApart 85 = .ok (.iload 4, 2) := by decide +kernel
theorem dX1_settleApart_87 : decode cX1_settleApart 87 = .ok (.iaload, 1) := by decide +kernel
theorem dX1_settleApart_88 : decode cX1_settleApart 88 = .ok (.ifCond .le 23, 3) := by decide +kernel
theorem dX1_settleApart_91 : decode cX1_settleApart 91 = .ok (.aload_n 1, 1) := by decide +kernel
theorem dX1_settleApart_92 : decode cX1_settleApart 92 = .ok (.getfield 32, 3) := by decide +kernel
theorem dX1_settleApart_95 : decode cX1_settleApart 95 = .ok (.iload 4, 2) := by decide +kernel
theorem dX1_settleApart_97 : decode cX1_settleApart 97 = .ok (.lload 5, 2) := by decide +kernel
theorem dX1_settleApart_99 : decode cX1_settleApart 99 = .ok (.lload_n 2, 1) := by decide +kernel
theorem dX1_settleApart_100 : decode cX1_settleApart 100 = .ok (.aload_n 1, 1) := by decide +kernel
theorem dX1_settleApart_101 : decode cX1_settleApart 101 = .ok (.getfield 89, 3) := by decide +kernel
theorem dX1_settleApart_104 : decode cX1_settleApart 104 = .ok (.iload 4, 2) := by decide +kernel
theorem dX1_settleApart_106 : decode cX1_settleApart 106 = .ok (.iaload, 1) := by decide +kernel
theorem dX1_settleApart_107 : decode cX1_settleApart 107 = .ok (.i2l, 1) := by decide +kernel
theorem dX1_settleApart_108 : decode cX1_settleApart 108 = .ok (.ldiv, 1) := by decide +kernel
theorem dX1_settleApart_109 : decode cX1_settleApart 109 = .ok (.lmul, 1) := by decide +kernel
theorem dX1_settleApart_110 : decode cX1_settleApart 110 = .ok (.lastore, 1) := by decide +kernel
theorem dX1_settleApart_111 : decode cX1_settleApart 111 = .ok (.iinc 4 1, 3) := by decide +kernel
theorem dX1_settleApart_114 : decode cX1_settleApart 114 = .ok (.goto (-87), 3) := by decide +kernel
theorem dX1_settleApart_117 : decode cX1_settleApart 117 = .ok (.return_, 1) := by decide +kernel
theorem dX1_shorten_0 : decode cX1_shorten 0 = .ok (.lconst 0, 1) := by decide +kernel
theorem dX1_shorten_1 : decode cX1_shorten 1 = .ok (.lstore_n 1, 1) := by decide +kernel
theorem dX1_shorten_2 : decode cX1_shorten 2 = .ok (.iconst 0, 1) := by decide +kernel
theorem dX1_shorten_3 : decode cX1_shorten 3 = .ok (.istore_n 3, 1) := by decide +kernel
theorem dX1_shorten_4 : decode cX1_shorten 4 = .ok (.iload_n 3, 1) := by decide +kernel
theorem dX1_shorten_5 : decode cX1_shorten 5 = .ok (.aload_n 0, 1) := by decide +kernel
theorem dX1_shorten_6 : decode cX1_shorten 6 = .ok (.getfield 26, 3) := by decide +kernel
theorem dX1_shorten_9 : decode cX1_shorten 9 = .ok (.if_icmp .ge 20, 3) := by decide +kernel
theorem dX1_shorten_12 : decode cX1_shorten 12 = .ok (.aload_n 0, 1) := by decide +kernel
theorem dX1_shorten_13 : decode cX1_shorten 13 = .ok (.getfield 32, 3) := by decide +kernel
theorem dX1_shorten_16 : decode cX1_shorten 16 = .ok (.iload_n 3, 1) := by decide +kernel
theorem dX1_shorten_17 : decode cX1_shorten 17 = .ok (.laload, 1) := by decide +kernel
theorem dX1_shorten_18 : decode cX1_shorten 18 = .ok (.lload_n 1, 1) := by decide +kernel
theorem dX1_shorten_19 : decode cX1_shorten 19 = .ok (.invokestatic 95, 3) := by decide +kernel
theorem dX1_shorten_22 : decode cX1_shorten 22 = .ok (.lstore_n 1, 1) := by decide +kernel
theorem dX1_shorten_23 : decode cX1_shorten 23 = .ok (.iinc 3 1, 3) := by decide +kernel
theorem dX1_shorten_26 : decode cX1_shorten 26 = .ok (.goto (-22), 3) := by decide +kernel
theorem dX1_shorten_29 : decode cX1_shorten 29 = .ok (.iconst 0, 1) := by decide +kernel
theorem dX1_shorten_30 : decode cX1_shorten 30 = .ok (.istore_n 3, 1) := by decide +kernel
theorem dX1_shorten_31 : decode cX1_shorten 31 = .ok (.iload_n 3, 1) := by decide +kernel
theorem dX1_shorten_32 : decode cX1_shorten 32 = .ok (.aload_n 0, 1) := by decide +kernel
theorem dX1_shorten_33 : decode cX1_shorten 33 = .ok (.getfield 26, 3) := by decide +kernel
theorem dX1_shorten_36 : decode cX1_shorten 36 = .ok (.if_icmp .ge 25, 3) := by decide +kernel
theorem dX1_shorten_39 : decode cX1_shorten 39 = .ok (.lload_n 1, 1) := by decide +kernel
theorem dX1_shorten_40 : decode cX1_shorten 40 = .ok (.lconst 1, 1) := by decide +kernel
theorem dX1_shorten_41 : decode cX1_shorten 41 = .ok (.lcmp, 1) := by decide +kernel
theorem dX1_shorten_42 : decode cX1_shorten 42 = .ok (.ifCond .le 19, 3) := by decide +kernel
theorem dX1_shorten_45 : decode cX1_shorten 45 = .ok (.aload_n 0, 1) := by decide +kernel
theorem dX1_shorten_46 : decode cX1_shorten 46 = .ok (.getfield 32, 3) := by decide +kernel
theorem dX1_shorten_49 : decode cX1_shorten 49 = .ok (.iload_n 3, 1) := by decide +kernel
theorem dX1_shorten_50 : decode cX1_shorten 50 = .ok (.dup2, 1) := by decide +kernel
theorem dX1_shorten_51 : decode cX1_shorten 51 = .ok (.laload, 1) := by decide +kernel
theorem dX1_shorten_52 : decode cX1_shorten 52 = .ok (.lload_n 1, 1) := by decide +kernel
theorem dX1_shorten_53 : decode cX1_shorten 53 = .ok (.ldiv, 1) := by decide +kernel
theorem dX1_shorten_54 : decode cX1_shorten 54 = .ok (.lastore, 1) := by decide +kernel
theorem dX1_shorten_55 : decode cX1_shorten 55 = .ok (.iinc 3 1, 3) := by decide +kernel
theorem dX1_shorten_58 : decode cX1_shorten 58 = .ok (.goto (-27), 3) := by decide +kernel
theorem dX1_shorten_61 : decode cX1_shorten 61 = .ok (.return_, 1) := by decide +kernel
theorem dX2_init_0 : decode cX2_init 0 = .ok (.aload_n 0, 1) := by decide +kernel
theorem dX2_init_1 : decode cX2_init 1 = .ok (.invokespecial 1, 3) := by decide +kernel
theorem dX2_init_4 : decode cX2_init 4 = .ok (.aload_n 0, 1) := by decide +kernel
theorem dX2_init_5 : decode cX2_init 5 = .ok (.bipush 8, 2) := by decide +kernel
theorem dX2_init_7 : decode cX2_init 7 = .ok (.bipush 40, 2) := by decide +kernel
theorem dX2_init_9 : decode cX2_init 9 = .ok (.multianewarray 9 2, 4) := by decide +kernel
theorem dX2_init_13 : decode cX2_init 13 = .ok (.putfield 11, 3) := by decide +kernel
theorem dX2_init_16 : decode cX2_init 16 = .ok (.aload_n 0, 1) := by decide +kernel
theorem dX2_init_17 : decode cX2_init 17 = .ok (.bipush 8, 2) := by decide +kernel
theorem dX2_init_19 : decode cX2_init 19 = .ok (.newarray .int, 2) := by decide +kernel
theorem dX2_init_21 : decode cX2_init 21 = .ok (.putfield 14, 3) := by decide +kernel
theorem dX2_init_24 : decode cX2_init 24 = .ok (.aload_n 0, 1) := by decide +kernel
theorem dX2_init_25 : decode cX2_init 25 = .ok (.bipush 8, 2) := by decide +kernel
theorem dX2_init_27 : decode cX2_init 27 = .ok (.newarray .int, 2) := by decide +kernel
theorem dX2_init_29 : decode cX2_init 29 = .ok (.putfield 18, 3) := by decide +kernel
theorem dX2_init_32 : decode cX2_init 32 = .ok (.iconst 0, 1) := by decide +kernel
theorem dX2_init_33 : decode cX2_init 33 = .ok (.istore_n 1, 1) := by decide +kernel
theorem dX2_init_34 : decode cX2_init 34 = .ok (.iload_n 1, 1) := by decide +kernel
theorem dX2_init_35 : decode cX2_init 35 = .ok (.bipush 8, 2) := by decide +kernel
theorem dX2_init_37 : decode cX2_init 37 = .ok (.if_icmp .ge 16, 3) := by decide +kernel
theorem dX2_init_40 : decode cX2_init 40 = .ok (.aload_n 0, 1) := by decide +kernel
theorem dX2_init_41 : decode cX2_init 41 = .ok (.getfield 18, 3) := by decide +kernel
theorem dX2_init_44 : decode cX2_init 44 = .ok (.iload_n 1, 1) := by decide +kernel
theorem dX2_init_45 : decode cX2_init 45 = .ok (.iconst (-1), 1) := by decide +kernel
theorem dX2_init_46 : decode cX2_init 46 = .ok (.iastore, 1) := by decide +kernel
theorem dX2_init_47 : decode cX2_init 47 = .ok (.iinc 1 1, 3) := by decide +kernel
theorem dX2_init_50 : decode cX2_init 50 = .ok (.goto (-16), 3) := by decide +kernel
theorem dX2_init_53 : decode cX2_init 53 = .ok (.return_, 1) := by decide +kernel
theorem dX2_isRow_0 : decode cX2_isRow 0 = .ok (.iload_n 0, 1) := by decide +kernel
theorem dX2_isRow_1 : decode cX2_isRow 1 = .ok (.ifCond .lt 13, 3) := by decide +kernel
theorem dX2_isRow_4 : decode cX2_isRow 4 = .ok (.iload_n 0, 1) := by decide +kernel
theorem dX2_isRow_5 : decode cX2_isRow 5 = .ok (.bipush 8, 2) := by decide +kernel
theorem dX2_isRow_7 : decode cX2_isRow 7 = .ok (.if_icmp .ge 7, 3) := by decide +kernel
theorem dX2_isRow_10 : decode cX2_isRow 10 = .ok (.iconst 1, 1) := by decide +kernel
theorem dX2_isRow_11 : decode cX2_isRow 11 = .ok (.goto 4, 3) := by decide +kernel
theorem dX2_isRow_14 : decode cX2_isRow 14 = .ok (.iconst 0, 1) := by decide +kernel
theorem dX2_isRow_15 : decode cX2_isRow 15 = .ok (.ireturn, 1) := by decide +kernel
theorem dX2_isLane_0 : decode cX2_isLane 0 = .ok (.iload_n 0, 1) := by decide +kernel
theorem dX2_isLane_1 : decode cX2_isLane 1 = .ok (.ifCond .lt 12, 3) := by decide +kernel
theorem dX2_isLane_4 : decode cX2_isLane 4 = .ok (.iload_n 0, 1) := by decide +kernel
theorem dX2_isLane_5 : decode cX2_isLane 5 = .ok (.iconst 2, 1) := by decide +kernel
theorem dX2_isLane_6 : decode cX2_isLane 6 = .ok (.if_icmp .gt 7, 3) := by decide +kernel
theorem dX2_isLane_9 : decode cX2_isLane 9 = .ok (.iconst 1, 1) := by decide +kernel
theorem dX2_isLane_10 : decode cX2_isLane 10 = .ok (.goto 4, 3) := by decide +kernel
theorem dX2_isLane_13 : decode cX2_isLane 13 = .ok (.iconst 0, 1) := by decide +kernel
theorem dX2_isLane_14 : decode cX2_isLane 14 = .ok (.ireturn, 1) := by decide +kernel
theorem dX2_isMissing_0 : decode cX2_isMissing 0 = .ok (.aload_n 0, 1) := by decide +kernel
theorem dX2_isMissing_1 : decode cX2_isMissing 1 = .ok (.getfield 18, 3) := by decide +kernel
theorem dX2_isMissing_4 : decode cX2_isMissing 4 = .ok (.iload_n 1, 1) := by decide +kernel
theorem dX2_isMissing_5 : decode cX2_isMissing 5 = .ok (.iaload, 1) := by decide +kernel
theorem dX2_isMissing_6 : decode cX2_isMissing 6 = .ok (.iconst (-1), 1) := by decide +kernel
theorem dX2_isMissing_7 : decode cX2_isMissing 7 = .ok (.if_icmp .ne 7, 3) := by decide +kernel
theorem dX2_isMissing_10 : decode cX2_isMissing 10 = .ok (.iconst 1, 1) := by decide +kernel
theorem dX2_isMissing_11 : decode cX2_isMissing 11 = .ok (.goto 4, 3) := by decide +kernel
theorem dX2_isMissing_14 : decode cX2_isMissing 14 = .ok (.iconst 0, 1) := by decide +kernel
theorem dX2_isMissing_15 : decode cX2_isMissing 15 = .ok (.ireturn, 1) := by decide +kernel
theorem dX2_sameLane_0 : decode cX2_sameLane 0 = .ok (.aload_n 0, 1) := by decide +kernel
theorem dX2_sameLane_1 : decode cX2_sameLane 1 = .ok (.getfield 14, 3) := by decide +kernel
theorem dX2_sameLane_4 : decode cX2_sameLane 4 = .ok (.iload_n 1, 1) := by decide +kernel
theorem dX2_sameLane_5 : decode cX2_sameLane 5 = .ok (.iaload, 1) := by decide +kernel
theorem dX2_sameLane_6 : decode cX2_sameLane 6 = .ok (.aload_n 0, 1) := by decide +kernel
theorem dX2_sameLane_7 : decode cX2_sameLane 7 = .ok (.getfield 14, 3) := by decide +kernel
theorem dX2_sameLane_10 : decode cX2_sameLane 10 = .ok (.iload_n 2, 1) := by decide +kernel
theorem dX2_sameLane_11 : decode cX2_sameLane 11 = .ok (.iaload, 1) := by decide +kernel
theorem dX2_sameLane_12 : decode cX2_sameLane 12 = .ok (.if_icmp .ne 7, 3) := by decide +kernel
theorem dX2_sameLane_15 : decode cX2_sameLane 15 = .ok (.iconst 1, 1) := by decide +kernel
theorem dX2_sameLane_16 : decode cX2_sameLane 16 = .ok (.goto 4, 3) := by decide +kernel
theorem dX2_sameLane_19 : decode cX2_sameLane 19 = .ok (.iconst 0, 1) := by decide +kernel
theorem dX2_sameLane_20 : decode cX2_sameLane 20 = .ok (.ireturn, 1) := by decide +kernel
theorem dX2_has_0 : decode cX2_has 0 = .ok (.iload_n 2, 1) := by decide +kernel
theorem dX2_has_1 : decode cX2_has 1 = .ok (.ifCond .lt 33, 3) := by decide +kernel
theorem dX2_has_4 : decode cX2_has 4 = .ok (.iload_n 3, 1) := by decide +kernel
theorem dX2_has_5 : decode cX2_has 5 = .ok (.ifCond .lt 29, 3) := by decide +kernel
theorem dX2_has_8 : decode cX2_has 8 = .ok (.iload_n 3, 1) := by decide +kernel
theorem dX2_has_9 : decode cX2_has 9 = .ok (.aload_n 0, 1) := by decide +kernel
theorem dX2_has_10 : decode cX2_has 10 = .ok (.getfield 18, 3) := by decide +kernel
theorem dX2_has_13 : decode cX2_has 13 = .ok (.iload_n 1, 1) := by decide +kernel
theorem dX2_has_14 : decode cX2_has 14 = .ok (.iaload, 1) := by decide +kernel
theorem dX2_has_15 : decode cX2_has 15 = .ok (.if_icmp .gt 19, 3) := by decide +kernel
theorem dX2_has_18 : decode cX2_has 18 = .ok (.iload_n 2, 1) := by decide +kernel
theorem dX2_has_19 : decode cX2_has 19 = .ok (.aload_n 0, 1) := by decide +kernel
theorem dX2_has_20 : decode cX2_has 20 = .ok (.getfield 18, 3) := by decide +kernel
theorem dX2_has_23 : decode cX2_has 23 = .ok (.iload_n 1, 1) := by decide +kernel
theorem dX2_has_24 : decode cX2_has 24 = .ok (.iaload, 1) := by decide +kernel
theorem dX2_has_25 : decode cX2_has 25 = .ok (.iload_n 3, 1) := by decide +kernel
theorem dX2_has_26 : decode cX2_has 26 = .ok (.isub, 1) := by decide +kernel
theorem dX2_has_27 : decode cX2_has 27 = .ok (.if_icmp .gt 7, 3) := by decide +kernel
theorem dX2_has_30 : decode cX2_has 30 = .ok (.iconst 1, 1) := by decide +kernel
theorem dX2_has_31 : decode cX2_has 31 = .ok (.goto 4, 3) := by decide +kernel
theorem dX2_has_34 : decode cX2_has 34 = .ok (.iconst 0, 1) := by decide +kernel
theorem dX2_has_35 : decode cX2_has 35 = .ok (.ireturn, 1) := by decide +kernel
theorem dX2_item_0 : decode cX2_item 0 = .ok (.aload_n 0, 1) := by decide +kernel
theorem dX2_item_1 : decode cX2_item 1 = .ok (.getfield 11, 3) := by decide +kernel
theorem dX2_item_4 : decode cX2_item 4 = .ok (.iload_n 1, 1) := by decide +kernel
theorem dX2_item_5 : decode cX2_item 5 = .ok (.aaload, 1) := by decide +kernel
theorem dX2_item_6 : decode cX2_item 6 = .ok (.iload_n 2, 1) := by decide +kernel
theorem dX2_item_7 : decode cX2_item 7 = .ok (.iaload, 1) := by decide +kernel
theorem dX2_item_8 : decode cX2_item 8 = .ok (.ireturn, 1) := by decide +kernel
theorem dX2_make_0 : decode cX2_make 0 = .ok (.aload_n 0, 1) := by decide +kernel
theorem dX2_make_1 : decode cX2_make 1 = .ok (.getfield 14, 3) := by decide +kernel
theorem dX2_make_4 : decode cX2_make 4 = .ok (.iload_n 1, 1) := by decide +kernel
theorem dX2_make_5 : decode cX2_make 5 = .ok (.iload_n 2, 1) := by decide +kernel
theorem dX2_make_6 : decode cX2_make 6 = .ok (.iastore, 1) := by decide +kernel
theorem dX2_make_7 : decode cX2_make 7 = .ok (.aload_n 0, 1) := by decide +kernel
theorem dX2_make_8 : decode cX2_make 8 = .ok (.getfield 18, 3) := by decide +kernel
theorem dX2_make_11 : decode cX2_make 11 = .ok (.iload_n 1, 1) := by decide +kernel
theorem dX2_make_12 : decode cX2_make 12 = .ok (.iload_n 3, 1) := by decide +kernel
theorem dX2_make_13 : decode cX2_make 13 = .ok (.iastore, 1) := by decide +kernel
theorem dX2_make_14 : decode cX2_make 14 = .ok (.iconst 0, 1) := by decide +kernel
theorem dX2_make_15 : decode cX2_make 15 = .ok (.istore 4, 2) := by decide +kernel
theorem dX2_make_17 : decode cX2_make 17 = .ok (.iload 4, 2) := by decide +kernel
theorem dX2_make_19 : decode cX2_make 19 = .ok (.iload_n 3, 1) := by decide +kernel
theorem dX2_make_20 : decode cX2_make 20 = .ok (.if_icmp .ge 19, 3) := by decide +kernel
theorem dX2_make_23 : decode cX2_make 23 = .ok (.aload_n 0, 1) := by decide +kernel
theorem dX2_make_24 : decode cX2_make 24 = .ok (.getfield 11, 3) := by decide +kernel
theorem dX2_make_27 : decode cX2_make 27 = .ok (.iload_n 1, 1) := by decide +kernel
theorem dX2_make_28 : decode cX2_make 28 = .ok (.aaload, 1) := by decide +kernel
theorem dX2_make_29 : decode cX2_make 29 = .ok (.iload 4, 2) := by decide +kernel
theorem dX2_make_31 : decode cX2_make 31 = .ok (.iconst 0, 1) := by decide +kernel
theorem dX2_make_32 : decode cX2_make 32 = .ok (.iastore, 1) := by decide +kernel
theorem dX2_make_33 : decode cX2_make 33 = .ok (.iinc 4 1, 3) := by decide +kernel
theorem dX2_make_36 : decode cX2_make 36 = .ok (.goto (-19), 3) := by decide +kernel
theorem dX2_make_39 : decode cX2_make 39 = .ok (.return_, 1) := by decide +kernel
theorem dX2_put_0 : decode cX2_put 0 = .ok (.iload_n 3, 1) := by decide +kernel
theorem dX2_put_1 : decode cX2_put 1 = .ok (.istore 4, 2) := by decide +kernel
theorem dX2_put_3 : decode cX2_put 3 = .ok (.aload_n 0, 1) := by decide +kernel
theorem dX2_put_4 : decode cX2_put 4 = .ok (.getfield 14, 3) := by decide +kernel
theorem dX2_put_7 : decode cX2_put 7 = .ok (.iload_n 1, 1) := by decide +kernel
theorem dX2_put_8 : decode cX2_put 8 = .ok (.iaload, 1) := by decide +kernel
theorem dX2_put_9 : decode cX2_put 9 = .ok (.ifCond .ne 10, 3) := by decide +kernel
theorem dX2_put_12 : decode cX2_put 12 = .ok (.iload_n 3, 1) := by decide +kernel
theorem dX2_put_13 : decode cX2_put 13 = .ok (.i2b, 1) := by decide +kernel
theorem dX2_put_14 : decode cX2_put 14 = .ok (.istore 4, 2) := by decide +kernel
theorem dX2_put_16 : decode cX2_put 16 = .ok (.goto 17, 3) := by decide +kernel
theorem dX2_put_19 : decode cX2_put 19 = .ok (.aload_n 0, 1) := by decide +kernel
theorem dX2_put_20 : decode cX2_put 20 = .ok (.getfield 14, 3) := by decide +kernel
theorem dX2_put_23 : decode cX2_put 23 = .ok (.iload_n 1, 1) := by decide +kernel
theorem dX2_put_24 : decode cX2_put 24 = .ok (.iaload, 1) := by decide +kernel
theorem dX2_put_25 : decode cX2_put 25 = .ok (.iconst 1, 1) := by decide +kernel
theorem dX2_put_26 : decode cX2_put 26 = .ok (.if_icmp .ne 7, 3) := by decide +kernel
theorem dX2_put_29 : decode cX2_put 29 = .ok (.iload_n 3, 1) := by decide +kernel
theorem dX2_put_30 : decode cX2_put 30 = .ok (.i2s, 1) := by decide +kernel
theorem dX2_put_31 : decode cX2_put 31 = .ok (.istore 4, 2) := by decide +kernel
theorem dX2_put_33 : decode cX2_put 33 = .ok (.aload_n 0, 1) := by decide +kernel
theorem dX2_put_34 : decode cX2_put 34 = .ok (.getfield 11, 3) := by decide +kernel
theorem dX2_put_37 : decode cX2_put 37 = .ok (.iload_n 1, 1) := by decide +kernel
theorem dX2_put_38 : decode cX2_put 38 = .ok (.aaload, 1) := by decide +kernel
theorem dX2_put_39 : decode cX2_put 39 = .ok (.iload_n 2, 1) := by decide +kernel
theorem dX2_put_40 : decode cX2_put 40 = .ok (.iload 4, 2) := by decide +kernel
theorem dX2_put_42 : decode cX2_put 42 = .ok (.iastore, 1) := by decide +kernel
theorem dX2_put_43 : decode cX2_put 43 = .ok (.iload 4, 2) := by decide +kernel
theorem dX2_put_45 : decode cX2_put 45 = .ok (.ireturn, 1) := by decide +kernel
theorem dX2_carry_0 : decode cX2_carry 0 = .ok (.aload_n 0, 1) := by decide +kernel
theorem dX2_carry_1 : decode cX2_carry 1 = .ok (.getfield 11, 3) := by decide +kernel
theorem dX2_carry_4 : decode cX2_carry 4 = .ok (.iload_n 1, 1) := by decide +kernel
theorem dX2_carry_5 : decode cX2_carry 5 = .ok (.aaload, 1) := by decide +kernel
theorem dX2_carry_6 : decode cX2_carry 6 = .ok (.iload_n 2, 1) := by decide +kernel
theorem dX2_carry_7 : decode cX2_carry 7 = .ok (.aload_n 0, 1) := by decide +kernel
theorem dX2_carry_8 : decode cX2_carry 8 = .ok (.getfield 11, 3) := by decide +kernel
theorem dX2_carry_11 : decode cX2_carry 11 = .ok (.iload_n 3, 1) := by decide +kernel
theorem dX2_carry_12 : decode cX2_carry 12 = .ok (.aaload, 1) := by decide +kernel
theorem dX2_carry_13 : decode cX2_carry 13 = .ok (.iload 4, 2) := by decide +kernel
theorem dX2_carry_15 : decode cX2_carry 15 = .ok (.iload 5, 2) := by decide +kernel
theorem dX2_carry_17 : decode cX2_carry 17 = .ok (.invokestatic 21, 3) := by decide +kernel
theorem dX2_carry_20 : decode cX2_carry 20 = .ok (.return_, 1) := by decide +kernel
theorem dX2_remove_0 : decode cX2_remove 0 = .ok (.aload_n 0, 1) := by decide +kernel
theorem dX2_remove_1 : decode cX2_remove 1 = .ok (.getfield 18, 3) := by decide +kernel
theorem dX2_remove_4 : decode cX2_remove 4 = .ok (.iload_n 1, 1) := by decide +kernel
theorem dX2_remove_5 : decode cX2_remove 5 = .ok (.iaload, 1) := by decide +kernel
theorem dX2_remove_6 : decode cX2_remove 6 = .ok (.istore_n 2, 1) := by decide +kernel
theorem dX2_remove_7 : decode cX2_remove 7 = .ok (.aload_n 0, 1) := by decide +kernel
theorem dX2_remove_8 : decode cX2_remove 8 = .ok (.getfield 18, 3) := by decide +kernel
theorem dX2_remove_11 : decode cX2_remove 11 = .ok (.iload_n 1, 1) := by decide +kernel
theorem dX2_remove_12 : decode cX2_remove 12 = .ok (.iconst (-1), 1) := by decide +kernel
theorem dX2_remove_13 : decode cX2_remove 13 = .ok (.iastore, 1) := by decide +kernel
theorem dX2_remove_14 : decode cX2_remove 14 = .ok (.iload_n 2, 1) := by decide +kernel
theorem dX2_remove_15 : decode cX2_remove 15 = .ok (.ireturn, 1) := by decide +kernel
theorem dX2_present_0 : decode cX2_present 0 = .ok (.iconst 0, 1) := by decide +kernel
theorem dX2_present_1 : decode cX2_present 1 = .ok (.istore_n 1, 1) := by decide +kernel
theorem dX2_present_2 : decode cX2_present 2 = .ok (.iconst 0, 1) := by decide +kernel
theorem dX2_present_3 : decode cX2_present 3 = .ok (.istore_n 2, 1) := by decide +kernel
theorem dX2_present_4 : decode cX2_present 4 = .ok (.iload_n 2, 1) := by decide +kernel
theorem dX2_present_5 : decode cX2_present 5 = .ok (.bipush 8, 2) := by decide +kernel
theorem dX2_present_7 : decode cX2_present 7 = .ok (.if_icmp .ge 22, 3) := by decide +kernel
theorem dX2_present_10 : decode cX2_present 10 = .ok (.aload_n 0, 1) := by decide +kernel
theorem dX2_present_11 : decode cX2_present 11 = .ok (.getfield 18, 3) := by decide +kernel
theorem dX2_present_14 : decode cX2_present 14 = .ok (.iload_n 2, 1) := by decide +kernel
theorem dX2_present_15 : decode cX2_present 15 = .ok (.iaload, 1) := by decide +kernel
theorem dX2_present_16 : decode cX2_present 16 = .ok (.iconst (-1), 1) := by decide +kernel
theorem dX2_present_17 : decode cX2_present 17 = .ok (.if_icmp .eq 6, 3) := by decide +kernel
theorem dX2_present_20 : decode cX2_present 20 = .ok (.iinc 1 1, 3) := by decide +kernel
theorem dX2_present_23 : decode cX2_present 23 = .ok (.iinc 2 1, 3) := by decide +kernel
theorem dX2_present_26 : decode cX2_present 26 = .ok (.goto (-22), 3) := by decide +kernel
theorem dX2_present_29 : decode cX2_present 29 = .ok (.iload_n 1, 1) := by decide +kernel
theorem dX2_present_30 : decode cX2_present 30 = .ok (.ireturn, 1) := by decide +kernel
theorem dX3_init_0 : decode cX3_init 0 = .ok (.aload_n 0, 1) := by decide +kernel
theorem dX3_init_1 : decode cX3_init 1 = .ok (.invokespecial 3, 3) := by decide +kernel
theorem dX3_init_4 : decode cX3_init 4 = .ok (.aload_n 0, 1) := by decide +kernel
theorem dX3_init_5 : decode cX3_init 5 = .ok (.sipush 400, 3) := by decide +kernel
theorem dX3_init_8 : decode cX3_init 8 = .ok (.newarray .byte, 2) := by decide +kernel
theorem dX3_init_10 : decode cX3_init 10 = .ok (.putfield 11, 3) := by decide +kernel
theorem dX3_init_13 : decode cX3_init 13 = .ok (.aload_n 0, 1) := by decide +kernel
theorem dX3_init_14 : decode cX3_init 14 = .ok (.iconst 0, 1) := by decide +kernel
theorem dX3_init_15 : decode cX3_init 15 = .ok (.putfield 15, 3) := by decide +kernel
theorem dX3_init_18 : decode cX3_init 18 = .ok (.aload_n 0, 1) := by decide +kernel
theorem dX3_init_19 : decode cX3_init 19 = .ok (.iconst 0, 1) := by decide +kernel
theorem dX3_init_20 : decode cX3_init 20 = .ok (.putfield 19, 3) := by decide +kernel
theorem dX3_init_23 : decode cX3_init 23 = .ok (.aload_n 0, 1) := by decide +kernel
theorem dX3_init_24 : decode cX3_init 24 = .ok (.iconst 0, 1) := by decide +kernel
theorem dX3_init_25 : decode cX3_init 25 = .ok (.putfield 22, 3) := by decide +kernel
theorem dX3_init_28 : decode cX3_init 28 = .ok (.aload_n 0, 1) := by decide +kernel
theorem dX3_init_29 : decode cX3_init 29 = .ok (.iconst 0, 1) := by decide +kernel
theorem dX3_init_30 : decode cX3_init 30 = .ok (.putfield 25, 3) := by decide +kernel
theorem dX3_init_33 : decode cX3_init 33 = .ok (.aload_n 0, 1) := by decide +kernel
theorem dX3_init_34 : decode cX3_init 34 = .ok (.iconst 0, 1) := by decide +kernel
theorem dX3_init_35 : decode cX3_init 35 = .ok (.putfield 28, 3) := by decide +kernel
theorem dX3_init_38 : decode cX3_init 38 = .ok (.aload_n 0, 1) := by decide +kernel
theorem dX3_init_39 : decode cX3_init 39 = .ok (.iconst 0, 1) := by decide +kernel
theorem dX3_init_40 : decode cX3_init 40 = .ok (.putfield 31, 3) := by decide +kernel
theorem dX3_init_43 : decode cX3_init 43 = .ok (.aload_n 0, 1) := by decide +kernel
theorem dX3_init_44 : decode cX3_init 44 = .ok (.iconst 0, 1) := by decide +kernel
theorem dX3_init_45 : decode cX3_init 45 = .ok (.putfield 34, 3) := by decide +kernel
theorem dX3_init_48 : decode cX3_init 48 = .ok (.return_, 1) := by decide +kernel
theorem dX3_hasRoom_0 : decode cX3_hasRoom 0 = .ok (.aload_n 0, 1) := by decide +kernel
theorem dX3_hasRoom_1 : decode cX3_hasRoom 1 = .ok (.getfield 15, 3) := by decide +kernel
theorem dX3_hasRoom_4 : decode cX3_hasRoom 4 = .ok (.iload_n 1, 1) := by decide +kernel
theorem dX3_hasRoom_5 : decode cX3_hasRoom 5 = .ok (.iadd, 1) := by decide +kernel
theorem dX3_hasRoom_6 : decode cX3_hasRoom 6 = .ok (.sipush 400, 3) := by decide +kernel
theorem dX3_hasRoom_9 : decode cX3_hasRoom 9 = .ok (.if_icmp .gt 7, 3) := by decide +kernel
theorem dX3_hasRoom_12 : decode cX3_hasRoom 12 = .ok (.iconst 1, 1) := by decide +kernel
theorem dX3_hasRoom_13 : decode cX3_hasRoom 13 = .ok (.goto 4, 3) := by decide +kernel
theorem dX3_hasRoom_16 : decode cX3_hasRoom 16 = .ok (.iconst 0, 1) := by decide +kernel
theorem dX3_hasRoom_17 : decode cX3_hasRoom 17 = .ok (.ireturn, 1) := by decide +kernel
theorem dX3_append_0 : decode cX3_append 0 = .ok (.iload_n 3, 1) := by decide +kernel
theorem dX3_append_1 : decode cX3_append 1 = .ok (.iconst 1, 1) := by decide +kernel
theorem dX3_append_2 : decode cX3_append 2 = .ok (.isub, 1) := by decide +kernel
theorem dX3_append_3 : decode cX3_append 3 = .ok (.istore 4, 2) := by decide +kernel
theorem dX3_append_5 : decode cX3_append 5 = .ok (.iload 4, 2) := by decide +kernel
theorem dX3_append_7 : decode cX3_append 7 = .ok (.ifCond .lt 47, 3) := by decide +kernel
theorem dX3_append_10 : decode cX3_append 10 = .ok (.aload_n 0, 1) := by decide +kernel
theorem dX3_append_11 : decode cX3_append 11 = .ok (.getfield 15, 3) := by decide +kernel
theorem dX3_append_14 : decode cX3_append 14 = .ok (.sipush 400, 3) := by decide +kernel
theorem dX3_append_17 : decode cX3_append 17 = .ok (.if_icmp .ge 37, 3) := by decide +kernel
theorem dX3_append_20 : decode cX3_append 20 = .ok (.aload_n 0, 1) := by decide +kernel
theorem dX3_append_21 : decode cX3_append 21 = .ok (.getfield 11, 3) := by decide +kernel
theorem dX3_append_24 : decode cX3_append 24 = .ok (.aload_n 0, 1) := by decide +kernel
theorem dX3_append_25 : decode cX3_append 25 = .ok (.getfield 15, 3) := by decide +kernel
theorem dX3_append_28 : decode cX3_append 28 = .ok (.lload_n 1, 1) := by decide +kernel
theorem dX3_append_29 : decode cX3_append 29 = .ok (.bipush 8, 2) := by decide +kernel
theorem dX3_append_31 : decode cX3_append 31 = .ok (.iload 4, 2) := by decide +kernel
theorem dX3_append_33 : decode cX3_append 33 = .ok (.imul, 1) := by decide +kernel
theorem dX3_append_34 : decode cX3_append 34 = .ok (.lushr, 1) := by decide +kernel
theorem dX3_append_35 : decode cX3_append 35 = .ok (.l2i, 1) := by decide +kernel
theorem dX3_append_36 : decode cX3_append 36 = .ok (.i2b, 1) := by decide +kernel
theorem dX3_append_37 : decode cX3_append 37 = .ok (.bastore, 1) := by decide +kernel
theorem dX3_append_38 : decode cX3_append 38 = .ok (.aload_n 0, 1) := by decide +kernel
theorem dX3_append_39 : decode cX3_append 39 = .ok (.dup, 1) := by decide +kernel
theorem dX3_append_40 : decode cX3_append 40 = .ok (.getfield 15, 3) := by decide +kernel
theorem dX3_append_43 : decode cX3_append 43 = .ok (.iconst 1, 1) := by decide +kernel
theorem dX3_append_44 : decode cX3_append 44 = .ok (.iadd, 1) := by decide +kernel
theorem dX3_append_45 : decode cX3_append 45 = .ok (.putfield 15, 3) := by decide +kernel
theorem dX3_append_48 : decode cX3_append 48 = .ok (.iinc 4 (-1), 3) := by decide +kernel
theorem dX3_append_51 : decode cX3_append 51 = .ok (.goto (-46), 3) := by decide +kernel
theorem dX3_append_54 : decode cX3_append 54 = .ok (.aload_n 0, 1) := by decide +kernel
theorem dX3_append_55 : decode cX3_append 55 = .ok (.getfield 15, 3) := by decide +kernel
theorem dX3_append_58 : decode cX3_append 58 = .ok (.ireturn, 1) := by decide +kernel
theorem dX3_empty_0 : decode cX3_empty 0 = .ok (.aload_n 0, 1) := by decide +kernel
theorem dX3_empty_1 : decode cX3_empty 1 = .ok (.iconst 0, 1) := by decide +kernel
theorem dX3_empty_2 : decode cX3_empty 2 = .ok (.putfield 15, 3) := by decide +kernel
theorem dX3_empty_5 : decode cX3_empty 5 = .ok (.return_, 1) := by decide +kernel
theorem dX3_readInto_0 : decode cX3_readInto 0 = .ok (.aload_n 1, 1) := by decide +kernel
theorem dX3_readInto_1 : decode cX3_readInto 1 = .ok (.iconst 0, 1) := by decide +kernel
theorem dX3_readInto_2 : decode cX3_readInto 2 = .ok (.putfield 37, 3) := by decide +kernel
theorem dX3_readInto_5 : decode cX3_readInto 5 = .ok (.aload_n 1, 1) := by decide +kernel
theorem dX3_readInto_6 : decode cX3_readInto 6 = .ok (.iconst 0, 1) := by decide +kernel
theorem dX3_readInto_7 : decode cX3_readInto 7 = .ok (.putfield 42, 3) := by decide +kernel
theorem dX3_readInto_10 : decode cX3_readInto 10 = .ok (.aload_n 0, 1) := by decide +kernel
theorem dX3_readInto_11 : decode cX3_readInto 11 = .ok (.iconst 0, 1) := by decide +kernel
theorem dX3_readInto_12 : decode cX3_readInto 12 = .ok (.putfield 28, 3) := by decide +kernel
theorem dX3_readInto_15 : decode cX3_readInto 15 = .ok (.aload_n 0, 1) := by decide +kernel
theorem dX3_readInto_16 : decode cX3_readInto 16 = .ok (.invokevirtual 45, 3) := by decide +kernel
theorem dX3_readInto_19 : decode cX3_readInto 19 = .ok (.aload_n 0, 1) := by decide +kernel
theorem dX3_readInto_20 : decode cX3_readInto 20 = .ok (.aload_n 1, 1) := by decide +kernel
theorem dX3_readInto_21 : decode cX3_readInto 21 = .ok (.invokevirtual 48, 3) := by decide +kernel
theorem dX3_readInto_24 : decode cX3_readInto 24 = .ok (.istore_n 2, 1) := by decide +kernel
theorem dX3_readInto_25 : decode cX3_readInto 25 = .ok (.iconst 0, 1) := by decide +kernel
theorem dX3_readInto_26 : decode cX3_readInto 26 = .ok (.istore_n 3, 1) := by decide +kernel
theorem dX3_readInto_27 : decode cX3_readInto 27 = .ok (.iload_n 3, 1) := by decide +kernel
theorem dX3_readInto_28 : decode cX3_readInto 28 = .ok (.bipush 6, 2) := by decide +kernel
theorem dX3_readInto_30 : decode cX3_readInto 30 = .ok (.if_icmp .ge 27, 3) := by decide +kernel
theorem dX3_readInto_33 : decode cX3_readInto 33 = .ok (.iload_n 2, 1) := by decide +kernel
theorem dX3_readInto_34 : decode cX3_readInto 34 = .ok (.ifCond .eq 23, 3) := by decide +kernel
theorem dX3_readInto_37 : decode cX3_readInto 37 = .ok (.aload_n 0, 1) := by decide +kernel
theorem dX3_readInto_38 : decode cX3_readInto 38 = .ok (.getfield 31, 3) := by decide +kernel
theorem dX3_readInto_41 : decode cX3_readInto 41 = .ok (.iconst 1, 1) := by decide +kernel
theorem dX3_readInto_42 : decode cX3_readInto 42 = .ok (.if_icmp .ne 15, 3) := by decide +kernel
theorem dX3_readInto_45 : decode cX3_readInto 45 = .ok (.aload_n 0, 1) := by decide +kernel
theorem dX3_readInto_46 : decode cX3_readInto 46 = .ok (.aload_n 1, 1) := by decide +kernel
theorem dX3_readInto_47 : decode cX3_readInto 47 = .ok (.invokevirtual 48, 3) := by decide +kernel
theorem dX3_readInto_50 : decode cX3_readInto 50 = .ok (.istore_n 2, 1) := by decide +kernel
theorem dX3_readInto_51 : decode cX3_readInto 51 = .ok (.iinc 3 1, 3) := by decide +kernel
theorem dX3_readInto_54 : decode cX3_readInto 54 = .ok (.goto (-27), 3) := by decide +kernel
theorem dX3_readInto_57 : decode cX3_readInto 57 = .ok (.iload_n 2, 1) := by decide +kernel
theorem dX3_readInto_58 : decode cX3_readInto 58 = .ok (.ifCond .eq 15, 3) := by decide +kernel
theorem dX3_readInto_61 : decode cX3_readInto 61 = .ok (.aload_n 0, 1) := by decide +kernel
theorem dX3_readInto_62 : decode cX3_readInto 62 = .ok (.aload_n 1, 1) := by decide +kernel
theorem dX3_readInto_63 : decode cX3_readInto 63 = .ok (.invokevirtual 52, 3) := by decide +kernel
theorem dX3_readInto_66 : decode cX3_readInto 66 = .ok (.ifCond .eq 7, 3) := by decide +kernel
theorem dX3_readInto_69 : decode cX3_readInto 69 = .ok (.iconst 1, 1) := by decide +kernel
theorem dX3_readInto_70 : decode cX3_readInto 70 = .ok (.goto 4, 3) := by decide +kernel
theorem dX3_readInto_73 : decode cX3_readInto 73 = .ok (.iconst 0, 1) := by decide +kernel
theorem dX3_readInto_74 : decode cX3_readInto 74 = .ok (.istore_n 2, 1) := by decide +kernel
theorem dX3_readInto_75 : decode cX3_readInto 75 = .ok (.iconst 0, 1) := by decide +kernel
theorem dX3_readInto_76 : decode cX3_readInto 76 = .ok (.istore_n 3, 1) := by decide +kernel
theorem dX3_readInto_77 : decode cX3_readInto 77 = .ok (.iload_n 3, 1) := by decide +kernel
theorem dX3_readInto_78 : decode cX3_readInto 78 = .ok (.iconst 3, 1) := by decide +kernel
theorem dX3_readInto_79 : decode cX3_readInto 79 = .ok (.if_icmp .ge 27, 3) := by decide +kernel
theorem dX3_readInto_82 : decode cX3_readInto 82 = .ok (.iload_n 2, 1) := by decide +kernel
theorem dX3_readInto_83 : decode cX3_readInto 83 = .ok (.ifCond .eq 23, 3) := by decide +kernel
theorem dX3_readInto_86 : decode cX3_readInto 86 = .ok (.aload_n 0, 1) := by decide +kernel
theorem dX3_readInto_87 : decode cX3_readInto 87 = .ok (.getfield 31, 3) := by decide +kernel
theorem dX3_readInto_90 : decode cX3_readInto 90 = .ok (.iconst 2, 1) := by decide +kernel
theorem dX3_readInto_91 : decode cX3_readInto 91 = .ok (.if_icmp .ne 15, 3) := by decide +kernel
theorem dX3_readInto_94 : decode cX3_readInto 94 = .ok (.aload_n 0, 1) := by decide +kernel
theorem dX3_readInto_95 : decode cX3_readInto 95 = .ok (.aload_n 1, 1) := by decide +kernel
theorem dX3_readInto_96 : decode cX3_readInto 96 = .ok (.invokevirtual 52, 3) := by decide +kernel
theorem dX3_readInto_99 : decode cX3_readInto 99 = .ok (.istore_n 2, 1) := by decide +kernel
theorem dX3_readInto_100 : decode cX3_readInto 100 = .ok (.iinc 3 1, 3) := by decide +kernel
theorem dX3_readInto_103 : decode cX3_readInto 103 = .ok (.goto (-26), 3) := by decide +kernel
theorem dX3_readInto_106 : decode cX3_readInto 106 = .ok (.iload_n 2, 1) := by decide +kernel
theorem dX3_readInto_107 : decode cX3_readInto 107 = .ok (.ifCond .eq 22, 3) := by decide +kernel
theorem dX3_readInto_110 : decode cX3_readInto 110 = .ok (.aload_n 0, 1) := by decide +kernel
theorem dX3_readInto_111 : decode cX3_readInto 111 = .ok (.getfield 31, 3) := by decide +kernel
theorem dX3_readInto_114 : decode cX3_readInto 114 = .ok (.ifCond .eq 11, 3) := by decide +kernel
theorem dX3_readInto_117 : decode cX3_readInto 117 = .ok (.aload_n 0, 1) := by decide +kernel
theorem dX3_readInto_118 : decode cX3_readInto 118 = .ok (.iconst 1, 1) := by decide +kernel
theorem dX3_readInto_119 : decode cX3_readInto 119 = .ok (.invokevirtual 55, 3) := by decide +kernel
theorem dX3_readInto_122 : decode cX3_readInto 122 = .ok (.ifCond .eq 7, 3) := by decide +kernel
theorem dX3_readInto_125 : decode cX3_readInto 125 = .ok (.iconst 1, 1) := by decide +kernel
theorem dX3_readInto_126 : decode cX3_readInto 126 = .ok (.goto 4, 3) := by decide +kernel
theorem dX3_readInto_129 : decode cX3_readInto 129 = .ok (.iconst 0, 1) := by decide +kernel
theorem dX3_readInto_130 : decode cX3_readInto 130 = .ok (.ireturn, 1) := by decide +kernel
theorem dX3_readGood_0 : decode cX3_readGood 0 = .ok (.aload_n 0, 1) := by decide +kernel
theorem dX3_readGood_1 : decode cX3_readGood 1 = .ok (.getfield 31, 3) := by decide +kernel
theorem dX3_readGood_4 : decode cX3_readGood 4 = .ok (.iconst 1, 1) := by decide +kernel
theorem dX3_readGood_5 : decode cX3_readGood 5 = .ok (.if_icmp .eq 9, 3) := by decide +kernel
theorem dX3_readGood_8 : decode cX3_readGood 8 = .ok (.aload_n 0, 1) := by decide +kernel
theorem dX3_readGood_9 : decode cX3_readGood 9 = .ok (.iconst 1, 1) := by decide +kernel
theorem dX3_readGood_10 : decode cX3_readGood 10 = .ok (.invokevirtual 55, 3) := by decide +kernel
theorem dX3_readGood_13 : decode cX3_readGood 13 = .ok (.ireturn, 1) := by decide +kernel
theorem dX3_readGood_14 : decode cX3_readGood 14 = .ok (.aload_n 1, 1) := by decide +kernel
theorem dX3_readGood_15 : decode cX3_readGood 15 = .ok (.getfield 37, 3) := by decide +kernel
theorem dX3_readGood_18 : decode cX3_readGood 18 = .ok (.bipush 6, 2) := by decide +kernel
theorem dX3_readGood_20 : decode cX3_readGood 20 = .ok (.if_icmp .lt 9, 3) := by decide +kernel
theorem dX3_readGood_23 : decode cX3_readGood 23 = .ok (.aload_n 0, 1) := by decide +kernel
theorem dX3_readGood_24 : decode cX3_readGood 24 = .ok (.iconst 3, 1) := by decide +kernel
theorem dX3_readGood_25 : decode cX3_readGood 25 = .ok (.invokevirtual 55, 3) := by decide +kernel
theorem dX3_readGood_28 : decode cX3_readGood 28 = .ok (.ireturn, 1) := by decide +kernel
theorem dX3_readGood_29 : decode cX3_readGood 29 = .ok (.aload_n 0, 1) := by decide +kernel
theorem dX3_readGood_30 : decode cX3_readGood 30 = .ok (.invokevirtual 45, 3) := by decide +kernel
theorem dX3_readGood_33 : decode cX3_readGood 33 = .ok (.aload_n 0, 1) := by decide +kernel
theorem dX3_readGood_34 : decode cX3_readGood 34 = .ok (.bipush 20, 2) := by decide +kernel
theorem dX3_readGood_36 : decode cX3_readGood 36 = .ok (.invokevirtual 59, 3) := by decide +kernel
theorem dX3_readGood_39 : decode cX3_readGood 39 = .ok (.ifCond .ne 5, 3) := by decide +kernel
theorem dX3_readGood_42 : decode cX3_readGood 42 = .ok (.iconst 0, 1) := by decide +kernel
theorem dX3_readGood_43 : decode cX3_readGood 43 = .ok (.ireturn, 1) := by decide +kernel
theorem dX3_readGood_44 : decode cX3_readGood 44 = .ok (.aload_n 1, 1) := by decide +kernel
theorem dX3_readGood_45 : decode cX3_readGood 45 = .ok (.getfield 62, 3) := by decide +kernel
theorem dX3_readGood_48 : decode cX3_readGood 48 = .ok (.aload_n 1, 1) := by decide +kernel
theorem dX3_readGood_49 : decode cX3_readGood 49 = .ok (.getfield 37, 3) := by decide +kernel
theorem dX3_readGood_52 : decode cX3_readGood 52 = .ok (.aload_n 0, 1) := by decide +kernel
theorem dX3_readGood_53 : decode cX3_readGood 53 = .ok (.getfield 34, 3) := by decide +kernel
theorem dX3_readGood_56 : decode cX3_readGood 56 = .ok (.iastore, 1) := by decide +kernel
theorem dX3_readGood_57 : decode cX3_readGood 57 = .ok (.aload_n 1, 1) := by decide +kernel
theorem dX3_readGood_58 : decode cX3_readGood 58 = .ok (.dup, 1) := by decide +kernel
theorem dX3_readGood_59 : decode cX3_readGood 59 = .ok (.getfield 37, 3) := by decide +kernel
theorem dX3_readGood_62 : decode cX3_readGood 62 = .ok (.iconst 1, 1) := by decide +kernel
theorem dX3_readGood_63 : decode cX3_readGood 63 = .ok (.iadd, 1) := by decide +kernel
theorem dX3_readGood_64 : decode cX3_readGood 64 = .ok (.putfield 37, 3) := by decide +kernel
theorem dX3_readGood_67 : decode cX3_readGood 67 = .ok (.aload_n 0, 1) := by decide +kernel
theorem dX3_readGood_68 : decode cX3_readGood 68 = .ok (.invokevirtual 45, 3) := by decide +kernel
theorem dX3_readGood_71 : decode cX3_readGood 71 = .ok (.aload_n 0, 1) := by decide +kernel
theorem dX3_readGood_72 : decode cX3_readGood 72 = .ok (.invokevirtual 66, 3) := by decide +kernel
theorem dX3_readGood_75 : decode cX3_readGood 75 = .ok (.ireturn, 1) := by decide +kernel
theorem dX3_readLand_0 : decode cX3_readLand 0 = .ok (.aload_n 0, 1) := by decide +kernel
theorem dX3_readLand_1 : decode cX3_readLand 1 = .ok (.getfield 31, 3) := by decide +kernel
theorem dX3_readLand_4 : decode cX3_readLand 4 = .ok (.iconst 2, 1) := by decide +kernel
theorem dX3_readLand_5 : decode cX3_readLand 5 = .ok (.if_icmp .eq 9, 3) := by decide +kernel
theorem dX3_readLand_8 : decode cX3_readLand 8 = .ok (.aload_n 0, 1) := by decide +kernel
theorem dX3_readLand_9 : decode cX3_readLand 9 = .ok (.iconst 1, 1) := by decide +kernel
theorem dX3_readLand_10 : decode cX3_readLand 10 = .ok (.invokevirtual 55, 3) := by decide +kernel
theorem dX3_readLand_13 : decode cX3_readLand 13 = .ok (.ireturn, 1) := by decide +kernel
theorem dX3_readLand_14 : decode cX3_readLand 14 = .ok (.aload_n 1, 1) := by decide +kernel
theorem dX3_readLand_15 : decode cX3_readLand 15 = .ok (.getfield 42, 3) := by decide +kernel
theorem dX3_readLand_18 : decode cX3_readLand 18 = .ok (.iconst 3, 1) := by decide +kernel
theorem dX3_readLand_19 : decode cX3_readLand 19 = .ok (.if_icmp .lt 9, 3) := by decide +kernel
theorem dX3_readLand_22 : decode cX3_readLand 22 = .ok (.aload_n 0, 1) := by decide +kernel
theorem dX3_readLand_23 : decode cX3_readLand 23 = .ok (.iconst 3, 1) := by decide +kernel
theorem dX3_readLand_24 : decode cX3_readLand 24 = .ok (.invokevirtual 55, 3) := by decide +kernel
theorem dX3_readLand_27 : decode cX3_readLand 27 = .ok (.ireturn, 1) := by decide +kernel
theorem dX3_readLand_28 : decode cX3_readLand 28 = .ok (.aload_n 0, 1) := by decide +kernel
theorem dX3_readLand_29 : decode cX3_readLand 29 = .ok (.invokevirtual 45, 3) := by decide +kernel
theorem dX3_readLand_32 : decode cX3_readLand 32 = .ok (.aload_n 0, 1) := by decide +kernel
theorem dX3_readLand_33 : decode cX3_readLand 33 = .ok (.bipush 99, 2) := by decide +kernel
theorem dX3_readLand_35 : decode cX3_readLand 35 = .ok (.invokevirtual 59, 3) := by decide +kernel
theorem dX3_readLand_38 : decode cX3_readLand 38 = .ok (.ifCond .ne 5, 3) := by decide +kernel
theorem dX3_readLand_41 : decode cX3_readLand 41 = .ok (.iconst 0, 1) := by decide +kernel
theorem dX3_readLand_42 : decode cX3_readLand 42 = .ok (.ireturn, 1) := by decide +kernel
theorem dX3_readLand_43 : decode cX3_readLand 43 = .ok (.aload_n 1, 1) := by decide +kernel
theorem dX3_readLand_44 : decode cX3_readLand 44 = .ok (.getfield 70, 3) := by decide +kernel
theorem dX3_readLand_47 : decode cX3_readLand 47 = .ok (.aload_n 1, 1) := by decide +kernel
theorem dX3_readLand_48 : decode cX3_readLand 48 = .ok (.getfield 42, 3) := by decide +kernel
theorem dX3_readLand_51 : decode cX3_readLand 51 = .ok (.aload_n 0, 1) := by decide +kernel
theorem dX3_readLand_52 : decode cX3_readLand 52 = .ok (.getfield 34, 3) := by decide +kernel
theorem dX3_readLand_55 : decode cX3_readLand 55 = .ok (.iastore, 1) := by decide +kernel
theorem dX3_readLand_56 : decode cX3_readLand 56 = .ok (.aload_n 0, 1) := by decide +kernel
theorem dX3_readLand_57 : decode cX3_readLand 57 = .ok (.invokevirtual 45, 3) := by decide +kernel
theorem dX3_readLand_60 : decode cX3_readLand 60 = .ok (.iconst 0, 1) := by decide +kernel
theorem dX3_readLand_61 : decode cX3_readLand 61 = .ok (.istore_n 2, 1) := by decide +kernel
theorem dX3_readLand_62 : decode cX3_readLand 62 = .ok (.iload_n 2, 1) := by decide +kernel
theorem dX3_readLand_63 : decode cX3_readLand 63 = .ok (.aload_n 1, 1) := by decide +kernel
theorem dX3_readLand_64 : decode cX3_readLand 64 = .ok (.getfield 37, 3) := by decide +kernel
theorem dX3_readLand_67 : decode cX3_readLand 67 = .ok (.if_icmp .ge 39, 3) := by decide +kernel
theorem dX3_readLand_70 : decode cX3_readLand 70 = .ok (.aload_n 0, 1) := by decide +kernel
theorem dX3_readLand_71 : decode cX3_readLand 71 = .ok (.bipush 20, 2) := by decide +kernel
theorem dX3_readLand_73 : decode cX3_readLand 73 = .ok (.invokevirtual 59, 3) := by decide +kernel
theorem dX3_readLand_76 : decode cX3_readLand 76 = .ok (.ifCond .ne 5, 3) := by decide +kernel
theorem dX3_readLand_79 : decode cX3_readLand 79 = .ok (.iconst 0, 1) := by decide +kernel
theorem dX3_readLand_80 : decode cX3_readLand 80 = .ok (.ireturn, 1) := by decide +kernel
theorem dX3_readLand_81 : decode cX3_readLand 81 = .ok (.aload_n 1, 1) := by decide +kernel
theorem dX3_readLand_82 : decode cX3_readLand 82 = .ok (.getfield 73, 3) := by decide +kernel
theorem dX3_readLand_85 : decode cX3_readLand 85 = .ok (.aload_n 1, 1) := by decide +kernel
theorem dX3_readLand_86 : decode cX3_readLand 86 = .ok (.getfield 42, 3) := by decide +kernel
theorem dX3_readLand_89 : decode cX3_readLand 89 = .ok (.aaload, 1) := by decide +kernel
theorem dX3_readLand_90 : decode cX3_readLand 90 = .ok (.iload_n 2, 1) := by decide +kernel
theorem dX3_readLand_91 : decode cX3_readLand 91 = .ok (.aload_n 0, 1) := by decide +kernel
theorem dX3_readLand_92 : decode cX3_readLand 92 = .ok (.getfield 34, 3) := by decide +kernel
theorem dX3_readLand_95 : decode cX3_readLand 95 = .ok (.iastore, 1) := by decide +kernel
theorem dX3_readLand_96 : decode cX3_readLand 96 = .ok (.aload_n 0, 1) := by decide +kernel
theorem dX3_readLand_97 : decode cX3_readLand 97 = .ok (.invokevirtual 45, 3) := by decide +kernel
theorem dX3_readLand_100 : decode cX3_readLand 100 = .ok (.iinc 2 1, 3) := by decide +kernel
theorem dX3_readLand_103 : decode cX3_readLand 103 = .ok (.goto (-41), 3) := by decide +kernel
theorem dX3_readLand_106 : decode cX3_readLand 106 = .ok (.aload_n 1, 1) := by decide +kernel
theorem dX3_readLand_107 : decode cX3_readLand 107 = .ok (.dup, 1) := by decide +kernel
theorem dX3_readLand_108 : decode cX3_readLand 108 = .ok (.getfield 42, 3) := by decide +kernel
theorem dX3_readLand_111 : decode cX3_readLand 111 = .ok (.iconst 1, 1) := by decide +kernel
theorem dX3_readLand_112 : decode cX3_readLand 112 = .ok (.iadd, 1) := by decide +kernel
theorem dX3_readLand_113 : decode cX3_readLand 113 = .ok (.putfield 42, 3) := by decide +kernel
theorem dX3_readLand_116 : decode cX3_readLand 116 = .ok (.aload_n 0, 1) := by decide +kernel
theorem dX3_readLand_117 : decode cX3_readLand 117 = .ok (.invokevirtual 66, 3) := by decide +kernel
theorem dX3_readLand_120 : decode cX3_readLand 120 = .ok (.ireturn, 1) := by decide +kernel
theorem dX3_passSemicolon_0 : decode cX3_passSemicolon 0 = .ok (.aload_n 0, 1) := by decide +kernel
theorem dX3_passSemicolon_1 : decode cX3_passSemicolon 1 = .ok (.getfield 31, 3) := by decide +kernel
theorem dX3_passSemicolon_4 : decode cX3_passSemicolon 4 = .ok (.iconst 4, 1) := by decide +kernel
theorem dX3_passSemicolon_5 : decode cX3_passSemicolon 5 = .ok (.if_icmp .eq 9, 3) := by decide +kernel
theorem dX3_passSemicolon_8 : decode cX3_passSemicolon 8 = .ok (.aload_n 0, 1) := by decide +kernel
theorem dX3_passSemicolon_9 : decode cX3_passSemicolon 9 = .ok (.iconst 1, 1) := by decide +kernel
theorem dX3_passSemicolon_10 : decode cX3_passSemicolon 10 = .ok (.invokevirtual 55, 3) := by decide +kernel
theorem dX3_passSemicolon_13 : decode cX3_passSemicolon 13 = .ok (.ireturn, 1) := by decide +kernel
theorem dX3_passSemicolon_14 : decode cX3_passSemicolon 14 = .ok (.aload_n 0, 1) := by decide +kernel
theorem dX3_passSemicolon_15 : decode cX3_passSemicolon 15 = .ok (.invokevirtual 45, 3) := by decide +kernel
theorem dX3_passSemicolon_18 : decode cX3_passSemicolon 18 = .ok (.iconst 1, 1) := by decide +kernel
theorem dX3_passSemicolon_19 : decode cX3_passSemicolon 19 = .ok (.ireturn, 1) := by decide +kernel
theorem dX3_isNumberUpTo_0 : decode cX3_isNumberUpTo 0 = .ok (.aload_n 0, 1) := by decide +kernel
theorem dX3_isNumberUpTo_1 : decode cX3_isNumberUpTo 1 = .ok (.getfield 31, 3) := by decide +kernel
theorem dX3_isNumberUpTo_4 : decode cX3_isNumberUpTo 4 = .ok (.iconst 3, 1) := by decide +kernel
theorem dX3_isNumberUpTo_5 : decode cX3_isNumberUpTo 5 = .ok (.if_icmp .eq 9, 3) := by decide +kernel
theorem dX3_isNumberUpTo_8 : decode cX3_isNumberUpTo 8 = .ok (.aload_n 0, 1) := by decide +kernel
theorem dX3_isNumberUpTo_9 : decode cX3_isNumberUpTo 9 = .ok (.iconst 1, 1) := by decide +kernel
theorem dX3_isNumberUpTo_10 : decode cX3_isNumberUpTo 10 = .ok (.invokevirtual 55, 3) := by decide +kernel
theorem dX3_isNumberUpTo_13 : decode cX3_isNumberUpTo 13 = .ok (.ireturn, 1) := by decide +kernel
theorem dX3_isNumberUpTo_14 : decode cX3_isNumberUpTo 14 = .ok (.aload_n 0, 1) := by decide +kernel
theorem dX3_isNumberUpTo_15 : decode cX3_isNumberUpTo 15 = .ok (.getfield 34, 3) := by decide +kernel
theorem dX3_isNumberUpTo_18 : decode cX3_isNumberUpTo 18 = .ok (.iconst 1, 1) := by decide +kernel
theorem dX3_isNumberUpTo_19 : decode cX3_isNumberUpTo 19 = .ok (.if_icmp .lt 11, 3) := by decide +kernel
theorem dX3_isNumberUpTo_22 : decode cX3_isNumberUpTo 22 = .ok (.aload_n 0, 1) := by decide +kernel
theorem dX3_isNumberUpTo_23 : decode cX3_isNumberUpTo 23 = .ok (.getfield 34, 3) := by decide +kernel
theorem dX3_isNumberUpTo_26 : decode cX3_isNumberUpTo 26 = .ok (.iload_n 1, 1) := by decide +kernel
theorem dX3_isNumberUpTo_27 : decode cX3_isNumberUpTo 27 = .ok (.if_icmp .le 11, 3) := by decide +kernel
theorem dX3_isNumberUpTo_30 : decode cX3_isNumberUpTo 30 = .ok (.aload_n 0, 1) := by decide +kernel
theorem dX3_isNumberUpTo_31 : decode cX3_isNumberUpTo 31 = .ok (.iconst 2, 1) := by decide +kernel
theorem dX3_isNumberUpTo_32 : decode cX3_isNumberUpTo 32 = .ok (.invokevirtual 55, 3) := by decide +kernel
theorem dX3_isNumberUpTo_35 : decode cX3_isNumberUpTo 35 = .ok (.ifCond .eq 7, 3) := by decide +kernel
theorem dX3_isNumberUpTo_38 : decode cX3_isNumberUpTo 38 = .ok (.iconst 1, 1) := by decide +kernel
theorem dX3_isNumberUpTo_39 : decode cX3_isNumberUpTo 39 = .ok (.goto 4, 3) := by decide +kernel
theorem dX3_isNumberUpTo_42 : decode cX3_isNumberUpTo 42 = .ok (.iconst 0, 1) := by decide +kernel
theorem dX3_isNumberUpTo_43 : decode cX3_isNumberUpTo 43 = .ok (.ireturn, 1) := by decide +kernel
theorem dX3_blame_0 : decode cX3_blame 0 = .ok (.aload_n 0, 1) := by decide +kernel
theorem dX3_blame_1 : decode cX3_blame 1 = .ok (.iload_n 1, 1) := by decide +kernel
theorem dX3_blame_2 : decode cX3_blame 2 = .ok (.putfield 19, 3) := by decide +kernel
theorem dX3_blame_5 : decode cX3_blame 5 = .ok (.aload_n 0, 1) := by decide +kernel
theorem dX3_blame_6 : decode cX3_blame 6 = .ok (.aload_n 0, 1) := by decide +kernel
theorem dX3_blame_7 : decode cX3_blame 7 = .ok (.getfield 25, 3) := by decide +kernel
theorem dX3_blame_10 : decode cX3_blame 10 = .ok (.putfield 22, 3) := by decide +kernel
theorem dX3_blame_13 : decode cX3_blame 13 = .ok (.iconst 0, 1) := by decide +kernel
theorem dX3_blame_14 : decode cX3_blame 14 = .ok (.ireturn, 1) := by decide +kernel
theorem dX3_step_0 : decode cX3_step 0 = .ok (.aload_n 0, 1) := by decide +kernel
theorem dX3_step_1 : decode cX3_step 1 = .ok (.aload_n 0, 1) := by decide +kernel
theorem dX3_step_2 : decode cX3_step 2 = .ok (.getfield 28, 3) := by decide +kernel
theorem dX3_step_5 : decode cX3_step 5 = .ok (.putfield 25, 3) := by decide +kernel
theorem dX3_step_8 : decode cX3_step 8 = .ok (.aload_n 0, 1) := by decide +kernel
theorem dX3_step_9 : decode cX3_step 9 = .ok (.getfield 25, 3) := by decide +kernel
theorem dX3_step_12 : decode cX3_step 12 = .ok (.aload_n 0, 1) := by decide +kernel
theorem dX3_step_13 : decode cX3_step 13 = .ok (.getfield 15, 3) := by decide +kernel
theorem dX3_step_16 : decode cX3_step 16 = .ok (.if_icmp .ge 44, 3) := by decide +kernel
theorem dX3_step_19 : decode cX3_step 19 = .ok (.aload_n 0, 1) := by decide +kernel
theorem dX3_step_20 : decode cX3_step 20 = .ok (.getfield 11, 3) := by decide +kernel
theorem dX3_step_23 : decode cX3_step 23 = .ok (.aload_n 0, 1) := by decide +kernel
theorem dX3_step_24 : decode cX3_step 24 = .ok (.getfield 25, 3) := by decide +kernel
theorem dX3_step_27 : decode cX3_step 27 = .ok (.baload, 1) := by decide +kernel
theorem dX3_step_28 : decode cX3_step 28 = .ok (.bipush 32, 2) := by decide +kernel
theorem dX3_step_30 : decode cX3_step 30 = .ok (.if_icmp .eq 17, 3) := by decide +kernel
theorem dX3_step_33 : decode cX3_step 33 = .ok (.aload_n 0, 1) := by decide +kernel
theorem dX3_step_34 : decode cX3_step 34 = .ok (.getfield 11, 3) := by decide +kernel
theorem dX3_step_37 : decode cX3_step 37 = .ok (.aload_n 0, 1) := by decide +kernel
theorem dX3_step_38 : decode cX3_step 38 = .ok (.getfield 25, 3) := by decide +kernel
theorem dX3_step_41 : decode cX3_step 41 = .ok (.baload, 1) := by decide +kernel
theorem dX3_step_42 : decode cX3_step 42 = .ok (.bipush 10, 2) := by decide +kernel
theorem dX3_step_44 : decode cX3_step 44 = .ok (.if_icmp .ne 16, 3) := by decide +kernel
theorem dX3_step_47 : decode cX3_step 47 = .ok (.aload_n 0, 1) := by decide +kernel
theorem dX3_step_48 : decode cX3_step 48 = .ok (.dup, 1) := by decide +kernel
theorem dX3_step_49 : decode cX3_step 49 = .ok (.getfield 25, 3) := by decide +kernel
theorem dX3_step_52 : decode cX3_step 52 = .ok (.iconst 1, 1) := by decide +kernel
theorem dX3_step_53 : decode cX3_step 53 = .ok (.iadd, 1) := by decide +kernel
theorem dX3_step_54 : decode cX3_step 54 = .ok (.putfield 25, 3) := by decide +kernel
theorem dX3_step_57 : decode cX3_step 57 = .ok (.goto (-49), 3) := by decide +kernel
theorem dX3_step_60 : decode cX3_step 60 = .ok (.aload_n 0, 1) := by decide +kernel
theorem dX3_step_61 : decode cX3_step 61 = .ok (.aload_n 0, 1) := by decide +kernel
theorem dX3_step_62 : decode cX3_step 62 = .ok (.getfield 25, 3) := by decide +kernel
theorem dX3_step_65 : decode cX3_step 65 = .ok (.putfield 28, 3) := by decide +kernel
theorem dX3_step_68 : decode cX3_step 68 = .ok (.aload_n 0, 1) := by decide +kernel
theorem dX3_step_69 : decode cX3_step 69 = .ok (.getfield 25, 3) := by decide +kernel
theorem dX3_step_72 : decode cX3_step 72 = .ok (.aload_n 0, 1) := by decide +kernel
theorem dX3_step_73 : decode cX3_step 73 = .ok (.getfield 15, 3) := by decide +kernel
theorem dX3_step_76 : decode cX3_step 76 = .ok (.if_icmp .lt 11, 3) := by decide +kernel
theorem dX3_step_79 : decode cX3_step 79 = .ok (.aload_n 0, 1) := by decide +kernel
theorem dX3_step_80 : decode cX3_step 80 = .ok (.iconst 0, 1) := by decide +kernel
theorem dX3_step_81 : decode cX3_step 81 = .ok (.putfield 31, 3) := by decide +kernel
theorem dX3_step_84 : decode cX3_step 84 = .ok (.goto 80, 3) := by decide +kernel
theorem dX3_step_87 : decode cX3_step 87 = .ok (.aload_n 0, 1) := by decide +kernel
theorem dX3_step_88 : decode cX3_step 88 = .ok (.getfield 11, 3) := by decide +kernel
theorem dX3_step_91 : decode cX3_step 91 = .ok (.aload_n 0, 1) := by decide +kernel
theorem dX3_step_92 : decode cX3_step 92 = .ok (.getfield 25, 3) := by decide +kernel
theorem dX3_step_95 : decode cX3_step 95 = .ok (.baload, 1) := by decide +kernel
theorem dX3_step_96 : decode cX3_step 96 = .ok (.invokestatic 77, 3) := by decide +kernel
theorem dX3_step_99 : decode cX3_step 99 = .ok (.ifCond .eq 10, 3) := by decide +kernel
theorem dX3_step_102 : decode cX3_step 102 = .ok (.aload_n 0, 1) := by decide +kernel
theorem dX3_step_103 : decode cX3_step 103 = .ok (.invokevirtual 81, 3) := by decide +kernel
theorem dX3_step_106 : decode cX3_step 106 = .ok (.goto 58, 3) := by decide +kernel
theorem dX3_step_109 : decode cX3_step 109 = .ok (.aload_n 0, 1) := by decide +kernel
theorem dX3_step_110 : decode cX3_step 110 = .ok (.getfield 11, 3) := by decide +kernel
theorem dX3_step_113 : decode cX3_step 113 = .ok (.aload_n 0, 1) := by decide +kernel
theorem dX3_step_114 : decode cX3_step 114 = .ok (.getfield 25, 3) := by decide +kernel
theorem dX3_step_117 : decode cX3_step 117 = .ok (.baload, 1) := by decide +kernel
theorem dX3_step_118 : decode cX3_step 118 = .ok (.invokestatic 84, 3) := by decide +kernel
theorem dX3_step_121 : decode cX3_step 121 = .ok (.ifCond .eq 10, 3) := by decide +kernel
theorem dX3_step_124 : decode cX3_step 124 = .ok (.aload_n 0, 1) := by decide +kernel
theorem dX3_step_125 : decode cX3_step 125 = .ok (.invokevirtual 87, 3) := by decide +kernel
theorem dX3_step_128 : decode cX3_step 128 = .ok (.goto 36, 3) := by decide +kernel
theorem dX3_step_131 : decode cX3_step 131 = .ok (.aload_n 0, 1) := by decide +kernel
theorem dX3_step_132 : decode cX3_step 132 = .ok (.aload_n 0, 1) := by decide +kernel
theorem dX3_step_133 : decode cX3_step 133 = .ok (.getfield 11, 3) := by decide +kernel
theorem dX3_step_136 : decode cX3_step 136 = .ok (.aload_n 0, 1) := by decide +kernel
theorem dX3_step_137 : decode cX3_step 137 = .ok (.getfield 25, 3) := by decide +kernel
theorem dX3_step_140 : decode cX3_step 140 = .ok (.baload, 1) := by decide +kernel
theorem dX3_step_141 : decode cX3_step 141 = .ok (.bipush 59, 2) := by decide +kernel
theorem dX3_step_143 : decode cX3_step 143 = .ok (.if_icmp .ne 7, 3) := by decide +kernel
theorem dX3_step_146 : decode cX3_step 146 = .ok (.iconst 4, 1) := by decide +kernel
theorem dX3_step_147 : decode cX3_step 147 = .ok (.goto 4, 3) := by decide +kernel
theorem dX3_step_150 : decode cX3_step 150 = .ok (.iconst 5, 1) := by decide +kernel
theorem dX3_step_151 : decode cX3_step 151 = .ok (.putfield 31, 3) := by decide +kernel
theorem dX3_step_154 : decode cX3_step 154 = .ok (.aload_n 0, 1) := by decide +kernel
theorem dX3_step_155 : decode cX3_step 155 = .ok (.aload_n 0, 1) := by decide +kernel
theorem dX3_step_156 : decode cX3_step 156 = .ok (.getfield 25, 3) := by decide +kernel
theorem dX3_step_159 : decode cX3_step 159 = .ok (.iconst 1, 1) := by decide +kernel
theorem dX3_step_160 : decode cX3_step 160 = .ok (.iadd, 1) := by decide +kernel
theorem dX3_step_161 : decode cX3_step 161 = .ok (.putfield 28, 3) := by decide +kernel
theorem dX3_step_164 : decode cX3_step 164 = .ok (.return_, 1) := by decide +kernel
theorem dX3_takeName_0 : decode cX3_takeName 0 = .ok (.aload_n 0, 1) := by decide +kernel
theorem dX3_takeName_1 : decode cX3_takeName 1 = .ok (.getfield 28, 3) := by decide +kernel
theorem dX3_takeName_4 : decode cX3_takeName 4 = .ok (.aload_n 0, 1) := by decide +kernel
theorem dX3_takeName_5 : decode cX3_takeName 5 = .ok (.getfield 15, 3) := by decide +kernel
theorem dX3_takeName_8 : decode cX3_takeName 8 = .ok (.if_icmp .ge 31, 3) := by decide +kernel
theorem dX3_takeName_11 : decode cX3_takeName 11 = .ok (.aload_n 0, 1) := by decide +kernel
theorem dX3_takeName_12 : decode cX3_takeName 12 = .ok (.getfield 11, 3) := by decide +kernel
theorem dX3_takeName_15 : decode cX3_takeName 15 = .ok (.aload_n 0, 1) := by decide +kernel
theorem dX3_takeName_16 : decode cX3_takeName 16 = .ok (.getfield 28, 3) := by decide +kernel
theorem dX3_takeName_19 : decode cX3_takeName 19 = .ok (.baload, 1) := by decide +kernel
theorem dX3_takeName_20 : decode cX3_takeName 20 = .ok (.invokestatic 77, 3) := by decide +kernel
theorem dX3_takeName_23 : decode cX3_takeName 23 = .ok (.ifCond .eq 16, 3) := by decide +kernel
theorem dX3_takeName_26 : decode cX3_takeName 26 = .ok (.aload_n 0, 1) := by decide +kernel
theorem dX3_takeName_27 : decode cX3_takeName 27 = .ok (.dup, 1) := by decide +kernel
theorem dX3_takeName_28 : decode cX3_takeName 28 = .ok (.getfield 28, 3) := by decide +kernel
theorem dX3_takeName_31 : decode cX3_takeName 31 = .ok (.iconst 1, 1) := by decide +kernel
theorem dX3_takeName_32 : decode cX3_takeName 32 = .ok (.iadd, 1) := by decide +kernel
theorem dX3_takeName_33 : decode cX3_takeName 33 = .ok (.putfield 28, 3) := by decide +kernel
theorem dX3_takeName_36 : decode cX3_takeName 36 = .ok (.goto (-36), 3) := by decide +kernel
theorem dX3_takeName_39 : decode cX3_takeName 39 = .ok (.aload_n 0, 1) := by decide +kernel
theorem dX3_takeName_40 : decode cX3_takeName 40 = .ok (.iconst 5, 1) := by decide +kernel
theorem dX3_takeName_41 : decode cX3_takeName 41 = .ok (.putfield 31, 3) := by decide +kernel
theorem dX3_takeName_44 : decode cX3_takeName 44 = .ok (.aload_n 0, 1) := by decide +kernel
theorem dX3_takeName_45 : decode cX3_takeName 45 = .ok (.ldc 90, 2) := by decide +kernel
theorem dX3_takeName_47 : decode cX3_takeName 47 = .ok (.invokevirtual 92, 3) := by decide +kernel
theorem dX3_takeName_50 : decode cX3_takeName 50 = .ok (.ifCond .eq 11, 3) := by decide +kernel
theorem dX3_takeName_53 : decode cX3_takeName 53 = .ok (.aload_n 0, 1) := by decide +kernel
theorem dX3_takeName_54 : decode cX3_takeName 54 = .ok (.iconst 1, 1) := by decide +kernel
theorem dX3_takeName_55 : decode cX3_takeName 55 = .ok (.putfield 31, 3) := by decide +kernel
theorem dX3_takeName_58 : decode cX3_takeName 58 = .ok (.goto 17, 3) := by decide +kernel
theorem dX3_takeName_61 : decode cX3_takeName 61 = .ok (.aload_n 0, 1) := by decide +kernel
theorem dX3_takeName_62 : decode cX3_takeName 62 = .ok (.ldc 96, 2) := by decide +kernel
theorem dX3_takeName_64 : decode cX3_takeName 64 = .ok (.invokevirtual 92, 3) := by decide +kernel
theorem dX3_takeName_67 : decode cX3_takeName 67 = .ok (.ifCond .eq 8, 3) := by decide +kernel
theorem dX3_takeName_70 : decode cX3_takeName 70 = .ok (.aload_n 0, 1) := by decide +kernel
theorem dX3_takeName_71 : decode cX3_takeName 71 = .ok (.iconst 2, 1) := by decide +kernel
theorem dX3_takeName_72 : decode cX3_takeName 72 = .ok (.putfield 31, 3) := by decide +kernel
theorem dX3_takeName_75 : decode cX3_takeName 75 = .ok (.return_, 1) := by decide +kernel
theorem dX3_isWord_0 : decode cX3_isWord 0 = .ok (.aload_n 0, 1) := by decide +kernel
theorem dX3_isWord_1 : decode cX3_isWord 1 = .ok (.getfield 28, 3) := by decide +kernel
theorem dX3_isWord_4 : decode cX3_isWord 4 = .ok (.aload_n 0, 1) := by decide +kernel
theorem dX3_isWord_5 : decode cX3_isWord 5 = .ok (.getfield 25, 3) := by decide +kernel
theorem dX3_isWord_8 : decode cX3_isWord 8 = .ok (.isub, 1) := by decide +kernel
theorem dX3_isWord_9 : decode cX3_isWord 9 = .ok (.aload_n 1, 1) := by decide +kernel
theorem dX3_isWord_10 : decode cX3_isWord 10 = .ok (.invokevirtual 98, 3) := by decide +kernel
theorem dX3_isWord_13 : decode cX3_isWord 13 = .ok (.if_icmp .eq 5, 3) := by decide +kernel
theorem dX3_isWord_16 : decode cX3_isWord 16 = .ok (.iconst 0, 1) := by decide +kernel
theorem dX3_isWord_17 : decode cX3_isWord 17 = .ok (.ireturn, 1) := by decide +kernel
theorem dX3_isWord_18 : decode cX3_isWord 18 = .ok (.iconst 0, 1) := by decide +kernel
theorem dX3_isWord_19 : decode cX3_isWord 19 = .ok (.istore_n 2, 1) := by decide +kernel
theorem dX3_isWord_20 : decode cX3_isWord 20 = .ok (.iload_n 2, 1) := by decide +kernel
theorem dX3_isWord_21 : decode cX3_isWord 21 = .ok (.aload_n 1, 1) := by decide +kernel
theorem dX3_isWord_22 : decode cX3_isWord 22 = .ok (.invokevirtual 98, 3) := by decide +kernel
theorem dX3_isWord_25 : decode cX3_isWord 25 = .ok (.if_icmp .ge 30, 3) := by decide +kernel
theorem dX3_isWord_28 : decode cX3_isWord 28 = .ok (.aload_n 0, 1) := by decide +kernel
theorem dX3_isWord_29 : decode cX3_isWord 29 = .ok (.getfield 11, 3) := by decide +kernel
theorem dX3_isWord_32 : decode cX3_isWord 32 = .ok (.aload_n 0, 1) := by decide +kernel
theorem dX3_isWord_33 : decode cX3_isWord 33 = .ok (.getfield 25, 3) := by decide +kernel
theorem dX3_isWord_36 : decode cX3_isWord 36 = .ok (.iload_n 2, 1) := by decide +kernel
theorem dX3_isWord_37 : decode cX3_isWord 37 = .ok (.iadd, 1) := by decide +kernel
theorem dX3_isWord_38 : decode cX3_isWord 38 = .ok (.baload, 1) := by decide +kernel
theorem dX3_isWord_39 : decode cX3_isWord 39 = .ok (.aload_n 1, 1) := by decide +kernel
theorem dX3_isWord_40 : decode cX3_isWord 40 = .ok (.iload_n 2, 1) := by decide +kernel
theorem dX3_isWord_41 : decode cX3_isWord 41 = .ok (.invokevirtual 103, 3) := by decide +kernel
theorem dX3_isWord_44 : decode cX3_isWord 44 = .ok (.if_icmp .eq 5, 3) := by decide +kernel
theorem dX3_isWord_47 : decode cX3_isWord 47 = .ok (.iconst 0, 1) := by decide +kernel
theorem dX3_isWord_48 : decode cX3_isWord 48 = .ok (.ireturn, 1) := by decide +kernel
theorem dX3_isWord_49 : decode cX3_isWord 49 = .ok (.iinc 2 1, 3) := by decide +kernel
theorem dX3_isWord_52 : decode cX3_isWord 52 = .ok (.goto (-32), 3) := by decide +kernel
theorem dX3_isWord_55 : decode cX3_isWord 55 = .ok (.iconst 1, 1) := by decide +kernel
theorem dX3_isWord_56 : decode cX3_isWord 56 = .ok (.ireturn, 1) := by decide +kernel
theorem dX3_takeNumber_0 : decode cX3_takeNumber 0 = .ok (.aload_n 0, 1) := by decide +kernel
theorem dX3_takeNumber_1 : decode cX3_takeNumber 1 = .ok (.iconst 0, 1) := by decide +kernel
theorem dX3_takeNumber_2 : decode cX3_takeNumber 2 = .ok (.putfield 34, 3) := by decide +kernel
theorem dX3_takeNumber_5 : decode cX3_takeNumber 5 = .ok (.aload_n 0, 1) := by decide +kernel
theorem dX3_takeNumber_6 : decode cX3_takeNumber 6 = .ok (.getfield 28, 3) := by decide +kernel
theorem dX3_takeNumber_9 : decode cX3_takeNumber 9 = .ok (.aload_n 0, 1) := by decide +kernel
theorem dX3_takeNumber_10 : decode cX3_takeNumber 10 = .ok (.getfield 15, 3) := by decide +kernel
theorem dX3_takeNumber_13 : decode cX3_takeNumber 13 = .ok (.if_icmp .ge 68, 3) := by decide +kernel
theorem dX3_takeNumber_16 : decode cX3_takeNumber 16 = .ok (.aload_n 0, 1) := by decide +kernel
theorem dX3_takeNumber_17 : decode cX3_takeNumber 17 = .ok (.getfield 11, 3) := by decide +kernel
theorem dX3_takeNumber_20 : decode cX3_takeNumber 20 = .ok (.aload_n 0, 1) := by decide +kernel
theorem dX3_takeNumber_21 : decode cX3_takeNumber 21 = .ok (.getfield 28, 3) := by decide +kernel
theorem dX3_takeNumber_24 : decode cX3_takeNumber 24 = .ok (.baload, 1) := by decide +kernel
theorem dX3_takeNumber_25 : decode cX3_takeNumber 25 = .ok (.invokestatic 84, 3) := by decide +kernel
theorem dX3_takeNumber_28 : decode cX3_takeNumber 28 = .ok (.ifCond .eq 53, 3) := by decide +kernel
theorem dX3_takeNumber_31 : decode cX3_takeNumber 31 = .ok (.aload_n 0, 1) := by decide +kernel
theorem dX3_takeNumber_32 : decode cX3_takeNumber 32 = .ok (.getfield 28, 3) := by decide +kernel
theorem dX3_takeNumber_35 : decode cX3_takeNumber 35 = .ok (.aload_n 0, 1) := by decide +kernel
theorem dX3_takeNumber_36 : decode cX3_takeNumber 36 = .ok (.getfield 25, 3) := by decide +kernel
theorem dX3_takeNumber_39 : decode cX3_takeNumber 39 = .ok (.isub, 1) := by decide +kernel
theorem dX3_takeNumber_40 : decode cX3_takeNumber 40 = .ok (.iconst 2, 1) := by decide +kernel
theorem dX3_takeNumber_41 : decode cX3_takeNumber 41 = .ok (.if_icmp .ge 27, 3) := by decide +kernel
theorem dX3_takeNumber_44 : decode cX3_takeNumber 44 = .ok (.aload_n 0, 1) := by decide +kernel
theorem dX3_takeNumber_45 : decode cX3_takeNumber 45 = .ok (.aload_n 0, 1) := by decide +kernel
theorem dX3_takeNumber_46 : decode cX3_takeNumber 46 = .ok (.getfield 34, 3) := by decide +kernel
theorem dX3_takeNumber_49 : decode cX3_takeNumber 49 = .ok (.bipush 10, 2) := by decide +kernel
theorem dX3_takeNumber_51 : decode cX3_takeNumber 51 = .ok (.imul, 1) := by decide +kernel
theorem dX3_takeNumber_52 : decode cX3_takeNumber 52 = .ok (.aload_n 0, 1) := by decide +kernel
theorem dX3_takeNumber_53 : decode cX3_takeNumber 53 = .ok (.getfield 11, 3) := by decide +kernel
theorem dX3_takeNumber_56 : decode cX3_takeNumber 56 = .ok (.aload_n 0, 1) := by decide +kernel
theorem dX3_takeNumber_57 : decode cX3_takeNumber 57 = .ok (.getfield 28, 3) := by decide +kernel
theorem dX3_takeNumber_60 : decode cX3_takeNumber 60 = .ok (.baload, 1) := by decide +kernel
theorem dX3_takeNumber_61 : decode cX3_takeNumber 61 = .ok (.bipush 48, 2) := by decide +kernel
theorem dX3_takeNumber_63 : decode cX3_takeNumber 63 = .ok (.isub, 1) := by decide +kernel
theorem dX3_takeNumber_64 : decode cX3_takeNumber 64 = .ok (.iadd, 1) := by decide +kernel
theorem dX3_takeNumber_65 : decode cX3_takeNumber 65 = .ok (.putfield 34, 3) := by decide +kernel
theorem dX3_takeNumber_68 : decode cX3_takeNumber 68 = .ok (.aload_n 0, 1) := by decide +kernel
theorem dX3_takeNumber_69 : decode cX3_takeNumber 69 = .ok (.dup, 1) := by decide +kernel
theorem dX3_takeNumber_70 : decode cX3_takeNumber 70 = .ok (.getfield 28, 3) := by decide +kernel
theorem dX3_takeNumber_73 : decode cX3_takeNumber 73 = .ok (.iconst 1, 1) := by decide +kernel
theorem dX3_takeNumber_74 : decode cX3_takeNumber 74 = .ok (.iadd, 1) := by decide +kernel
theorem dX3_takeNumber_75 : decode cX3_takeNumber 75 = .ok (.putfield 28, 3) := by decide +kernel
theorem dX3_takeNumber_78 : decode cX3_takeNumber 78 = .ok (.goto (-73), 3) := by decide +kernel
theorem dX3_takeNumber_81 : decode cX3_takeNumber 81 = .ok (.aload_n 0, 1) := by decide +kernel
theorem dX3_takeNumber_82 : decode cX3_takeNumber 82 = .ok (.aload_n 0, 1) := by decide +kernel
theorem dX3_takeNumber_83 : decode cX3_takeNumber 83 = .ok (.getfield 28, 3) := by decide +kernel
theorem dX3_takeNumber_86 : decode cX3_takeNumber 86 = .ok (.aload_n 0, 1) := by decide +kernel
theorem dX3_takeNumber_87 : decode cX3_takeNumber 87 = .ok (.getfield 25, 3) := by decide +kernel
theorem dX3_takeNumber_90 : decode cX3_takeNumber 90 = .ok (.isub, 1) := by decide +kernel
theorem dX3_takeNumber_91 : decode cX3_takeNumber 91 = .ok (.iconst 2, 1) := by decide +kernel
theorem dX3_takeNumber_92 : decode cX3_takeNumber 92 = .ok (.if_icmp .gt 7, 3) := by decide +kernel
theorem dX3_takeNumber_95 : decode cX3_takeNumber 95 = .ok (.iconst 3, 1) := by decide +kernel
theorem dX3_takeNumber_96 : decode cX3_takeNumber 96 = .ok (.goto 4, 3) := by decide +kernel
theorem dX3_takeNumber_99 : decode cX3_takeNumber 99 = .ok (.iconst 5, 1) := by decide +kernel
theorem dX3_takeNumber_100 : decode cX3_takeNumber 100 = .ok (.putfield 31, 3) := by decide +kernel
theorem dX3_takeNumber_103 : decode cX3_takeNumber 103 = .ok (.return_, 1) := by decide +kernel
theorem dX3_isLetter_0 : decode cX3_isLetter 0 = .ok (.iload_n 0, 1) := by decide +kernel
theorem dX3_isLetter_1 : decode cX3_isLetter 1 = .ok (.bipush 97, 2) := by decide +kernel
theorem dX3_isLetter_3 : decode cX3_isLetter 3 = .ok (.if_icmp .lt 13, 3) := by decide +kernel
theorem dX3_isLetter_6 : decode cX3_isLetter 6 = .ok (.iload_n 0, 1) := by decide +kernel
theorem dX3_isLetter_7 : decode cX3_isLetter 7 = .ok (.bipush 122, 2) := by decide +kernel
theorem dX3_isLetter_9 : decode cX3_isLetter 9 = .ok (.if_icmp .gt 7, 3) := by decide +kernel
theorem dX3_isLetter_12 : decode cX3_isLetter 12 = .ok (.iconst 1, 1) := by decide +kernel
theorem dX3_isLetter_13 : decode cX3_isLetter 13 = .ok (.goto 4, 3) := by decide +kernel
theorem dX3_isLetter_16 : decode cX3_isLetter 16 = .ok (.iconst 0, 1) := by decide +kernel
theorem dX3_isLetter_17 : decode cX3_isLetter 17 = .ok (.ireturn, 1) := by decide +kernel
theorem dX3_isFigure_0 : decode cX3_isFigure 0 = .ok (.iload_n 0, 1) := by decide +kernel
theorem dX3_isFigure_1 : decode cX3_isFigure 1 = .ok (.bipush 48, 2) := by decide +kernel
theorem dX3_isFigure_3 : decode cX3_isFigure 3 = .ok (.if_icmp .lt 13, 3) := by decide +kernel
theorem dX3_isFigure_6 : decode cX3_isFigure 6 = .ok (.iload_n 0, 1) := by decide +kernel
theorem dX3_isFigure_7 : decode cX3_isFigure 7 = .ok (.bipush 57, 2) := by decide +kernel
theorem dX3_isFigure_9 : decode cX3_isFigure 9 = .ok (.if_icmp .gt 7, 3) := by decide +kernel
theorem dX3_isFigure_12 : decode cX3_isFigure 12 = .ok (.iconst 1, 1) := by decide +kernel
theorem dX3_isFigure_13 : decode cX3_isFigure 13 = .ok (.goto 4, 3) := by decide +kernel
theorem dX3_isFigure_16 : decode cX3_isFigure 16 = .ok (.iconst 0, 1) := by decide +kernel
theorem dX3_isFigure_17 : decode cX3_isFigure 17 = .ok (.ireturn, 1) := by decide +kernel
theorem dX4_init_0 : decode cX4_init 0 = .ok (.aload_n 0, 1) := by decide +kernel
theorem dX4_init_1 : decode cX4_init 1 = .ok (.invokespecial 3, 3) := by decide +kernel
theorem dX4_init_4 : decode cX4_init 4 = .ok (.aload_n 0, 1) := by decide +kernel
theorem dX4_init_5 : decode cX4_init 5 = .ok (.bipush 16, 2) := by decide +kernel
theorem dX4_init_7 : decode cX4_init 7 = .ok (.newarray .int, 2) := by decide +kernel
theorem dX4_init_9 : decode cX4_init 9 = .ok (.putfield 11, 3) := by decide +kernel
theorem dX4_init_12 : decode cX4_init 12 = .ok (.aload_n 0, 1) := by decide +kernel
theorem dX4_init_13 : decode cX4_init 13 = .ok (.iconst 0, 1) := by decide +kernel
theorem dX4_init_14 : decode cX4_init 14 = .ok (.putfield 15, 3) := by decide +kernel
theorem dX4_init_17 : decode cX4_init 17 = .ok (.return_, 1) := by decide +kernel
theorem dX4_empty_0 : decode cX4_empty 0 = .ok (.aload_n 0, 1) := by decide +kernel
theorem dX4_empty_1 : decode cX4_empty 1 = .ok (.iconst 0, 1) := by decide +kernel
theorem dX4_empty_2 : decode cX4_empty 2 = .ok (.putfield 15, 3) := by decide +kernel
theorem dX4_empty_5 : decode cX4_empty 5 = .ok (.return_, 1) := by decide +kernel
theorem dX4_add_0 : decode cX4_add 0 = .ok (.aload_n 0, 1) := by decide +kernel
theorem dX4_add_1 : decode cX4_add 1 = .ok (.getfield 15, 3) := by decide +kernel
theorem dX4_add_4 : decode cX4_add 4 = .ok (.bipush 16, 2) := by decide +kernel
theorem dX4_add_6 : decode cX4_add 6 = .ok (.if_icmp .ge 23, 3) := by decide +kernel
theorem dX4_add_9 : decode cX4_add 9 = .ok (.aload_n 0, 1) := by decide +kernel
theorem dX4_add_10 : decode cX4_add 10 = .ok (.getfield 11, 3) := by decide +kernel
theorem dX4_add_13 : decode cX4_add 13 = .ok (.aload_n 0, 1) := by decide +kernel
theorem dX4_add_14 : decode cX4_add 14 = .ok (.getfield 15, 3) := by decide +kernel
theorem dX4_add_17 : decode cX4_add 17 = .ok (.iload_n 1, 1) := by decide +kernel
theorem dX4_add_18 : decode cX4_add 18 = .ok (.iastore, 1) := by decide +kernel
theorem dX4_add_19 : decode cX4_add 19 = .ok (.aload_n 0, 1) := by decide +kernel
theorem dX4_add_20 : decode cX4_add 20 = .ok (.dup, 1) := by decide +kernel
theorem dX4_add_21 : decode cX4_add 21 = .ok (.getfield 15, 3) := by decide +kernel
theorem dX4_add_24 : decode cX4_add 24 = .ok (.iconst 1, 1) := by decide +kernel
theorem dX4_add_25 : decode cX4_add 25 = .ok (.iadd, 1) := by decide +kernel
theorem dX4_add_26 : decode cX4_add 26 = .ok (.putfield 15, 3) := by decide +kernel
theorem dX4_add_29 : decode cX4_add 29 = .ok (.return_, 1) := by decide +kernel
theorem dX4_at_0 : decode cX4_at 0 = .ok (.iload_n 1, 1) := by decide +kernel
theorem dX4_at_1 : decode cX4_at 1 = .ok (.ifCond .lt 20, 3) := by decide +kernel
theorem dX4_at_4 : decode cX4_at 4 = .ok (.iload_n 1, 1) := by decide +kernel
theorem dX4_at_5 : decode cX4_at 5 = .ok (.aload_n 0, 1) := by decide +kernel
theorem dX4_at_6 : decode cX4_at 6 = .ok (.getfield 15, 3) := by decide +kernel
theorem dX4_at_9 : decode cX4_at 9 = .ok (.if_icmp .ge 12, 3) := by decide +kernel
theorem dX4_at_12 : decode cX4_at 12 = .ok (.aload_n 0, 1) := by decide +kernel
theorem dX4_at_13 : decode cX4_at 13 = .ok (.getfield 11, 3) := by decide +kernel
theorem dX4_at_16 : decode cX4_at 16 = .ok (.iload_n 1, 1) := by decide +kernel
theorem dX4_at_17 : decode cX4_at 17 = .ok (.iaload, 1) := by decide +kernel
theorem dX4_at_18 : decode cX4_at 18 = .ok (.goto 5, 3) := by decide +kernel
theorem dX4_at_21 : decode cX4_at 21 = .ok (.ldc 19, 2) := by decide +kernel
theorem dX4_at_23 : decode cX4_at 23 = .ok (.ireturn, 1) := by decide +kernel
theorem dX5_init_0 : decode cX5_init 0 = .ok (.aload_n 0, 1) := by decide +kernel
theorem dX5_init_1 : decode cX5_init 1 = .ok (.invokespecial 3, 3) := by decide +kernel
theorem dX5_init_4 : decode cX5_init 4 = .ok (.aload_n 0, 1) := by decide +kernel
theorem dX5_init_5 : decode cX5_init 5 = .ok (.iconst 0, 1) := by decide +kernel
theorem dX5_init_6 : decode cX5_init 6 = .ok (.putfield 9, 3) := by decide +kernel
theorem dX5_init_9 : decode cX5_init 9 = .ok (.aload_n 0, 1) := by decide +kernel
theorem dX5_init_10 : decode cX5_init 10 = .ok (.iconst 0, 1) := by decide +kernel
theorem dX5_init_11 : decode cX5_init 11 = .ok (.putfield 15, 3) := by decide +kernel
theorem dX5_init_14 : decode cX5_init 14 = .ok (.aload_n 0, 1) := by decide +kernel
theorem dX5_init_15 : decode cX5_init 15 = .ok (.bipush 6, 2) := by decide +kernel
theorem dX5_init_17 : decode cX5_init 17 = .ok (.newarray .int, 2) := by decide +kernel
theorem dX5_init_19 : decode cX5_init 19 = .ok (.putfield 18, 3) := by decide +kernel
theorem dX5_init_22 : decode cX5_init 22 = .ok (.aload_n 0, 1) := by decide +kernel
theorem dX5_init_23 : decode cX5_init 23 = .ok (.iconst 3, 1) := by decide +kernel
theorem dX5_init_24 : decode cX5_init 24 = .ok (.newarray .int, 2) := by decide +kernel
theorem dX5_init_26 : decode cX5_init 26 = .ok (.putfield 22, 3) := by decide +kernel
theorem dX5_init_29 : decode cX5_init 29 = .ok (.aload_n 0, 1) := by decide +kernel
theorem dX5_init_30 : decode cX5_init 30 = .ok (.iconst 3, 1) := by decide +kernel
theorem dX5_init_31 : decode cX5_init 31 = .ok (.bipush 6, 2) := by decide +kernel
theorem dX5_init_33 : decode cX5_init 33 = .ok (.multianewarray 25 2, 4) := by decide +kernel
theorem dX5_init_37 : decode cX5_init 37 = .ok (.putfield 27, 3) := by decide +kernel
theorem dX5_init_40 : decode cX5_init 40 = .ok (.aload_n 0, 1) := by decide +kernel
theorem dX5_init_41 : decode cX5_init 41 = .ok (.iconst 3, 1) := by decide +kernel
theorem dX5_init_42 : decode cX5_init 42 = .ok (.newarray .long, 2) := by decide +kernel
theorem dX5_init_44 : decode cX5_init 44 = .ok (.putfield 30, 3) := by decide +kernel
theorem dX5_init_47 : decode cX5_init 47 = .ok (.aload_n 0, 1) := by decide +kernel
theorem dX5_init_48 : decode cX5_init 48 = .ok (.bipush 6, 2) := by decide +kernel
theorem dX5_init_50 : decode cX5_init 50 = .ok (.newarray .int, 2) := by decide +kernel
theorem dX5_init_52 : decode cX5_init 52 = .ok (.putfield 34, 3) := by decide +kernel
theorem dX5_init_55 : decode cX5_init 55 = .ok (.return_, 1) := by decide +kernel
theorem dX5_take_0 : decode cX5_take 0 = .ok (.aload_n 0, 1) := by decide +kernel
theorem dX5_take_1 : decode cX5_take 1 = .ok (.aload_n 1, 1) := by decide +kernel
theorem dX5_take_2 : decode cX5_take 2 = .ok (.getfield 9, 3) := by decide +kernel
theorem dX5_take_5 : decode cX5_take 5 = .ok (.putfield 9, 3) := by decide +kernel
theorem dX5_take_8 : decode cX5_take 8 = .ok (.aload_n 0, 1) := by decide +kernel
theorem dX5_take_9 : decode cX5_take 9 = .ok (.aload_n 1, 1) := by decide +kernel
theorem dX5_take_10 : decode cX5_take 10 = .ok (.getfield 15, 3) := by decide +kernel
theorem dX5_take_13 : decode cX5_take 13 = .ok (.putfield 15, 3) := by decide +kernel
theorem dX5_take_16 : decode cX5_take 16 = .ok (.aload_n 1, 1) := by decide +kernel
theorem dX5_take_17 : decode cX5_take 17 = .ok (.getfield 18, 3) := by decide +kernel
theorem dX5_take_20 : decode cX5_take 20 = .ok (.iconst 0, 1) := by decide +kernel
theorem dX5_take_21 : decode cX5_take 21 = .ok (.aload_n 0, 1) := by decide +kernel
theorem dX5_take_22 : decode cX5_take 22 = .ok (.getfield 18, 3) := by decide +kernel
theorem dX5_take_25 : decode cX5_take 25 = .ok (.iconst 0, 1) := by decide +kernel
theorem dX5_take_26 : decode cX5_take 26 = .ok (.bipush 6, 2) := by decide +kernel
theorem dX5_take_28 : decode cX5_take 28 = .ok (.invokestatic 37, 3) := by decide +kernel
theorem dX5_take_31 : decode cX5_take 31 = .ok (.aload_n 1, 1) := by decide +kernel
theorem dX5_take_32 : decode cX5_take 32 = .ok (.getfield 22, 3) := by decide +kernel
theorem dX5_take_35 : decode cX5_take 35 = .ok (.iconst 0, 1) := by decide +kernel
theorem dX5_take_36 : decode cX5_take 36 = .ok (.aload_n 0, 1) := by decide +kernel
theorem dX5_take_37 : decode cX5_take 37 = .ok (.getfield 22, 3) := by decide +kernel
theorem dX5_take_40 : decode cX5_take 40 = .ok (.iconst 0, 1) := by decide +kernel
theorem dX5_take_41 : decode cX5_take 41 = .ok (.iconst 3, 1) := by decide +kernel
theorem dX5_take_42 : decode cX5_take 42 = .ok (.invokestatic 37, 3) := by decide +kernel
theorem dX5_take_45 : decode cX5_take 45 = .ok (.aload_n 1, 1) := by decide +kernel
theorem dX5_take_46 : decode cX5_take 46 = .ok (.getfield 30, 3) := by decide +kernel
theorem dX5_take_49 : decode cX5_take 49 = .ok (.iconst 0, 1) := by decide +kernel
theorem dX5_take_50 : decode cX5_take 50 = .ok (.aload_n 0, 1) := by decide +kernel
theorem dX5_take_51 : decode cX5_take 51 = .ok (.getfield 30, 3) := by decide +kernel
theorem dX5_take_54 : decode cX5_take 54 = .ok (.iconst 0, 1) := by decide +kernel
theorem dX5_take_55 : decode cX5_take 55 = .ok (.iconst 3, 1) := by decide +kernel
theorem dX5_take_56 : decode cX5_take 56 = .ok (.invokestatic 37, 3) := by decide +kernel
theorem dX5_take_59 : decode cX5_take 59 = .ok (.iconst 0, 1) := by decide +kernel
theorem dX5_take_60 : decode cX5_take 60 = .ok (.istore_n 2, 1) := by decide +kernel
theorem dX5_take_61 : decode cX5_take 61 = .ok (.iload_n 2, 1) := by decide +kernel
theorem dX5_take_62 : decode cX5_take 62 = .ok (.iconst 3, 1) := by decide +kernel
theorem dX5_take_63 : decode cX5_take 63 = .ok (.if_icmp .ge 28, 3) := by decide +kernel
theorem dX5_take_66 : decode cX5_take 66 = .ok (.aload_n 1, 1) := by decide +kernel
theorem dX5_take_67 : decode cX5_take 67 = .ok (.getfield 27, 3) := by decide +kernel
theorem dX5_take_70 : decode cX5_take 70 = .ok (.iload_n 2, 1) := by decide +kernel
theorem dX5_take_71 : decode cX5_take 71 = .ok (.aaload, 1) := by decide +kernel
theorem dX5_take_72 : decode cX5_take 72 = .ok (.iconst 0, 1) := by decide +kernel
theorem dX5_take_73 : decode cX5_take 73 = .ok (.aload_n 0, 1) := by decide +kernel
theorem dX5_take_74 : decode cX5_take 74 = .ok (.getfield 27, 3) := by decide +kernel
theorem dX5_take_77 : decode cX5_take 77 = .ok (.iload_n 2, 1) := by decide +kernel
theorem dX5_take_78 : decode cX5_take 78 = .ok (.aaload, 1) := by decide +kernel
theorem dX5_take_79 : decode cX5_take 79 = .ok (.iconst 0, 1) := by decide +kernel
theorem dX5_take_80 : decode cX5_take 80 = .ok (.bipush 6, 2) := by decide +kernel
theorem dX5_take_82 : decode cX5_take 82 = .ok (.invokestatic 37, 3) := by decide +kernel
theorem dX5_take_85 : decode cX5_take 85 = .ok (.iinc 2 1, 3) := by decide +kernel
theorem dX5_take_88 : decode cX5_take 88 = .ok (.goto (-27), 3) := by decide +kernel
theorem dX5_take_91 : decode cX5_take 91 = .ok (.return_, 1) := by decide +kernel
theorem dX5_isThere_0 : decode cX5_isThere 0 = .ok (.aload_n 0, 1) := by decide +kernel
theorem dX5_isThere_1 : decode cX5_isThere 1 = .ok (.getfield 9, 3) := by decide +kernel
theorem dX5_isThere_4 : decode cX5_isThere 4 = .ok (.ifCond .le 7, 3) := by decide +kernel
theorem dX5_isThere_7 : decode cX5_isThere 7 = .ok (.iconst 1, 1) := by decide +kernel
theorem dX5_isThere_8 : decode cX5_isThere 8 = .ok (.goto 4, 3) := by decide +kernel
theorem dX5_isThere_11 : decode cX5_isThere 11 = .ok (.iconst 0, 1) := by decide +kernel
theorem dX5_isThere_12 : decode cX5_isThere 12 = .ok (.ireturn, 1) := by decide +kernel
theorem dX5_isLand_0 : decode cX5_isLand 0 = .ok (.iload_n 1, 1) := by decide +kernel
theorem dX5_isLand_1 : decode cX5_isLand 1 = .ok (.ifCond .lt 15, 3) := by decide +kernel
theorem dX5_isLand_4 : decode cX5_isLand 4 = .ok (.iload_n 1, 1) := by decide +kernel
theorem dX5_isLand_5 : decode cX5_isLand 5 = .ok (.aload_n 0, 1) := by decide +kernel
theorem dX5_isLand_6 : decode cX5_isLand 6 = .ok (.getfield 9, 3) := by decide +kernel
theorem dX5_isLand_9 : decode cX5_isLand 9 = .ok (.if_icmp .ge 7, 3) := by decide +kernel
theorem dX5_isLand_12 : decode cX5_isLand 12 = .ok (.iconst 1, 1) := by decide +kernel
theorem dX5_isLand_13 : decode cX5_isLand 13 = .ok (.goto 4, 3) := by decide +kernel
theorem dX5_isLand_16 : decode cX5_isLand 16 = .ok (.iconst 0, 1) := by decide +kernel
theorem dX5_isLand_17 : decode cX5_isLand 17 = .ok (.ireturn, 1) := by decide +kernel
theorem dX5_isGood_0 : decode cX5_isGood 0 = .ok (.iload_n 1, 1) := by decide +kernel
theorem dX5_isGood_1 : decode cX5_isGood 1 = .ok (.ifCond .lt 15, 3) := by decide +kernel
theorem dX5_isGood_4 : decode cX5_isGood 4 = .ok (.iload_n 1, 1) := by decide +kernel
theorem dX5_isGood_5 : decode cX5_isGood 5 = .ok (.aload_n 0, 1) := by decide +kernel
theorem dX5_isGood_6 : decode cX5_isGood 6 = .ok (.getfield 15, 3) := by decide +kernel
theorem dX5_isGood_9 : decode cX5_isGood 9 = .ok (.if_icmp .ge 7, 3) := by decide +kernel
theorem dX5_isGood_12 : decode cX5_isGood 12 = .ok (.iconst 1, 1) := by decide +kernel
theorem dX5_isGood_13 : decode cX5_isGood 13 = .ok (.goto 4, 3) := by decide +kernel
theorem dX5_isGood_16 : decode cX5_isGood 16 = .ok (.iconst 0, 1) := by decide +kernel
theorem dX5_isGood_17 : decode cX5_isGood 17 = .ok (.ireturn, 1) := by decide +kernel
theorem dX5_allLands_0 : decode cX5_allLands 0 = .ok (.iconst 1, 1) := by decide +kernel
theorem dX5_allLands_1 : decode cX5_allLands 1 = .ok (.aload_n 0, 1) := by decide +kernel
theorem dX5_allLands_2 : decode cX5_allLands 2 = .ok (.getfield 9, 3) := by decide +kernel
theorem dX5_allLands_5 : decode cX5_allLands 5 = .ok (.ishl, 1) := by decide +kernel
theorem dX5_allLands_6 : decode cX5_allLands 6 = .ok (.iconst 1, 1) := by decide +kernel
theorem dX5_allLands_7 : decode cX5_allLands 7 = .ok (.isub, 1) := by decide +kernel
theorem dX5_allLands_8 : decode cX5_allLands 8 = .ok (.ireturn, 1) := by decide +kernel
theorem dX5_allHands_0 : decode cX5_allHands 0 = .ok (.iconst 0, 1) := by decide +kernel
theorem dX5_allHands_1 : decode cX5_allHands 1 = .ok (.istore_n 1, 1) := by decide +kernel
theorem dX5_allHands_2 : decode cX5_allHands 2 = .ok (.iconst 0, 1) := by decide +kernel
theorem dX5_allHands_3 : decode cX5_allHands 3 = .ok (.istore_n 2, 1) := by decide +kernel
theorem dX5_allHands_4 : decode cX5_allHands 4 = .ok (.iload_n 2, 1) := by decide +kernel
theorem dX5_allHands_5 : decode cX5_allHands 5 = .ok (.aload_n 0, 1) := by decide +kernel
theorem dX5_allHands_6 : decode cX5_allHands 6 = .ok (.getfield 9, 3) := by decide +kernel
theorem dX5_allHands_9 : decode cX5_allHands 9 = .ok (.if_icmp .ge 18, 3) := by decide +kernel
theorem dX5_allHands_12 : decode cX5_allHands 12 = .ok (.iload_n 1, 1) := by decide +kernel
theorem dX5_allHands_13 : decode cX5_allHands 13 = .ok (.aload_n 0, 1) := by decide +kernel
theorem dX5_allHands_14 : decode cX5_allHands 14 = .ok (.getfield 22, 3) := by decide +kernel
theorem dX5_allHands_17 : decode cX5_allHands 17 = .ok (.iload_n 2, 1) := by decide +kernel
theorem dX5_allHands_18 : decode cX5_allHands 18 = .ok (.iaload, 1) := by decide +kernel
theorem dX5_allHands_19 : decode cX5_allHands 19 = .ok (.iadd, 1) := by decide +kernel
theorem dX5_allHands_20 : decode cX5_allHands 20 = .ok (.istore_n 1, 1) := by decide +kernel
theorem dX5_allHands_21 : decode cX5_allHands 21 = .ok (.iinc 2 1, 3) := by decide +kernel
theorem dX5_allHands_24 : decode cX5_allHands 24 = .ok (.goto (-20), 3) := by decide +kernel
theorem dX5_allHands_27 : decode cX5_allHands 27 = .ok (.iload_n 1, 1) := by decide +kernel
theorem dX5_allHands_28 : decode cX5_allHands 28 = .ok (.ireturn, 1) := by decide +kernel
theorem dX5_allShares_0 : decode cX5_allShares 0 = .ok (.iconst 0, 1) := by decide +kernel
theorem dX5_allShares_1 : decode cX5_allShares 1 = .ok (.istore_n 1, 1) := by decide +kernel
theorem dX5_allShares_2 : decode cX5_allShares 2 = .ok (.iconst 0, 1) := by decide +kernel
theorem dX5_allShares_3 : decode cX5_allShares 3 = .ok (.istore_n 2, 1) := by decide +kernel
theorem dX5_allShares_4 : decode cX5_allShares 4 = .ok (.iload_n 2, 1) := by decide +kernel
theorem dX5_allShares_5 : decode cX5_allShares 5 = .ok (.aload_n 0, 1) := by decide +kernel
theorem dX5_allShares_6 : decode cX5_allShares 6 = .ok (.getfield 15, 3) := by decide +kernel
theorem dX5_allShares_9 : decode cX5_allShares 9 = .ok (.if_icmp .ge 18, 3) := by decide +kernel
theorem dX5_allShares_12 : decode cX5_allShares 12 = .ok (.iload_n 1, 1) := by decide +kernel
theorem dX5_allShares_13 : decode cX5_allShares 13 = .ok (.aload_n 0, 1) := by decide +kernel
theorem dX5_allShares_14 : decode cX5_allShares 14 = .ok (.getfield 18, 3) := by decide +kernel
theorem dX5_allShares_17 : decode cX5_allShares 17 = .ok (.iload_n 2, 1) := by decide +kernel
theorem dX5_allShares_18 : decode cX5_allShares 18 = .ok (.iaload, 1) := by decide +kernel
theorem dX5_allShares_19 : decode cX5_allShares 19 = .ok (.iadd, 1) := by decide +kernel
theorem dX5_allShares_20 : decode cX5_allShares 20 = .ok (.istore_n 1, 1) := by decide +kernel
theorem dX5_allShares_21 : decode cX5_allShares 21 = .ok (.iinc 2 1, 3) := by decide +kernel
theorem dX5_allShares_24 : decode cX5_allShares 24 = .ok (.goto (-20), 3) := by decide +kernel
theorem dX5_allShares_27 : decode cX5_allShares 27 = .ok (.iload_n 1, 1) := by decide +kernel
theorem dX5_allShares_28 : decode cX5_allShares 28 = .ok (.ireturn, 1) := by decide +kernel
theorem dX5_cost_0 : decode cX5_cost 0 = .ok (.aload_n 1, 1) := by decide +kernel
theorem dX5_cost_1 : decode cX5_cost 1 = .ok (.iload_n 2, 1) := by decide +kernel
theorem dX5_cost_2 : decode cX5_cost 2 = .ok (.laload, 1) := by decide +kernel
theorem dX5_cost_3 : decode cX5_cost 3 = .ok (.aload_n 0, 1) := by decide +kernel
theorem dX5_cost_4 : decode cX5_cost 4 = .ok (.getfield 27, 3) := by decide +kernel
theorem dX5_cost_7 : decode cX5_cost 7 = .ok (.iload_n 2, 1) := by decide +kernel
theorem dX5_cost_8 : decode cX5_cost 8 = .ok (.aaload, 1) := by decide +kernel
theorem dX5_cost_9 : decode cX5_cost 9 = .ok (.iload_n 3, 1) := by decide +kernel
theorem dX5_cost_10 : decode cX5_cost 10 = .ok (.iaload, 1) := by decide +kernel
theorem dX5_cost_11 : decode cX5_cost 11 = .ok (.i2l, 1) := by decide +kernel
theorem dX5_cost_12 : decode cX5_cost 12 = .ok (.lmul, 1) := by decide +kernel
theorem dX5_cost_13 : decode cX5_cost 13 = .ok (.lreturn, 1) := by decide +kernel
theorem dX5_leastCost_0 : decode cX5_leastCost 0 = .ok (.aload_n 0, 1) := by decide +kernel
theorem dX5_leastCost_1 : decode cX5_leastCost 1 = .ok (.aload_n 1, 1) := by decide +kernel
theorem dX5_leastCost_2 : decode cX5_leastCost 2 = .ok (.iconst 0, 1) := by decide +kernel
theorem dX5_leastCost_3 : decode cX5_leastCost 3 = .ok (.iload_n 2, 1) := by decide +kernel
theorem dX5_leastCost_4 : decode cX5_leastCost 4 = .ok (.invokevirtual 43, 3) := by decide +kernel
theorem dX5_leastCost_7 : decode cX5_leastCost 7 = .ok (.lstore_n 3, 1) := by decide +kernel
theorem dX5_leastCost_8 : decode cX5_leastCost 8 = .ok (.iconst 1, 1) := by decide +kernel
theorem dX5_leastCost_9 : decode cX5_leastCost 9 = .ok (.istore 5, 2) := by decide +kernel
theorem dX5_leastCost_11 : decode cX5_leastCost 11 = .ok (.iload 5, 2) := by decide +kernel
theorem dX5_leastCost_13 : decode cX5_leastCost 13 = .ok (.aload_n 0, 1) := by decide +kernel
theorem dX5_leastCost_14 : decode cX5_leastCost 14 = .ok (.getfield 9, 3) := by decide +kernel
theorem dX5_leastCost_17 : decode cX5_leastCost 17 = .ok (.if_icmp .ge 22, 3) := by decide +kernel
theorem dX5_leastCost_20 : decode cX5_leastCost 20 = .ok (.lload_n 3, 1) := by decide +kernel
theorem dX5_leastCost_21 : decode cX5_leastCost 21 = .ok (.aload_n 0, 1) := by decide +kernel
theorem dX5_leastCost_22 : decode cX5_leastCost 22 = .ok (.aload_n 1, 1) := by decide +kernel
theorem dX5_leastCost_23 : decode cX5_leastCost 23 = .ok (.iload 5, 2) := by decide +kernel
theorem dX5_leastCost_25 : decode cX5_leastCost 25 = .ok (.iload_n 2, 1) := by decide +kernel
theorem dX5_leastCost_26 : decode cX5_leastCost 26 = .ok (.invokevirtual 43, 3) := by decide +kernel
theorem dX5_leastCost_29 : decode cX5_leastCost 29 = .ok (.invokestatic 47, 3) := by decide +kernel
theorem dX5_leastCost_32 : decode cX5_leastCost 32 = .ok (.lstore_n 3, 1) := by decide +kernel
theorem dX5_leastCost_33 : decode cX5_leastCost 33 = .ok (.iinc 5 1, 3) := by decide +kernel
theorem dX5_leastCost_36 : decode cX5_leastCost 36 = .ok (.goto (-25), 3) := by decide +kernel
theorem dX5_leastCost_39 : decode cX5_leastCost 39 = .ok (.lload_n 3, 1) := by decide +kernel
theorem dX5_leastCost_40 : decode cX5_leastCost 40 = .ok (.lreturn, 1) := by decide +kernel
theorem dX5_makersBy_0 : decode cX5_makersBy 0 = .ok (.aload_n 0, 1) := by decide +kernel
theorem dX5_makersBy_1 : decode cX5_makersBy 1 = .ok (.aload_n 1, 1) := by decide +kernel
theorem dX5_makersBy_2 : decode cX5_makersBy 2 = .ok (.iconst 0, 1) := by decide +kernel
theorem dX5_makersBy_3 : decode cX5_makersBy 3 = .ok (.iload_n 2, 1) := by decide +kernel
theorem dX5_makersBy_4 : decode cX5_makersBy 4 = .ok (.invokevirtual 43, 3) := by decide +kernel
theorem dX5_makersBy_7 : decode cX5_makersBy 7 = .ok (.lstore_n 3, 1) := by decide +kernel
theorem dX5_makersBy_8 : decode cX5_makersBy 8 = .ok (.iconst 1, 1) := by decide +kernel
theorem dX5_makersBy_9 : decode cX5_makersBy 9 = .ok (.istore 5, 2) := by decide +kernel
theorem dX5_makersBy_11 : decode cX5_makersBy 11 = .ok (.iconst 1, 1) := by decide +kernel
theorem dX5_makersBy_12 : decode cX5_makersBy 12 = .ok (.istore 6, 2) := by decide +kernel
theorem dX5_makersBy_14 : decode cX5_makersBy 14 = .ok (.iload 6, 2) := by decide +kernel
theorem dX5_makersBy_16 : decode cX5_makersBy 16 = .ok (.aload_n 0, 1) := by decide +kernel
theorem dX5_makersBy_17 : decode cX5_makersBy 17 = .ok (.getfield 9, 3) := by decide +kernel
theorem dX5_makersBy_20 : decode cX5_makersBy 20 = .ok (.if_icmp .ge 48, 3) := by decide +kernel
theorem dX5_makersBy_23 : decode cX5_makersBy 23 = .ok (.aload_n 0, 1) := by decide +kernel
theorem dX5_makersBy_24 : decode cX5_makersBy 24 = .ok (.aload_n 1, 1) := by decide +kernel
theorem dX5_makersBy_25 : decode cX5_makersBy 25 = .ok (.iload 6, 2) := by decide +kernel
theorem dX5_makersBy_27 : decode cX5_makersBy 27 = .ok (.iload_n 2, 1) := by decide +kernel
theorem dX5_makersBy_28 : decode cX5_makersBy 28 = .ok (.invokevirtual 43, 3) := by decide +kernel
theorem dX5_makersBy_31 : decode cX5_makersBy 31 = .ok (.lstore 7, 2) := by decide +kernel
theorem dX5_makersBy_33 : decode cX5_makersBy 33 = .ok (.lload 7, 2) := by decide +kernel
theorem dX5_makersBy_35 : decode cX5_makersBy 35 = .ok (.lload_n 3, 1) := by decide +kernel
theorem dX5_makersBy_36 : decode cX5_makersBy 36 = .ok (.lcmp, 1) := by decide +kernel
theorem dX5_makersBy_37 : decode cX5_makersBy 37 = .ok (.ifCond .ge 9, 3) := by decide +kernel
theorem dX5_makersBy_40 : decode cX5_makersBy 40 = .ok (.lload 7, 2) := by decide +kernel
theorem dX5_makersBy_42 : decode cX5_makersBy 42 = .ok (.lstore_n 3, 1) := by decide +kernel
theorem dX5_makersBy_43 : decode cX5_makersBy 43 = .ok (.iconst 0, 1) := by decide +kernel
theorem dX5_makersBy_44 : decode cX5_makersBy 44 = .ok (.istore 5, 2) := by decide +kernel
theorem dX5_makersBy_46 : decode cX5_makersBy 46 = .ok (.lload 7, 2) := by decide +kernel
theorem dX5_makersBy_48 : decode cX5_makersBy 48 = .ok (.lload_n 3, 1) := by decide +kernel
theorem dX5_makersBy_49 : decode cX5_makersBy 49 = .ok (.lcmp, 1) := by decide +kernel
theorem dX5_makersBy_50 : decode cX5_makersBy 50 = .ok (.ifCond .ne 12, 3) := by decide +kernel
theorem dX5_makersBy_53 : decode cX5_makersBy 53 = .ok (.iload 5, 2) := by decide +kernel
theorem dX5_makersBy_55 : decode cX5_makersBy 55 = .ok (.iconst 1, 1) := by decide +kernel
theorem dX5_makersBy_56 : decode cX5_makersBy 56 = .ok (.iload 6, 2) := by decide +kernel
theorem dX5_makersBy_58 : decode cX5_makersBy 58 = .ok (.ishl, 1) := by decide +kernel
theorem dX5_makersBy_59 : decode cX5_makersBy 59 = .ok (.ior, 1) := by decide +kernel
theorem dX5_makersBy_60 : decode cX5_makersBy 60 = .ok (.istore 5, 2) := by decide +kernel
theorem dX5_makersBy_62 : decode cX5_makersBy 62 = .ok (.iinc 6 1, 3) := by decide +kernel
theorem dX5_makersBy_65 : decode cX5_makersBy 65 = .ok (.goto (-51), 3) := by decide +kernel
theorem dX5_makersBy_68 : decode cX5_makersBy 68 = .ok (.iload 5, 2) := by decide +kernel
theorem dX5_makersBy_70 : decode cX5_makersBy 70 = .ok (.ireturn, 1) := by decide +kernel
theorem dX5_firstMaker_0 : decode cX5_firstMaker 0 = .ok (.iconst 0, 1) := by decide +kernel
theorem dX5_firstMaker_1 : decode cX5_firstMaker 1 = .ok (.istore_n 2, 1) := by decide +kernel
theorem dX5_firstMaker_2 : decode cX5_firstMaker 2 = .ok (.iconst 1, 1) := by decide +kernel
theorem dX5_firstMaker_3 : decode cX5_firstMaker 3 = .ok (.istore_n 3, 1) := by decide +kernel
theorem dX5_firstMaker_4 : decode cX5_firstMaker 4 = .ok (.iload_n 3, 1) := by decide +kernel
theorem dX5_firstMaker_5 : decode cX5_firstMaker 5 = .ok (.aload_n 0, 1) := by decide +kernel
theorem dX5_firstMaker_6 : decode cX5_firstMaker 6 = .ok (.getfield 9, 3) := by decide +kernel
theorem dX5_firstMaker_9 : decode cX5_firstMaker 9 = .ok (.if_icmp .ge 35, 3) := by decide +kernel
theorem dX5_firstMaker_12 : decode cX5_firstMaker 12 = .ok (.aload_n 0, 1) := by decide +kernel
theorem dX5_firstMaker_13 : decode cX5_firstMaker 13 = .ok (.aload_n 0, 1) := by decide +kernel
theorem dX5_firstMaker_14 : decode cX5_firstMaker 14 = .ok (.getfield 30, 3) := by decide +kernel
theorem dX5_firstMaker_17 : decode cX5_firstMaker 17 = .ok (.iload_n 3, 1) := by decide +kernel
theorem dX5_firstMaker_18 : decode cX5_firstMaker 18 = .ok (.iload_n 1, 1) := by decide +kernel
theorem dX5_firstMaker_19 : decode cX5_firstMaker 19 = .ok (.invokevirtual 43, 3) := by decide +kernel
theorem dX5_firstMaker_22 : decode cX5_firstMaker 22 = .ok (.aload_n 0, 1) := by decide +kernel
theorem dX5_firstMaker_23 : decode cX5_firstMaker 23 = .ok (.aload_n 0, 1) := by decide +kernel
theorem dX5_firstMaker_24 : decode cX5_firstMaker 24 = .ok (.getfield 30, 3) := by decide +kernel
theorem dX5_firstMaker_27 : decode cX5_firstMaker 27 = .ok (.iload_n 2, 1) := by decide +kernel
theorem dX5_firstMaker_28 : decode cX5_firstMaker 28 = .ok (.iload_n 1, 1) := by decide +kernel
theorem dX5_firstMaker_29 : decode cX5_firstMaker 29 = .ok (.invokevirtual 43, 3) := by decide +kernel
theorem dX5_firstMaker_32 : decode cX5_firstMaker 32 = .ok (.lcmp, 1) := by decide +kernel
theorem dX5_firstMaker_33 : decode cX5_firstMaker 33 = .ok (.ifCond .ge 5, 3) := by decide +kernel
theorem dX5_firstMaker_36 : decode cX5_firstMaker 36 = .ok (.iload_n 3, 1) := by decide +kernel
theorem dX5_firstMaker_37 : decode cX5_firstMaker 37 = .ok (.istore_n 2, 1) := by decide +kernel
theorem dX5_firstMaker_38 : decode cX5_firstMaker 38 = .ok (.iinc 3 1, 3) := by decide +kernel
theorem dX5_firstMaker_41 : decode cX5_firstMaker 41 = .ok (.goto (-37), 3) := by decide +kernel
theorem dX5_firstMaker_44 : decode cX5_firstMaker 44 = .ok (.iload_n 2, 1) := by decide +kernel
theorem dX5_firstMaker_45 : decode cX5_firstMaker 45 = .ok (.ireturn, 1) := by decide +kernel
theorem dX5_idleBy_0 : decode cX5_idleBy 0 = .ok (.iconst 0, 1) := by decide +kernel
theorem dX5_idleBy_1 : decode cX5_idleBy 1 = .ok (.istore_n 2, 1) := by decide +kernel
theorem dX5_idleBy_2 : decode cX5_idleBy 2 = .ok (.iload_n 2, 1) := by decide +kernel
theorem dX5_idleBy_3 : decode cX5_idleBy 3 = .ok (.aload_n 0, 1) := by decide +kernel
theorem dX5_idleBy_4 : decode cX5_idleBy 4 = .ok (.getfield 15, 3) := by decide +kernel
theorem dX5_idleBy_7 : decode cX5_idleBy 7 = .ok (.if_icmp .ge 21, 3) := by decide +kernel
theorem dX5_idleBy_10 : decode cX5_idleBy 10 = .ok (.aload_n 0, 1) := by decide +kernel
theorem dX5_idleBy_11 : decode cX5_idleBy 11 = .ok (.getfield 34, 3) := by decide +kernel
theorem dX5_idleBy_14 : decode cX5_idleBy 14 = .ok (.iload_n 2, 1) := by decide +kernel
theorem dX5_idleBy_15 : decode cX5_idleBy 15 = .ok (.aload_n 0, 1) := by decide +kernel
theorem dX5_idleBy_16 : decode cX5_idleBy 16 = .ok (.aload_n 1, 1) := by decide +kernel
theorem dX5_idleBy_17 : decode cX5_idleBy 17 = .ok (.iload_n 2, 1) := by decide +kernel
theorem dX5_idleBy_18 : decode cX5_idleBy 18 = .ok (.invokevirtual 53, 3) := by decide +kernel
theorem dX5_idleBy_21 : decode cX5_idleBy 21 = .ok (.iastore, 1) := by decide +kernel
theorem dX5_idleBy_22 : decode cX5_idleBy 22 = .ok (.iinc 2 1, 3) := by decide +kernel
theorem dX5_idleBy_25 : decode cX5_idleBy 25 = .ok (.goto (-23), 3) := by decide +kernel
theorem dX5_idleBy_28 : decode cX5_idleBy 28 = .ok (.aload_n 0, 1) := by decide +kernel
theorem dX5_idleBy_29 : decode cX5_idleBy 29 = .ok (.invokevirtual 57, 3) := by decide +kernel
theorem dX5_idleBy_32 : decode cX5_idleBy 32 = .ok (.i2l, 1) := by decide +kernel
theorem dX5_idleBy_33 : decode cX5_idleBy 33 = .ok (.lstore_n 2, 1) := by decide +kernel
theorem dX5_idleBy_34 : decode cX5_idleBy 34 = .ok (.aload_n 0, 1) := by decide +kernel
theorem dX5_idleBy_35 : decode cX5_idleBy 35 = .ok (.aload_n 1, 1) := by decide +kernel
theorem dX5_idleBy_36 : decode cX5_idleBy 36 = .ok (.aload_n 0, 1) := by decide +kernel
theorem dX5_idleBy_37 : decode cX5_idleBy 37 = .ok (.invokevirtual 61, 3) := by decide +kernel
theorem dX5_idleBy_40 : decode cX5_idleBy 40 = .ok (.invokevirtual 64, 3) := by decide +kernel
theorem dX5_idleBy_43 : decode cX5_idleBy 43 = .ok (.lstore 4, 2) := by decide +kernel
theorem dX5_idleBy_45 : decode cX5_idleBy 45 = .ok (.iconst 1, 1) := by decide +kernel
theorem dX5_idleBy_46 : decode cX5_idleBy 46 = .ok (.istore 6, 2) := by decide +kernel
theorem dX5_idleBy_48 : decode cX5_idleBy 48 = .ok (.iload 6, 2) := by decide +kernel
theorem dX5_idleBy_50 : decode cX5_idleBy 50 = .ok (.aload_n 0, 1) := by decide +kernel
theorem dX5_idleBy_51 : decode cX5_idleBy 51 = .ok (.invokevirtual 61, 3) := by decide +kernel
theorem dX5_idleBy_54 : decode cX5_idleBy 54 = .ok (.if_icmp .gt 34, 3) := by decide +kernel
theorem dX5_idleBy_57 : decode cX5_idleBy 57 = .ok (.aload_n 0, 1) := by decide +kernel
theorem dX5_idleBy_58 : decode cX5_idleBy 58 = .ok (.aload_n 1, 1) := by decide +kernel
theorem dX5_idleBy_59 : decode cX5_idleBy 59 = .ok (.iload 6, 2) := by decide +kernel
theorem dX5_idleBy_61 : decode cX5_idleBy 61 = .ok (.invokevirtual 64, 3) := by decide +kernel
theorem dX5_idleBy_64 : decode cX5_idleBy 64 = .ok (.lload_n 2, 1) := by decide +kernel
theorem dX5_idleBy_65 : decode cX5_idleBy 65 = .ok (.lmul, 1) := by decide +kernel
theorem dX5_idleBy_66 : decode cX5_idleBy 66 = .ok (.lload 4, 2) := by decide +kernel
theorem dX5_idleBy_68 : decode cX5_idleBy 68 = .ok (.aload_n 0, 1) := by decide +kernel
theorem dX5_idleBy_69 : decode cX5_idleBy 69 = .ok (.iload 6, 2) := by decide +kernel
theorem dX5_idleBy_71 : decode cX5_idleBy 71 = .ok (.invokevirtual 68, 3) := by decide +kernel
theorem dX5_idleBy_74 : decode cX5_idleBy 74 = .ok (.lmul, 1) := by decide +kernel
theorem dX5_idleBy_75 : decode cX5_idleBy 75 = .ok (.lcmp, 1) := by decide +kernel
theorem dX5_idleBy_76 : decode cX5_idleBy 76 = .ok (.ifCond .le 6, 3) := by decide +kernel
theorem dX5_idleBy_79 : decode cX5_idleBy 79 = .ok (.iload 6, 2) := by decide +kernel
theorem dX5_idleBy_81 : decode cX5_idleBy 81 = .ok (.ireturn, 1) := by decide +kernel
theorem dX5_idleBy_82 : decode cX5_idleBy 82 = .ok (.iinc 6 1, 3) := by decide +kernel
theorem dX5_idleBy_85 : decode cX5_idleBy 85 = .ok (.goto (-37), 3) := by decide +kernel
theorem dX5_idleBy_88 : decode cX5_idleBy 88 = .ok (.iconst 0, 1) := by decide +kernel
theorem dX5_idleBy_89 : decode cX5_idleBy 89 = .ok (.ireturn, 1) := by decide +kernel
theorem dX5_incomeOf_0 : decode cX5_incomeOf 0 = .ok (.lconst 0, 1) := by decide +kernel
theorem dX5_incomeOf_1 : decode cX5_incomeOf 1 = .ok (.lstore_n 3, 1) := by decide +kernel
theorem dX5_incomeOf_2 : decode cX5_incomeOf 2 = .ok (.iconst 0, 1) := by decide +kernel
theorem dX5_incomeOf_3 : decode cX5_incomeOf 3 = .ok (.istore 5, 2) := by decide +kernel
theorem dX5_incomeOf_5 : decode cX5_incomeOf 5 = .ok (.iload 5, 2) := by decide +kernel
theorem dX5_incomeOf_7 : decode cX5_incomeOf 7 = .ok (.aload_n 0, 1) := by decide +kernel
theorem dX5_incomeOf_8 : decode cX5_incomeOf 8 = .ok (.getfield 9, 3) := by decide +kernel
theorem dX5_incomeOf_11 : decode cX5_incomeOf 11 = .ok (.if_icmp .ge 34, 3) := by decide +kernel
theorem dX5_incomeOf_14 : decode cX5_incomeOf 14 = .ok (.iload_n 2, 1) := by decide +kernel
theorem dX5_incomeOf_15 : decode cX5_incomeOf 15 = .ok (.iload 5, 2) := by decide +kernel
theorem dX5_incomeOf_17 : decode cX5_incomeOf 17 = .ok (.ishr, 1) := by decide +kernel
theorem dX5_incomeOf_18 : decode cX5_incomeOf 18 = .ok (.iconst 1, 1) := by decide +kernel
theorem dX5_incomeOf_19 : decode cX5_incomeOf 19 = .ok (.iand, 1) := by decide +kernel
theorem dX5_incomeOf_20 : decode cX5_incomeOf 20 = .ok (.ifCond .eq 19, 3) := by decide +kernel
theorem dX5_incomeOf_23 : decode cX5_incomeOf 23 = .ok (.lload_n 3, 1) := by decide +kernel
theorem dX5_incomeOf_24 : decode cX5_incomeOf 24 = .ok (.aload_n 0, 1) := by decide +kernel
theorem dX5_incomeOf_25 : decode cX5_incomeOf 25 = .ok (.getfield 22, 3) := by decide +kernel
theorem dX5_incomeOf_28 : decode cX5_incomeOf 28 = .ok (.iload 5, 2) := by decide +kernel
theorem dX5_incomeOf_30 : decode cX5_incomeOf 30 = .ok (.iaload, 1) := by decide +kernel
theorem dX5_incomeOf_31 : decode cX5_incomeOf 31 = .ok (.i2l, 1) := by decide +kernel
theorem dX5_incomeOf_32 : decode cX5_incomeOf 32 = .ok (.aload_n 1, 1) := by decide +kernel
theorem dX5_incomeOf_33 : decode cX5_incomeOf 33 = .ok (.iload 5, 2) := by decide +kernel
theorem dX5_incomeOf_35 : decode cX5_incomeOf 35 = .ok (.laload, 1) := by decide +kernel
theorem dX5_incomeOf_36 : decode cX5_incomeOf 36 = .ok (.lmul, 1) := by decide +kernel
theorem dX5_incomeOf_37 : decode cX5_incomeOf 37 = .ok (.ladd, 1) := by decide +kernel
theorem dX5_incomeOf_38 : decode cX5_incomeOf 38 = .ok (.lstore_n 3, 1) := by decide +kernel
theorem dX5_incomeOf_39 : decode cX5_incomeOf 39 = .ok (.iinc 5 1, 3) := by decide +kernel
theorem dX5_incomeOf_42 : decode cX5_incomeOf 42 = .ok (.goto (-37), 3) := by decide +kernel
theorem dX5_incomeOf_45 : decode cX5_incomeOf 45 = .ok (.lload_n 3, 1) := by decide +kernel
theorem dX5_incomeOf_46 : decode cX5_incomeOf 46 = .ok (.lreturn, 1) := by decide +kernel
theorem dX5_sharesFor_0 : decode cX5_sharesFor 0 = .ok (.lconst 0, 1) := by decide +kernel
theorem dX5_sharesFor_1 : decode cX5_sharesFor 1 = .ok (.lstore_n 2, 1) := by decide +kernel
theorem dX5_sharesFor_2 : decode cX5_sharesFor 2 = .ok (.iconst 0, 1) := by decide +kernel
theorem dX5_sharesFor_3 : decode cX5_sharesFor 3 = .ok (.istore 4, 2) := by decide +kernel
theorem dX5_sharesFor_5 : decode cX5_sharesFor 5 = .ok (.iload 4, 2) := by decide +kernel
theorem dX5_sharesFor_7 : decode cX5_sharesFor 7 = .ok (.aload_n 0, 1) := by decide +kernel
theorem dX5_sharesFor_8 : decode cX5_sharesFor 8 = .ok (.getfield 15, 3) := by decide +kernel
theorem dX5_sharesFor_11 : decode cX5_sharesFor 11 = .ok (.if_icmp .ge 32, 3) := by decide +kernel
theorem dX5_sharesFor_14 : decode cX5_sharesFor 14 = .ok (.aload_n 0, 1) := by decide +kernel
theorem dX5_sharesFor_15 : decode cX5_sharesFor 15 = .ok (.getfield 34, 3) := by decide +kernel
theorem dX5_sharesFor_18 : decode cX5_sharesFor 18 = .ok (.iload 4, 2) := by decide +kernel
theorem dX5_sharesFor_20 : decode cX5_sharesFor 20 = .ok (.iaload, 1) := by decide +kernel
theorem dX5_sharesFor_21 : decode cX5_sharesFor 21 = .ok (.iload_n 1, 1) := by decide +kernel
theorem dX5_sharesFor_22 : decode cX5_sharesFor 22 = .ok (.iand, 1) := by decide +kernel
theorem dX5_sharesFor_23 : decode cX5_sharesFor 23 = .ok (.ifCond .eq 14, 3) := by decide +kernel
theorem dX5_sharesFor_26 : decode cX5_sharesFor 26 = .ok (.lload_n 2, 1) := by decide +kernel
theorem dX5_sharesFor_27 : decode cX5_sharesFor 27 = .ok (.aload_n 0, 1) := by decide +kernel
theorem dX5_sharesFor_28 : decode cX5_sharesFor 28 = .ok (.getfield 18, 3) := by decide +kernel
theorem dX5_sharesFor_31 : decode cX5_sharesFor 31 = .ok (.iload 4, 2) := by decide +kernel
theorem dX5_sharesFor_33 : decode cX5_sharesFor 33 = .ok (.iaload, 1) := by decide +kernel
theorem dX5_sharesFor_34 : decode cX5_sharesFor 34 = .ok (.i2l, 1) := by decide +kernel
theorem dX5_sharesFor_35 : decode cX5_sharesFor 35 = .ok (.ladd, 1) := by decide +kernel
theorem dX5_sharesFor_36 : decode cX5_sharesFor 36 = .ok (.lstore_n 2, 1) := by decide +kernel
theorem dX5_sharesFor_37 : decode cX5_sharesFor 37 = .ok (.iinc 4 1, 3) := by decide +kernel
theorem dX5_sharesFor_40 : decode cX5_sharesFor 40 = .ok (.goto (-35), 3) := by decide +kernel
theorem dX5_sharesFor_43 : decode cX5_sharesFor 43 = .ok (.lload_n 2, 1) := by decide +kernel
theorem dX5_sharesFor_44 : decode cX5_sharesFor 44 = .ok (.lreturn, 1) := by decide +kernel
end
section
theorem dX6_init_0 : decode cX6_init 0 = .ok (.aload_n 0, 1) := by decide +kernel
theorem dX6_init_1 : decode cX6_init 1 = .ok (.invokespecial 3, 3) := by decide +kernel
theorem dX6_init_4 : decode cX6_init 4 = .ok (.aload_n 0, 1) := by decide +kernel
theorem dX6_init_5 : decode cX6_init 5 = .ok (.new 9, 3) := by decide +kernel
theorem dX6_init_8 : decode cX6_init 8 = .ok (.dup, 1) := by decide +kernel
theorem dX6_init_9 : decode cX6_init 9 = .ok (.invokespecial 11, 3) := by decide +kernel
theorem dX6_init_12 : decode cX6_init 12 = .ok (.putfield 12, 3) := by decide +kernel
theorem dX6_init_15 : decode cX6_init 15 = .ok (.aload_n 0, 1) := by decide +kernel
theorem dX6_init_16 : decode cX6_init 16 = .ok (.new 16, 3) := by decide +kernel
theorem dX6_init_19 : decode cX6_init 19 = .ok (.dup, 1) := by decide +kernel
theorem dX6_init_20 : decode cX6_init 20 = .ok (.invokespecial 18, 3) := by decide +kernel
theorem dX6_init_23 : decode cX6_init 23 = .ok (.putfield 19, 3) := by decide +kernel
theorem dX6_init_26 : decode cX6_init 26 = .ok (.aload_n 0, 1) := by decide +kernel
theorem dX6_init_27 : decode cX6_init 27 = .ok (.new 23, 3) := by decide +kernel
theorem dX6_init_30 : decode cX6_init 30 = .ok (.dup, 1) := by decide +kernel
theorem dX6_init_31 : decode cX6_init 31 = .ok (.invokespecial 25, 3) := by decide +kernel
theorem dX6_init_34 : decode cX6_init 34 = .ok (.putfield 26, 3) := by decide +kernel
theorem dX6_init_37 : decode cX6_init 37 = .ok (.aload_n 0, 1) := by decide +kernel
theorem dX6_init_38 : decode cX6_init 38 = .ok (.new 30, 3) := by decide +kernel
theorem dX6_init_41 : decode cX6_init 41 = .ok (.dup, 1) := by decide +kernel
theorem dX6_init_42 : decode cX6_init 42 = .ok (.invokespecial 32, 3) := by decide +kernel
theorem dX6_init_45 : decode cX6_init 45 = .ok (.putfield 33, 3) := by decide +kernel
theorem dX6_init_48 : decode cX6_init 48 = .ok (.aload_n 0, 1) := by decide +kernel
theorem dX6_init_49 : decode cX6_init 49 = .ok (.new 37, 3) := by decide +kernel
theorem dX6_init_52 : decode cX6_init 52 = .ok (.dup, 1) := by decide +kernel
theorem dX6_init_53 : decode cX6_init 53 = .ok (.invokespecial 39, 3) := by decide +kernel
theorem dX6_init_56 : decode cX6_init 56 = .ok (.putfield 40, 3) := by decide +kernel
theorem dX6_init_59 : decode cX6_init 59 = .ok (.aload_n 0, 1) := by decide +kernel
theorem dX6_init_60 : decode cX6_init 60 = .ok (.new 44, 3) := by decide +kernel
theorem dX6_init_63 : decode cX6_init 63 = .ok (.dup, 1) := by decide +kernel
theorem dX6_init_64 : decode cX6_init 64 = .ok (.invokespecial 46, 3) := by decide +kernel
theorem dX6_init_67 : decode cX6_init 67 = .ok (.putfield 47, 3) := by decide +kernel
theorem dX6_init_70 : decode cX6_init 70 = .ok (.aload_n 0, 1) := by decide +kernel
theorem dX6_init_71 : decode cX6_init 71 = .ok (.new 44, 3) := by decide +kernel
theorem dX6_init_74 : decode cX6_init 74 = .ok (.dup, 1) := by decide +kernel
theorem dX6_init_75 : decode cX6_init 75 = .ok (.invokespecial 46, 3) := by decide +kernel
theorem dX6_init_78 : decode cX6_init 78 = .ok (.putfield 51, 3) := by decide +kernel
theorem dX6_init_81 : decode cX6_init 81 = .ok (.aload_n 0, 1) := by decide +kernel
theorem dX6_init_82 : decode cX6_init 82 = .ok (.new 44, 3) := by decide +kernel
theorem dX6_init_85 : decode cX6_init 85 = .ok (.dup, 1) := by decide +kernel
theorem dX6_init_86 : decode cX6_init 86 = .ok (.invokespecial 46, 3) := by decide +kernel
theorem dX6_init_89 : decode cX6_init 89 = .ok (.putfield 54, 3) := by decide +kernel
theorem dX6_init_92 : decode cX6_init 92 = .ok (.aload_n 0, 1) := by decide +kernel
theorem dX6_init_93 : decode cX6_init 93 = .ok (.iconst 3, 1) := by decide +kernel
theorem dX6_init_94 : decode cX6_init 94 = .ok (.newarray .long, 2) := by decide +kernel
theorem dX6_init_96 : decode cX6_init 96 = .ok (.putfield 57, 3) := by decide +kernel
theorem dX6_init_99 : decode cX6_init 99 = .ok (.aload_n 0, 1) := by decide +kernel
theorem dX6_init_100 : decode cX6_init 100 = .ok (.bipush 6, 2) := by decide +kernel
theorem dX6_init_102 : decode cX6_init 102 = .ok (.newarray .int, 2) := by decide +kernel
theorem dX6_init_104 : decode cX6_init 104 = .ok (.putfield 61, 3) := by decide +kernel
theorem dX6_init_107 : decode cX6_init 107 = .ok (.aload_n 0, 1) := by decide +kernel
theorem dX6_init_108 : decode cX6_init 108 = .ok (.iconst 0, 1) := by decide +kernel
theorem dX6_init_109 : decode cX6_init 109 = .ok (.putfield 65, 3) := by decide +kernel
theorem dX6_init_112 : decode cX6_init 112 = .ok (.aload_n 0, 1) := by decide +kernel
theorem dX6_init_113 : decode cX6_init 113 = .ok (.iconst 0, 1) := by decide +kernel
theorem dX6_init_114 : decode cX6_init 114 = .ok (.putfield 69, 3) := by decide +kernel
theorem dX6_init_117 : decode cX6_init 117 = .ok (.return_, 1) := by decide +kernel
theorem dX6_row_0 : decode cX6_row 0 = .ok (.iload_n 1, 1) := by decide +kernel
theorem dX6_row_1 : decode cX6_row 1 = .ok (.invokestatic 73, 3) := by decide +kernel
theorem dX6_row_4 : decode cX6_row 4 = .ok (.ifCond .eq 16, 3) := by decide +kernel
theorem dX6_row_7 : decode cX6_row 7 = .ok (.iload_n 2, 1) := by decide +kernel
theorem dX6_row_8 : decode cX6_row 8 = .ok (.invokestatic 77, 3) := by decide +kernel
theorem dX6_row_11 : decode cX6_row 11 = .ok (.ifCond .eq 9, 3) := by decide +kernel
theorem dX6_row_14 : decode cX6_row 14 = .ok (.iload_n 3, 1) := by decide +kernel
theorem dX6_row_15 : decode cX6_row 15 = .ok (.bipush 40, 2) := by decide +kernel
theorem dX6_row_17 : decode cX6_row 17 = .ok (.if_icmp .le 7, 3) := by decide +kernel
theorem dX6_row_20 : decode cX6_row 20 = .ok (.ldc2_w 80, 3) := by decide +kernel
theorem dX6_row_23 : decode cX6_row 23 = .ok (.lreturn, 1) := by decide +kernel
theorem dX6_row_24 : decode cX6_row 24 = .ok (.iload_n 3, 1) := by decide +kernel
theorem dX6_row_25 : decode cX6_row 25 = .ok (.ifCond .ge 9, 3) := by decide +kernel
theorem dX6_row_28 : decode cX6_row 28 = .ok (.aload_n 0, 1) := by decide +kernel
theorem dX6_row_29 : decode cX6_row 29 = .ok (.iconst 4, 1) := by decide +kernel
theorem dX6_row_30 : decode cX6_row 30 = .ok (.invokevirtual 82, 3) := by decide +kernel
theorem dX6_row_33 : decode cX6_row 33 = .ok (.lreturn, 1) := by decide +kernel
theorem dX6_row_34 : decode cX6_row 34 = .ok (.aload_n 0, 1) := by decide +kernel
theorem dX6_row_35 : decode cX6_row 35 = .ok (.getfield 12, 3) := by decide +kernel
theorem dX6_row_38 : decode cX6_row 38 = .ok (.iload_n 1, 1) := by decide +kernel
theorem dX6_row_39 : decode cX6_row 39 = .ok (.iload_n 2, 1) := by decide +kernel
theorem dX6_row_40 : decode cX6_row 40 = .ok (.iload_n 3, 1) := by decide +kernel
theorem dX6_row_41 : decode cX6_row 41 = .ok (.invokevirtual 86, 3) := by decide +kernel
theorem dX6_row_44 : decode cX6_row 44 = .ok (.aload_n 0, 1) := by decide +kernel
theorem dX6_row_45 : decode cX6_row 45 = .ok (.iload_n 3, 1) := by decide +kernel
theorem dX6_row_46 : decode cX6_row 46 = .ok (.i2l, 1) := by decide +kernel
theorem dX6_row_47 : decode cX6_row 47 = .ok (.invokevirtual 90, 3) := by decide +kernel
theorem dX6_row_50 : decode cX6_row 50 = .ok (.lreturn, 1) := by decide +kernel
theorem dX6_set_0 : decode cX6_set 0 = .ok (.iload_n 1, 1) := by decide +kernel
theorem dX6_set_1 : decode cX6_set 1 = .ok (.invokestatic 73, 3) := by decide +kernel
theorem dX6_set_4 : decode cX6_set 4 = .ok (.ifCond .ne 7, 3) := by decide +kernel
theorem dX6_set_7 : decode cX6_set 7 = .ok (.ldc2_w 80, 3) := by decide +kernel
theorem dX6_set_10 : decode cX6_set 10 = .ok (.lreturn, 1) := by decide +kernel
theorem dX6_set_11 : decode cX6_set 11 = .ok (.aload_n 0, 1) := by decide +kernel
theorem dX6_set_12 : decode cX6_set 12 = .ok (.getfield 12, 3) := by decide +kernel
theorem dX6_set_15 : decode cX6_set 15 = .ok (.iload_n 1, 1) := by decide +kernel
theorem dX6_set_16 : decode cX6_set 16 = .ok (.invokevirtual 94, 3) := by decide +kernel
theorem dX6_set_19 : decode cX6_set 19 = .ok (.ifCond .eq 9, 3) := by decide +kernel
theorem dX6_set_22 : decode cX6_set 22 = .ok (.aload_n 0, 1) := by decide +kernel
theorem dX6_set_23 : decode cX6_set 23 = .ok (.iconst 1, 1) := by decide +kernel
theorem dX6_set_24 : decode cX6_set 24 = .ok (.invokevirtual 82, 3) := by decide +kernel
theorem dX6_set_27 : decode cX6_set 27 = .ok (.lreturn, 1) := by decide +kernel
theorem dX6_set_28 : decode cX6_set 28 = .ok (.aload_n 0, 1) := by decide +kernel
theorem dX6_set_29 : decode cX6_set 29 = .ok (.getfield 12, 3) := by decide +kernel
theorem dX6_set_32 : decode cX6_set 32 = .ok (.iload_n 1, 1) := by decide +kernel
theorem dX6_set_33 : decode cX6_set 33 = .ok (.iload_n 2, 1) := by decide +kernel
theorem dX6_set_34 : decode cX6_set 34 = .ok (.iconst 1, 1) := by decide +kernel
theorem dX6_set_35 : decode cX6_set 35 = .ok (.invokevirtual 97, 3) := by decide +kernel
theorem dX6_set_38 : decode cX6_set 38 = .ok (.ifCond .ne 9, 3) := by decide +kernel
theorem dX6_set_41 : decode cX6_set 41 = .ok (.aload_n 0, 1) := by decide +kernel
theorem dX6_set_42 : decode cX6_set 42 = .ok (.iconst 2, 1) := by decide +kernel
theorem dX6_set_43 : decode cX6_set 43 = .ok (.invokevirtual 82, 3) := by decide +kernel
theorem dX6_set_46 : decode cX6_set 46 = .ok (.lreturn, 1) := by decide +kernel
theorem dX6_set_47 : decode cX6_set 47 = .ok (.aload_n 0, 1) := by decide +kernel
theorem dX6_set_48 : decode cX6_set 48 = .ok (.aload_n 0, 1) := by decide +kernel
theorem dX6_set_49 : decode cX6_set 49 = .ok (.getfield 12, 3) := by decide +kernel
theorem dX6_set_52 : decode cX6_set 52 = .ok (.iload_n 1, 1) := by decide +kernel
theorem dX6_set_53 : decode cX6_set 53 = .ok (.iload_n 2, 1) := by decide +kernel
theorem dX6_set_54 : decode cX6_set 54 = .ok (.iload_n 3, 1) := by decide +kernel
theorem dX6_set_55 : decode cX6_set 55 = .ok (.invokevirtual 101, 3) := by decide +kernel
theorem dX6_set_58 : decode cX6_set 58 = .ok (.i2l, 1) := by decide +kernel
theorem dX6_set_59 : decode cX6_set 59 = .ok (.invokevirtual 90, 3) := by decide +kernel
theorem dX6_set_62 : decode cX6_set 62 = .ok (.lreturn, 1) := by decide +kernel
theorem dX6_copy_0 : decode cX6_copy 0 = .ok (.iload_n 1, 1) := by decide +kernel
theorem dX6_copy_1 : decode cX6_copy 1 = .ok (.invokestatic 73, 3) := by decide +kernel
theorem dX6_copy_4 : decode cX6_copy 4 = .ok (.ifCond .eq 10, 3) := by decide +kernel
theorem dX6_copy_7 : decode cX6_copy 7 = .ok (.iload_n 3, 1) := by decide +kernel
theorem dX6_copy_8 : decode cX6_copy 8 = .ok (.invokestatic 73, 3) := by decide +kernel
theorem dX6_copy_11 : decode cX6_copy 11 = .ok (.ifCond .ne 7, 3) := by decide +kernel
theorem dX6_copy_14 : decode cX6_copy 14 = .ok (.ldc2_w 80, 3) := by decide +kernel
theorem dX6_copy_17 : decode cX6_copy 17 = .ok (.lreturn, 1) := by decide +kernel
theorem dX6_copy_18 : decode cX6_copy 18 = .ok (.aload_n 0, 1) := by decide +kernel
theorem dX6_copy_19 : decode cX6_copy 19 = .ok (.getfield 12, 3) := by decide +kernel
theorem dX6_copy_22 : decode cX6_copy 22 = .ok (.iload_n 1, 1) := by decide +kernel
theorem dX6_copy_23 : decode cX6_copy 23 = .ok (.invokevirtual 94, 3) := by decide +kernel
theorem dX6_copy_26 : decode cX6_copy 26 = .ok (.ifCond .ne 14, 3) := by decide +kernel
theorem dX6_copy_29 : decode cX6_copy 29 = .ok (.aload_n 0, 1) := by decide +kernel
theorem dX6_copy_30 : decode cX6_copy 30 = .ok (.getfield 12, 3) := by decide +kernel
theorem dX6_copy_33 : decode cX6_copy 33 = .ok (.iload_n 3, 1) := by decide +kernel
theorem dX6_copy_34 : decode cX6_copy 34 = .ok (.invokevirtual 94, 3) := by decide +kernel
theorem dX6_copy_37 : decode cX6_copy 37 = .ok (.ifCond .eq 9, 3) := by decide +kernel
theorem dX6_copy_40 : decode cX6_copy 40 = .ok (.aload_n 0, 1) := by decide +kernel
theorem dX6_copy_41 : decode cX6_copy 41 = .ok (.iconst 1, 1) := by decide +kernel
theorem dX6_copy_42 : decode cX6_copy 42 = .ok (.invokevirtual 82, 3) := by decide +kernel
theorem dX6_copy_45 : decode cX6_copy 45 = .ok (.lreturn, 1) := by decide +kernel
theorem dX6_copy_46 : decode cX6_copy 46 = .ok (.aload_n 0, 1) := by decide +kernel
theorem dX6_copy_47 : decode cX6_copy 47 = .ok (.getfield 12, 3) := by decide +kernel
theorem dX6_copy_50 : decode cX6_copy 50 = .ok (.iload_n 1, 1) := by decide +kernel
theorem dX6_copy_51 : decode cX6_copy 51 = .ok (.iload_n 3, 1) := by decide +kernel
theorem dX6_copy_52 : decode cX6_copy 52 = .ok (.invokevirtual 105, 3) := by decide +kernel
theorem dX6_copy_55 : decode cX6_copy 55 = .ok (.ifCond .ne 9, 3) := by decide +kernel
theorem dX6_copy_58 : decode cX6_copy 58 = .ok (.aload_n 0, 1) := by decide +kernel
theorem dX6_copy_59 : decode cX6_copy 59 = .ok (.iconst 5, 1) := by decide +kernel
theorem dX6_copy_60 : decode cX6_copy 60 = .ok (.invokevirtual 82, 3) := by decide +kernel
theorem dX6_copy_63 : decode cX6_copy 63 = .ok (.lreturn, 1) := by decide +kernel
theorem dX6_copy_64 : decode cX6_copy 64 = .ok (.aload_n 0, 1) := by decide +kernel
theorem dX6_copy_65 : decode cX6_copy 65 = .ok (.getfield 12, 3) := by decide +kernel
theorem dX6_copy_68 : decode cX6_copy 68 = .ok (.iload_n 1, 1) := by decide +kernel
theorem dX6_copy_69 : decode cX6_copy 69 = .ok (.iload_n 2, 1) := by decide +kernel
theorem dX6_copy_70 : decode cX6_copy 70 = .ok (.iload 5, 2) := by decide +kernel
theorem dX6_copy_72 : decode cX6_copy 72 = .ok (.invokevirtual 97, 3) := by decide +kernel
theorem dX6_copy_75 : decode cX6_copy 75 = .ok (.ifCond .eq 18, 3) := by decide +kernel
theorem dX6_copy_78 : decode cX6_copy 78 = .ok (.aload_n 0, 1) := by decide +kernel
theorem dX6_copy_79 : decode cX6_copy 79 = .ok (.getfield 12, 3) := by decide +kernel
theorem dX6_copy_82 : decode cX6_copy 82 = .ok (.iload_n 3, 1) := by decide +kernel
theorem dX6_copy_83 : decode cX6_copy 83 = .ok (.iload 4, 2) := by decide +kernel
theorem dX6_copy_85 : decode cX6_copy 85 = .ok (.iload 5, 2) := by decide +kernel
theorem dX6_copy_87 : decode cX6_copy 87 = .ok (.invokevirtual 97, 3) := by decide +kernel
theorem dX6_copy_90 : decode cX6_copy 90 = .ok (.ifCond .ne 9, 3) := by decide +kernel
theorem dX6_copy_93 : decode cX6_copy 93 = .ok (.aload_n 0, 1) := by decide +kernel
theorem dX6_copy_94 : decode cX6_copy 94 = .ok (.iconst 2, 1) := by decide +kernel
theorem dX6_copy_95 : decode cX6_copy 95 = .ok (.invokevirtual 82, 3) := by decide +kernel
theorem dX6_copy_98 : decode cX6_copy 98 = .ok (.lreturn, 1) := by decide +kernel
theorem dX6_copy_99 : decode cX6_copy 99 = .ok (.aload_n 0, 1) := by decide +kernel
theorem dX6_copy_100 : decode cX6_copy 100 = .ok (.getfield 12, 3) := by decide +kernel
theorem dX6_copy_103 : decode cX6_copy 103 = .ok (.iload_n 1, 1) := by decide +kernel
theorem dX6_copy_104 : decode cX6_copy 104 = .ok (.iload_n 2, 1) := by decide +kernel
theorem dX6_copy_105 : decode cX6_copy 105 = .ok (.iload_n 3, 1) := by decide +kernel
theorem dX6_copy_106 : decode cX6_copy 106 = .ok (.iload 4, 2) := by decide +kernel
theorem dX6_copy_108 : decode cX6_copy 108 = .ok (.iload 5, 2) := by decide +kernel
theorem dX6_copy_110 : decode cX6_copy 110 = .ok (.invokevirtual 109, 3) := by decide +kernel
theorem dX6_copy_113 : decode cX6_copy 113 = .ok (.aload_n 0, 1) := by decide +kernel
theorem dX6_copy_114 : decode cX6_copy 114 = .ok (.iload 5, 2) := by decide +kernel
theorem dX6_copy_116 : decode cX6_copy 116 = .ok (.i2l, 1) := by decide +kernel
theorem dX6_copy_117 : decode cX6_copy 117 = .ok (.invokevirtual 90, 3) := by decide +kernel
theorem dX6_copy_120 : decode cX6_copy 120 = .ok (.lreturn, 1) := by decide +kernel
theorem dX6_drop_0 : decode cX6_drop 0 = .ok (.iload_n 1, 1) := by decide +kernel
theorem dX6_drop_1 : decode cX6_drop 1 = .ok (.invokestatic 73, 3) := by decide +kernel
theorem dX6_drop_4 : decode cX6_drop 4 = .ok (.ifCond .ne 7, 3) := by decide +kernel
theorem dX6_drop_7 : decode cX6_drop 7 = .ok (.ldc2_w 80, 3) := by decide +kernel
theorem dX6_drop_10 : decode cX6_drop 10 = .ok (.lreturn, 1) := by decide +kernel
theorem dX6_drop_11 : decode cX6_drop 11 = .ok (.aload_n 0, 1) := by decide +kernel
theorem dX6_drop_12 : decode cX6_drop 12 = .ok (.getfield 12, 3) := by decide +kernel
theorem dX6_drop_15 : decode cX6_drop 15 = .ok (.iload_n 1, 1) := by decide +kernel
theorem dX6_drop_16 : decode cX6_drop 16 = .ok (.invokevirtual 94, 3) := by decide +kernel
theorem dX6_drop_19 : decode cX6_drop 19 = .ok (.ifCond .eq 9, 3) := by decide +kernel
theorem dX6_drop_22 : decode cX6_drop 22 = .ok (.aload_n 0, 1) := by decide +kernel
theorem dX6_drop_23 : decode cX6_drop 23 = .ok (.iconst 1, 1) := by decide +kernel
theorem dX6_drop_24 : decode cX6_drop 24 = .ok (.invokevirtual 82, 3) := by decide +kernel
theorem dX6_drop_27 : decode cX6_drop 27 = .ok (.lreturn, 1) := by decide +kernel
theorem dX6_drop_28 : decode cX6_drop 28 = .ok (.aload_n 0, 1) := by decide +kernel
theorem dX6_drop_29 : decode cX6_drop 29 = .ok (.aload_n 0, 1) := by decide +kernel
theorem dX6_drop_30 : decode cX6_drop 30 = .ok (.getfield 12, 3) := by decide +kernel
theorem dX6_drop_33 : decode cX6_drop 33 = .ok (.iload_n 1, 1) := by decide +kernel
theorem dX6_drop_34 : decode cX6_drop 34 = .ok (.invokevirtual 113, 3) := by decide +kernel
theorem dX6_drop_37 : decode cX6_drop 37 = .ok (.i2l, 1) := by decide +kernel
theorem dX6_drop_38 : decode cX6_drop 38 = .ok (.invokevirtual 90, 3) := by decide +kernel
theorem dX6_drop_41 : decode cX6_drop 41 = .ok (.lreturn, 1) := by decide +kernel
theorem dX6_feed_0 : decode cX6_feed 0 = .ok (.iload_n 3, 1) := by decide +kernel
theorem dX6_feed_1 : decode cX6_feed 1 = .ok (.iconst 1, 1) := by decide +kernel
theorem dX6_feed_2 : decode cX6_feed 2 = .ok (.if_icmp .lt 9, 3) := by decide +kernel
theorem dX6_feed_5 : decode cX6_feed 5 = .ok (.iload_n 3, 1) := by decide +kernel
theorem dX6_feed_6 : decode cX6_feed 6 = .ok (.bipush 8, 2) := by decide +kernel
theorem dX6_feed_8 : decode cX6_feed 8 = .ok (.if_icmp .le 7, 3) := by decide +kernel
theorem dX6_feed_11 : decode cX6_feed 11 = .ok (.ldc2_w 80, 3) := by decide +kernel
theorem dX6_feed_14 : decode cX6_feed 14 = .ok (.lreturn, 1) := by decide +kernel
theorem dX6_feed_15 : decode cX6_feed 15 = .ok (.aload_n 0, 1) := by decide +kernel
theorem dX6_feed_16 : decode cX6_feed 16 = .ok (.getfield 19, 3) := by decide +kernel
theorem dX6_feed_19 : decode cX6_feed 19 = .ok (.iload_n 3, 1) := by decide +kernel
theorem dX6_feed_20 : decode cX6_feed 20 = .ok (.invokevirtual 117, 3) := by decide +kernel
theorem dX6_feed_23 : decode cX6_feed 23 = .ok (.ifCond .ne 7, 3) := by decide +kernel
theorem dX6_feed_26 : decode cX6_feed 26 = .ok (.ldc2_w 120, 3) := by decide +kernel
theorem dX6_feed_29 : decode cX6_feed 29 = .ok (.lreturn, 1) := by decide +kernel
theorem dX6_feed_30 : decode cX6_feed 30 = .ok (.aload_n 0, 1) := by decide +kernel
theorem dX6_feed_31 : decode cX6_feed 31 = .ok (.getfield 19, 3) := by decide +kernel
theorem dX6_feed_34 : decode cX6_feed 34 = .ok (.lload_n 1, 1) := by decide +kernel
theorem dX6_feed_35 : decode cX6_feed 35 = .ok (.iload_n 3, 1) := by decide +kernel
theorem dX6_feed_36 : decode cX6_feed 36 = .ok (.invokevirtual 122, 3) := by decide +kernel
theorem dX6_feed_39 : decode cX6_feed 39 = .ok (.i2l, 1) := by decide +kernel
theorem dX6_feed_40 : decode cX6_feed 40 = .ok (.lreturn, 1) := by decide +kernel
theorem dX6_world_0 : decode cX6_world 0 = .ok (.aload_n 0, 1) := by decide +kernel
theorem dX6_world_1 : decode cX6_world 1 = .ok (.getfield 19, 3) := by decide +kernel
theorem dX6_world_4 : decode cX6_world 4 = .ok (.aload_n 0, 1) := by decide +kernel
theorem dX6_world_5 : decode cX6_world 5 = .ok (.getfield 54, 3) := by decide +kernel
theorem dX6_world_8 : decode cX6_world 8 = .ok (.invokevirtual 126, 3) := by decide +kernel
theorem dX6_world_11 : decode cX6_world 11 = .ok (.istore_n 1, 1) := by decide +kernel
theorem dX6_world_12 : decode cX6_world 12 = .ok (.aload_n 0, 1) := by decide +kernel
theorem dX6_world_13 : decode cX6_world 13 = .ok (.getfield 19, 3) := by decide +kernel
theorem dX6_world_16 : decode cX6_world 16 = .ok (.invokevirtual 130, 3) := by decide +kernel
theorem dX6_world_19 : decode cX6_world 19 = .ok (.iload_n 1, 1) := by decide +kernel
theorem dX6_world_20 : decode cX6_world 20 = .ok (.ifCond .ne 16, 3) := by decide +kernel
theorem dX6_world_23 : decode cX6_world 23 = .ok (.ldc2_w 133, 3) := by decide +kernel
theorem dX6_world_26 : decode cX6_world 26 = .ok (.aload_n 0, 1) := by decide +kernel
theorem dX6_world_27 : decode cX6_world 27 = .ok (.getfield 19, 3) := by decide +kernel
theorem dX6_world_30 : decode cX6_world 30 = .ok (.getfield 135, 3) := by decide +kernel
theorem dX6_world_33 : decode cX6_world 33 = .ok (.i2l, 1) := by decide +kernel
theorem dX6_world_34 : decode cX6_world 34 = .ok (.lsub, 1) := by decide +kernel
theorem dX6_world_35 : decode cX6_world 35 = .ok (.lreturn, 1) := by decide +kernel
theorem dX6_world_36 : decode cX6_world 36 = .ok (.aload_n 0, 1) := by decide +kernel
theorem dX6_world_37 : decode cX6_world 37 = .ok (.getfield 33, 3) := by decide +kernel
theorem dX6_world_40 : decode cX6_world 40 = .ok (.aload_n 0, 1) := by decide +kernel
theorem dX6_world_41 : decode cX6_world 41 = .ok (.getfield 54, 3) := by decide +kernel
theorem dX6_world_44 : decode cX6_world 44 = .ok (.invokevirtual 138, 3) := by decide +kernel
theorem dX6_world_47 : decode cX6_world 47 = .ok (.aload_n 0, 1) := by decide +kernel
theorem dX6_world_48 : decode cX6_world 48 = .ok (.getfield 47, 3) := by decide +kernel
theorem dX6_world_51 : decode cX6_world 51 = .ok (.aload_n 0, 1) := by decide +kernel
theorem dX6_world_52 : decode cX6_world 52 = .ok (.getfield 54, 3) := by decide +kernel
theorem dX6_world_55 : decode cX6_world 55 = .ok (.invokevirtual 142, 3) := by decide +kernel
theorem dX6_world_58 : decode cX6_world 58 = .ok (.aload_n 0, 1) := by decide +kernel
theorem dX6_world_59 : decode cX6_world 59 = .ok (.iconst 0, 1) := by decide +kernel
theorem dX6_world_60 : decode cX6_world 60 = .ok (.putfield 65, 3) := by decide +kernel
theorem dX6_world_63 : decode cX6_world 63 = .ok (.aload_n 0, 1) := by decide +kernel
theorem dX6_world_64 : decode cX6_world 64 = .ok (.getfield 47, 3) := by decide +kernel
theorem dX6_world_67 : decode cX6_world 67 = .ok (.getfield 145, 3) := by decide +kernel
theorem dX6_world_70 : decode cX6_world 70 = .ok (.i2l, 1) := by decide +kernel
theorem dX6_world_71 : decode cX6_world 71 = .ok (.lreturn, 1) := by decide +kernel
theorem dX6_fault_0 : decode cX6_fault 0 = .ok (.aload_n 0, 1) := by decide +kernel
theorem dX6_fault_1 : decode cX6_fault 1 = .ok (.getfield 19, 3) := by decide +kernel
theorem dX6_fault_4 : decode cX6_fault 4 = .ok (.getfield 148, 3) := by decide +kernel
theorem dX6_fault_7 : decode cX6_fault 7 = .ok (.ireturn, 1) := by decide +kernel
theorem dX6_told_0 : decode cX6_told 0 = .ok (.aload_n 0, 1) := by decide +kernel
theorem dX6_told_1 : decode cX6_told 1 = .ok (.getfield 47, 3) := by decide +kernel
theorem dX6_told_4 : decode cX6_told 4 = .ok (.iload_n 1, 1) := by decide +kernel
theorem dX6_told_5 : decode cX6_told 5 = .ok (.invokevirtual 151, 3) := by decide +kernel
theorem dX6_told_8 : decode cX6_told 8 = .ok (.ifCond .eq 14, 3) := by decide +kernel
theorem dX6_told_11 : decode cX6_told 11 = .ok (.aload_n 0, 1) := by decide +kernel
theorem dX6_told_12 : decode cX6_told 12 = .ok (.getfield 47, 3) := by decide +kernel
theorem dX6_told_15 : decode cX6_told 15 = .ok (.iload_n 2, 1) := by decide +kernel
theorem dX6_told_16 : decode cX6_told 16 = .ok (.invokevirtual 154, 3) := by decide +kernel
theorem dX6_told_19 : decode cX6_told 19 = .ok (.ifCond .ne 7, 3) := by decide +kernel
theorem dX6_told_22 : decode cX6_told 22 = .ok (.ldc2_w 80, 3) := by decide +kernel
theorem dX6_told_25 : decode cX6_told 25 = .ok (.lreturn, 1) := by decide +kernel
theorem dX6_told_26 : decode cX6_told 26 = .ok (.iload_n 3, 1) := by decide +kernel
theorem dX6_told_27 : decode cX6_told 27 = .ok (.tableswitch 60 0 2 #[25, 38, 49], 25) := by decide +kernel
theorem dX6_told_52 : decode cX6_told 52 = .ok (.aload_n 0, 1) := by decide +kernel
theorem dX6_told_53 : decode cX6_told 53 = .ok (.getfield 47, 3) := by decide +kernel
theorem dX6_told_56 : decode cX6_told 56 = .ok (.getfield 157, 3) := by decide +kernel
theorem dX6_told_59 : decode cX6_told 59 = .ok (.iload_n 1, 1) := by decide +kernel
theorem dX6_told_60 : decode cX6_told 60 = .ok (.aaload, 1) := by decide +kernel
theorem dX6_told_61 : decode cX6_told 61 = .ok (.iload_n 2, 1) := by decide +kernel
theorem dX6_told_62 : decode cX6_told 62 = .ok (.iaload, 1) := by decide +kernel
theorem dX6_told_63 : decode cX6_told 63 = .ok (.i2l, 1) := by decide +kernel
theorem dX6_told_64 : decode cX6_told 64 = .ok (.lreturn, 1) := by decide +kernel
theorem dX6_told_65 : decode cX6_told 65 = .ok (.aload_n 0, 1) := by decide +kernel
theorem dX6_told_66 : decode cX6_told 66 = .ok (.getfield 47, 3) := by decide +kernel
theorem dX6_told_69 : decode cX6_told 69 = .ok (.getfield 161, 3) := by decide +kernel
theorem dX6_told_72 : decode cX6_told 72 = .ok (.iload_n 1, 1) := by decide +kernel
theorem dX6_told_73 : decode cX6_told 73 = .ok (.iaload, 1) := by decide +kernel
theorem dX6_told_74 : decode cX6_told 74 = .ok (.i2l, 1) := by decide +kernel
theorem dX6_told_75 : decode cX6_told 75 = .ok (.lreturn, 1) := by decide +kernel
theorem dX6_told_76 : decode cX6_told 76 = .ok (.aload_n 0, 1) := by decide +kernel
theorem dX6_told_77 : decode cX6_told 77 = .ok (.getfield 47, 3) := by decide +kernel
theorem dX6_told_80 : decode cX6_told 80 = .ok (.getfield 164, 3) := by decide +kernel
theorem dX6_told_83 : decode cX6_told 83 = .ok (.iload_n 2, 1) := by decide +kernel
theorem dX6_told_84 : decode cX6_told 84 = .ok (.iaload, 1) := by decide +kernel
theorem dX6_told_85 : decode cX6_told 85 = .ok (.i2l, 1) := by decide +kernel
theorem dX6_told_86 : decode cX6_told 86 = .ok (.lreturn, 1) := by decide +kernel
theorem dX6_told_87 : decode cX6_told 87 = .ok (.ldc2_w 80, 3) := by decide +kernel
theorem dX6_told_90 : decode cX6_told 90 = .ok (.lreturn, 1) := by decide +kernel
theorem dX6_wage_0 : decode cX6_wage 0 = .ok (.aload_n 0, 1) := by decide +kernel
theorem dX6_wage_1 : decode cX6_wage 1 = .ok (.getfield 47, 3) := by decide +kernel
theorem dX6_wage_4 : decode cX6_wage 4 = .ok (.iload_n 1, 1) := by decide +kernel
theorem dX6_wage_5 : decode cX6_wage 5 = .ok (.invokevirtual 151, 3) := by decide +kernel
theorem dX6_wage_8 : decode cX6_wage 8 = .ok (.ifCond .eq 12, 3) := by decide +kernel
theorem dX6_wage_11 : decode cX6_wage 11 = .ok (.iload_n 2, 1) := by decide +kernel
theorem dX6_wage_12 : decode cX6_wage 12 = .ok (.ifCond .lt 8, 3) := by decide +kernel
theorem dX6_wage_15 : decode cX6_wage 15 = .ok (.iload_n 2, 1) := by decide +kernel
theorem dX6_wage_16 : decode cX6_wage 16 = .ok (.iconst 1, 1) := by decide +kernel
theorem dX6_wage_17 : decode cX6_wage 17 = .ok (.if_icmp .le 7, 3) := by decide +kernel
theorem dX6_wage_20 : decode cX6_wage 20 = .ok (.ldc2_w 80, 3) := by decide +kernel
theorem dX6_wage_23 : decode cX6_wage 23 = .ok (.lreturn, 1) := by decide +kernel
theorem dX6_wage_24 : decode cX6_wage 24 = .ok (.aload_n 0, 1) := by decide +kernel
theorem dX6_wage_25 : decode cX6_wage 25 = .ok (.getfield 47, 3) := by decide +kernel
theorem dX6_wage_28 : decode cX6_wage 28 = .ok (.getfield 167, 3) := by decide +kernel
theorem dX6_wage_31 : decode cX6_wage 31 = .ok (.iload_n 1, 1) := by decide +kernel
theorem dX6_wage_32 : decode cX6_wage 32 = .ok (.laload, 1) := by decide +kernel
theorem dX6_wage_33 : decode cX6_wage 33 = .ok (.aload_n 0, 1) := by decide +kernel
theorem dX6_wage_34 : decode cX6_wage 34 = .ok (.getfield 47, 3) := by decide +kernel
theorem dX6_wage_37 : decode cX6_wage 37 = .ok (.getfield 167, 3) := by decide +kernel
theorem dX6_wage_40 : decode cX6_wage 40 = .ok (.iconst 0, 1) := by decide +kernel
theorem dX6_wage_41 : decode cX6_wage 41 = .ok (.laload, 1) := by decide +kernel
theorem dX6_wage_42 : decode cX6_wage 42 = .ok (.iload_n 2, 1) := by decide +kernel
theorem dX6_wage_43 : decode cX6_wage 43 = .ok (.invokestatic 170, 3) := by decide +kernel
theorem dX6_wage_46 : decode cX6_wage 46 = .ok (.lreturn, 1) := by decide +kernel
theorem dX6_price_0 : decode cX6_price 0 = .ok (.aload_n 0, 1) := by decide +kernel
theorem dX6_price_1 : decode cX6_price 1 = .ok (.getfield 47, 3) := by decide +kernel
theorem dX6_price_4 : decode cX6_price 4 = .ok (.iload_n 1, 1) := by decide +kernel
theorem dX6_price_5 : decode cX6_price 5 = .ok (.invokevirtual 154, 3) := by decide +kernel
theorem dX6_price_8 : decode cX6_price 8 = .ok (.ifCond .eq 12, 3) := by decide +kernel
theorem dX6_price_11 : decode cX6_price 11 = .ok (.iload_n 2, 1) := by decide +kernel
theorem dX6_price_12 : decode cX6_price 12 = .ok (.ifCond .lt 8, 3) := by decide +kernel
theorem dX6_price_15 : decode cX6_price 15 = .ok (.iload_n 2, 1) := by decide +kernel
theorem dX6_price_16 : decode cX6_price 16 = .ok (.iconst 2, 1) := by decide +kernel
theorem dX6_price_17 : decode cX6_price 17 = .ok (.if_icmp .le 7, 3) := by decide +kernel
theorem dX6_price_20 : decode cX6_price 20 = .ok (.ldc2_w 80, 3) := by decide +kernel
theorem dX6_price_23 : decode cX6_price 23 = .ok (.lreturn, 1) := by decide +kernel
theorem dX6_price_24 : decode cX6_price 24 = .ok (.iload_n 2, 1) := by decide +kernel
theorem dX6_price_25 : decode cX6_price 25 = .ok (.iconst 2, 1) := by decide +kernel
theorem dX6_price_26 : decode cX6_price 26 = .ok (.if_icmp .ne 20, 3) := by decide +kernel
theorem dX6_price_29 : decode cX6_price 29 = .ok (.aload_n 0, 1) := by decide +kernel
theorem dX6_price_30 : decode cX6_price 30 = .ok (.getfield 47, 3) := by decide +kernel
theorem dX6_price_33 : decode cX6_price 33 = .ok (.aload_n 0, 1) := by decide +kernel
theorem dX6_price_34 : decode cX6_price 34 = .ok (.getfield 47, 3) := by decide +kernel
theorem dX6_price_37 : decode cX6_price 37 = .ok (.getfield 167, 3) := by decide +kernel
theorem dX6_price_40 : decode cX6_price 40 = .ok (.iload_n 1, 1) := by decide +kernel
theorem dX6_price_41 : decode cX6_price 41 = .ok (.invokevirtual 174, 3) := by decide +kernel
theorem dX6_price_44 : decode cX6_price 44 = .ok (.i2l, 1) := by decide +kernel
theorem dX6_price_45 : decode cX6_price 45 = .ok (.lreturn, 1) := by decide +kernel
theorem dX6_price_46 : decode cX6_price 46 = .ok (.aload_n 0, 1) := by decide +kernel
theorem dX6_price_47 : decode cX6_price 47 = .ok (.getfield 47, 3) := by decide +kernel
theorem dX6_price_50 : decode cX6_price 50 = .ok (.aload_n 0, 1) := by decide +kernel
theorem dX6_price_51 : decode cX6_price 51 = .ok (.getfield 47, 3) := by decide +kernel
theorem dX6_price_54 : decode cX6_price 54 = .ok (.getfield 167, 3) := by decide +kernel
theorem dX6_price_57 : decode cX6_price 57 = .ok (.iload_n 1, 1) := by decide +kernel
theorem dX6_price_58 : decode cX6_price 58 = .ok (.invokevirtual 178, 3) := by decide +kernel
theorem dX6_price_61 : decode cX6_price 61 = .ok (.aload_n 0, 1) := by decide +kernel
theorem dX6_price_62 : decode cX6_price 62 = .ok (.getfield 47, 3) := by decide +kernel
theorem dX6_price_65 : decode cX6_price 65 = .ok (.getfield 167, 3) := by decide +kernel
theorem dX6_price_68 : decode cX6_price 68 = .ok (.iconst 0, 1) := by decide +kernel
theorem dX6_price_69 : decode cX6_price 69 = .ok (.laload, 1) := by decide +kernel
theorem dX6_price_70 : decode cX6_price 70 = .ok (.iload_n 2, 1) := by decide +kernel
theorem dX6_price_71 : decode cX6_price 71 = .ok (.invokestatic 170, 3) := by decide +kernel
theorem dX6_price_74 : decode cX6_price 74 = .ok (.lreturn, 1) := by decide +kernel
theorem dX6_gain_0 : decode cX6_gain 0 = .ok (.aload_n 0, 1) := by decide +kernel
theorem dX6_gain_1 : decode cX6_gain 1 = .ok (.getfield 47, 3) := by decide +kernel
theorem dX6_gain_4 : decode cX6_gain 4 = .ok (.iload_n 1, 1) := by decide +kernel
theorem dX6_gain_5 : decode cX6_gain 5 = .ok (.invokevirtual 151, 3) := by decide +kernel
theorem dX6_gain_8 : decode cX6_gain 8 = .ok (.ifCond .eq 23, 3) := by decide +kernel
theorem dX6_gain_11 : decode cX6_gain 11 = .ok (.aload_n 0, 1) := by decide +kernel
theorem dX6_gain_12 : decode cX6_gain 12 = .ok (.getfield 47, 3) := by decide +kernel
theorem dX6_gain_15 : decode cX6_gain 15 = .ok (.iload_n 2, 1) := by decide +kernel
theorem dX6_gain_16 : decode cX6_gain 16 = .ok (.invokevirtual 154, 3) := by decide +kernel
theorem dX6_gain_19 : decode cX6_gain 19 = .ok (.ifCond .eq 12, 3) := by decide +kernel
theorem dX6_gain_22 : decode cX6_gain 22 = .ok (.iload_n 3, 1) := by decide +kernel
theorem dX6_gain_23 : decode cX6_gain 23 = .ok (.ifCond .lt 8, 3) := by decide +kernel
theorem dX6_gain_26 : decode cX6_gain 26 = .ok (.iload_n 3, 1) := by decide +kernel
theorem dX6_gain_27 : decode cX6_gain 27 = .ok (.iconst 1, 1) := by decide +kernel
theorem dX6_gain_28 : decode cX6_gain 28 = .ok (.if_icmp .le 7, 3) := by decide +kernel
theorem dX6_gain_31 : decode cX6_gain 31 = .ok (.ldc2_w 80, 3) := by decide +kernel
theorem dX6_gain_34 : decode cX6_gain 34 = .ok (.lreturn, 1) := by decide +kernel
theorem dX6_gain_35 : decode cX6_gain 35 = .ok (.aload_n 0, 1) := by decide +kernel
theorem dX6_gain_36 : decode cX6_gain 36 = .ok (.getfield 47, 3) := by decide +kernel
theorem dX6_gain_39 : decode cX6_gain 39 = .ok (.aload_n 0, 1) := by decide +kernel
theorem dX6_gain_40 : decode cX6_gain 40 = .ok (.getfield 47, 3) := by decide +kernel
theorem dX6_gain_43 : decode cX6_gain 43 = .ok (.getfield 167, 3) := by decide +kernel
theorem dX6_gain_46 : decode cX6_gain 46 = .ok (.iload_n 1, 1) := by decide +kernel
theorem dX6_gain_47 : decode cX6_gain 47 = .ok (.iload_n 2, 1) := by decide +kernel
theorem dX6_gain_48 : decode cX6_gain 48 = .ok (.invokevirtual 182, 3) := by decide +kernel
theorem dX6_gain_51 : decode cX6_gain 51 = .ok (.aload_n 0, 1) := by decide +kernel
theorem dX6_gain_52 : decode cX6_gain 52 = .ok (.getfield 47, 3) := by decide +kernel
theorem dX6_gain_55 : decode cX6_gain 55 = .ok (.aload_n 0, 1) := by decide +kernel
theorem dX6_gain_56 : decode cX6_gain 56 = .ok (.getfield 47, 3) := by decide +kernel
theorem dX6_gain_59 : decode cX6_gain 59 = .ok (.getfield 167, 3) := by decide +kernel
theorem dX6_gain_62 : decode cX6_gain 62 = .ok (.iload_n 2, 1) := by decide +kernel
theorem dX6_gain_63 : decode cX6_gain 63 = .ok (.invokevirtual 178, 3) := by decide +kernel
theorem dX6_gain_66 : decode cX6_gain 66 = .ok (.iload_n 3, 1) := by decide +kernel
theorem dX6_gain_67 : decode cX6_gain 67 = .ok (.invokestatic 170, 3) := by decide +kernel
theorem dX6_gain_70 : decode cX6_gain 70 = .ok (.lreturn, 1) := by decide +kernel
theorem dX6_judge_0 : decode cX6_judge 0 = .ok (.iload_n 1, 1) := by decide +kernel
theorem dX6_judge_1 : decode cX6_judge 1 = .ok (.invokestatic 73, 3) := by decide +kernel
theorem dX6_judge_4 : decode cX6_judge 4 = .ok (.ifCond .ne 7, 3) := by decide +kernel
theorem dX6_judge_7 : decode cX6_judge 7 = .ok (.ldc2_w 80, 3) := by decide +kernel
theorem dX6_judge_10 : decode cX6_judge 10 = .ok (.lreturn, 1) := by decide +kernel
theorem dX6_judge_11 : decode cX6_judge 11 = .ok (.aload_n 0, 1) := by decide +kernel
theorem dX6_judge_12 : decode cX6_judge 12 = .ok (.getfield 47, 3) := by decide +kernel
theorem dX6_judge_15 : decode cX6_judge 15 = .ok (.invokevirtual 186, 3) := by decide +kernel
theorem dX6_judge_18 : decode cX6_judge 18 = .ok (.ifCond .ne 7, 3) := by decide +kernel
theorem dX6_judge_21 : decode cX6_judge 21 = .ok (.ldc2_w 190, 3) := by decide +kernel
theorem dX6_judge_24 : decode cX6_judge 24 = .ok (.lreturn, 1) := by decide +kernel
theorem dX6_judge_25 : decode cX6_judge 25 = .ok (.aload_n 0, 1) := by decide +kernel
theorem dX6_judge_26 : decode cX6_judge 26 = .ok (.iload_n 1, 1) := by decide +kernel
theorem dX6_judge_27 : decode cX6_judge 27 = .ok (.iload_n 2, 1) := by decide +kernel
theorem dX6_judge_28 : decode cX6_judge 28 = .ok (.aload_n 0, 1) := by decide +kernel
theorem dX6_judge_29 : decode cX6_judge 29 = .ok (.getfield 47, 3) := by decide +kernel
theorem dX6_judge_32 : decode cX6_judge 32 = .ok (.getfield 145, 3) := by decide +kernel
theorem dX6_judge_35 : decode cX6_judge 35 = .ok (.invokevirtual 192, 3) := by decide +kernel
theorem dX6_judge_38 : decode cX6_judge 38 = .ok (.istore_n 3, 1) := by decide +kernel
theorem dX6_judge_39 : decode cX6_judge 39 = .ok (.iload_n 3, 1) := by decide +kernel
theorem dX6_judge_40 : decode cX6_judge 40 = .ok (.ifCond .eq 9, 3) := by decide +kernel
theorem dX6_judge_43 : decode cX6_judge 43 = .ok (.aload_n 0, 1) := by decide +kernel
theorem dX6_judge_44 : decode cX6_judge 44 = .ok (.iload_n 3, 1) := by decide +kernel
theorem dX6_judge_45 : decode cX6_judge 45 = .ok (.invokevirtual 82, 3) := by decide +kernel
theorem dX6_judge_48 : decode cX6_judge 48 = .ok (.lreturn, 1) := by decide +kernel
theorem dX6_judge_49 : decode cX6_judge 49 = .ok (.iconst 0, 1) := by decide +kernel
theorem dX6_judge_50 : decode cX6_judge 50 = .ok (.istore 4, 2) := by decide +kernel
theorem dX6_judge_52 : decode cX6_judge 52 = .ok (.iload 4, 2) := by decide +kernel
theorem dX6_judge_54 : decode cX6_judge 54 = .ok (.aload_n 0, 1) := by decide +kernel
theorem dX6_judge_55 : decode cX6_judge 55 = .ok (.getfield 47, 3) := by decide +kernel
theorem dX6_judge_58 : decode cX6_judge 58 = .ok (.getfield 145, 3) := by decide +kernel
theorem dX6_judge_61 : decode cX6_judge 61 = .ok (.if_icmp .ge 51, 3) := by decide +kernel
theorem dX6_judge_64 : decode cX6_judge 64 = .ok (.aload_n 0, 1) := by decide +kernel
theorem dX6_judge_65 : decode cX6_judge 65 = .ok (.getfield 12, 3) := by decide +kernel
theorem dX6_judge_68 : decode cX6_judge 68 = .ok (.iload_n 1, 1) := by decide +kernel
theorem dX6_judge_69 : decode cX6_judge 69 = .ok (.iload_n 2, 1) := by decide +kernel
theorem dX6_judge_70 : decode cX6_judge 70 = .ok (.iload 4, 2) := by decide +kernel
theorem dX6_judge_72 : decode cX6_judge 72 = .ok (.iadd, 1) := by decide +kernel
theorem dX6_judge_73 : decode cX6_judge 73 = .ok (.invokevirtual 195, 3) := by decide +kernel
theorem dX6_judge_76 : decode cX6_judge 76 = .ok (.istore 5, 2) := by decide +kernel
theorem dX6_judge_78 : decode cX6_judge 78 = .ok (.iload 5, 2) := by decide +kernel
theorem dX6_judge_80 : decode cX6_judge 80 = .ok (.iconst 1, 1) := by decide +kernel
theorem dX6_judge_81 : decode cX6_judge 81 = .ok (.if_icmp .lt 11, 3) := by decide +kernel
theorem dX6_judge_84 : decode cX6_judge 84 = .ok (.iload 5, 2) := by decide +kernel
theorem dX6_judge_86 : decode cX6_judge 86 = .ok (.sipush 999, 3) := by decide +kernel
theorem dX6_judge_89 : decode cX6_judge 89 = .ok (.if_icmp .le 7, 3) := by decide +kernel
theorem dX6_judge_92 : decode cX6_judge 92 = .ok (.ldc2_w 80, 3) := by decide +kernel
theorem dX6_judge_95 : decode cX6_judge 95 = .ok (.lreturn, 1) := by decide +kernel
theorem dX6_judge_96 : decode cX6_judge 96 = .ok (.aload_n 0, 1) := by decide +kernel
theorem dX6_judge_97 : decode cX6_judge 97 = .ok (.getfield 57, 3) := by decide +kernel
theorem dX6_judge_100 : decode cX6_judge 100 = .ok (.iload 4, 2) := by decide +kernel
theorem dX6_judge_102 : decode cX6_judge 102 = .ok (.iload 5, 2) := by decide +kernel
theorem dX6_judge_104 : decode cX6_judge 104 = .ok (.i2l, 1) := by decide +kernel
theorem dX6_judge_105 : decode cX6_judge 105 = .ok (.lastore, 1) := by decide +kernel
theorem dX6_judge_106 : decode cX6_judge 106 = .ok (.iinc 4 1, 3) := by decide +kernel
theorem dX6_judge_109 : decode cX6_judge 109 = .ok (.goto (-57), 3) := by decide +kernel
theorem dX6_judge_112 : decode cX6_judge 112 = .ok (.aload_n 0, 1) := by decide +kernel
theorem dX6_judge_113 : decode cX6_judge 113 = .ok (.aload_n 0, 1) := by decide +kernel
theorem dX6_judge_114 : decode cX6_judge 114 = .ok (.getfield 47, 3) := by decide +kernel
theorem dX6_judge_117 : decode cX6_judge 117 = .ok (.aload_n 0, 1) := by decide +kernel
theorem dX6_judge_118 : decode cX6_judge 118 = .ok (.getfield 57, 3) := by decide +kernel
theorem dX6_judge_121 : decode cX6_judge 121 = .ok (.invokevirtual 199, 3) := by decide +kernel
theorem dX6_judge_124 : decode cX6_judge 124 = .ok (.i2l, 1) := by decide +kernel
theorem dX6_judge_125 : decode cX6_judge 125 = .ok (.invokevirtual 90, 3) := by decide +kernel
theorem dX6_judge_128 : decode cX6_judge 128 = .ok (.lreturn, 1) := by decide +kernel
theorem dX6_chain_0 : decode cX6_chain 0 = .ok (.aload_n 0, 1) := by decide +kernel
theorem dX6_chain_1 : decode cX6_chain 1 = .ok (.getfield 47, 3) := by decide +kernel
theorem dX6_chain_4 : decode cX6_chain 4 = .ok (.iload_n 1, 1) := by decide +kernel
theorem dX6_chain_5 : decode cX6_chain 5 = .ok (.invokevirtual 151, 3) := by decide +kernel
theorem dX6_chain_8 : decode cX6_chain 8 = .ok (.ifCond .eq 24, 3) := by decide +kernel
theorem dX6_chain_11 : decode cX6_chain 11 = .ok (.aload_n 0, 1) := by decide +kernel
theorem dX6_chain_12 : decode cX6_chain 12 = .ok (.getfield 47, 3) := by decide +kernel
theorem dX6_chain_15 : decode cX6_chain 15 = .ok (.iload_n 2, 1) := by decide +kernel
theorem dX6_chain_16 : decode cX6_chain 16 = .ok (.invokevirtual 151, 3) := by decide +kernel
theorem dX6_chain_19 : decode cX6_chain 19 = .ok (.ifCond .eq 13, 3) := by decide +kernel
theorem dX6_chain_22 : decode cX6_chain 22 = .ok (.iload_n 1, 1) := by decide +kernel
theorem dX6_chain_23 : decode cX6_chain 23 = .ok (.iload_n 2, 1) := by decide +kernel
theorem dX6_chain_24 : decode cX6_chain 24 = .ok (.if_icmp .eq 8, 3) := by decide +kernel
theorem dX6_chain_27 : decode cX6_chain 27 = .ok (.iload_n 3, 1) := by decide +kernel
theorem dX6_chain_28 : decode cX6_chain 28 = .ok (.iconst (-1), 1) := by decide +kernel
theorem dX6_chain_29 : decode cX6_chain 29 = .ok (.if_icmp .ge 7, 3) := by decide +kernel
theorem dX6_chain_32 : decode cX6_chain 32 = .ok (.ldc2_w 80, 3) := by decide +kernel
theorem dX6_chain_35 : decode cX6_chain 35 = .ok (.lreturn, 1) := by decide +kernel
theorem dX6_chain_36 : decode cX6_chain 36 = .ok (.iload_n 3, 1) := by decide +kernel
theorem dX6_chain_37 : decode cX6_chain 37 = .ok (.aload_n 0, 1) := by decide +kernel
theorem dX6_chain_38 : decode cX6_chain 38 = .ok (.getfield 47, 3) := by decide +kernel
theorem dX6_chain_41 : decode cX6_chain 41 = .ok (.getfield 203, 3) := by decide +kernel
theorem dX6_chain_44 : decode cX6_chain 44 = .ok (.if_icmp .lt 7, 3) := by decide +kernel
theorem dX6_chain_47 : decode cX6_chain 47 = .ok (.ldc2_w 206, 3) := by decide +kernel
theorem dX6_chain_50 : decode cX6_chain 50 = .ok (.lreturn, 1) := by decide +kernel
theorem dX6_chain_51 : decode cX6_chain 51 = .ok (.aload_n 0, 1) := by decide +kernel
theorem dX6_chain_52 : decode cX6_chain 52 = .ok (.getfield 40, 3) := by decide +kernel
theorem dX6_chain_55 : decode cX6_chain 55 = .ok (.aload_n 0, 1) := by decide +kernel
theorem dX6_chain_56 : decode cX6_chain 56 = .ok (.getfield 47, 3) := by decide +kernel
theorem dX6_chain_59 : decode cX6_chain 59 = .ok (.iload_n 1, 1) := by decide +kernel
theorem dX6_chain_60 : decode cX6_chain 60 = .ok (.iload_n 2, 1) := by decide +kernel
theorem dX6_chain_61 : decode cX6_chain 61 = .ok (.invokevirtual 208, 3) := by decide +kernel
theorem dX6_chain_64 : decode cX6_chain 64 = .ok (.aload_n 0, 1) := by decide +kernel
theorem dX6_chain_65 : decode cX6_chain 65 = .ok (.getfield 40, 3) := by decide +kernel
theorem dX6_chain_68 : decode cX6_chain 68 = .ok (.invokevirtual 212, 3) := by decide +kernel
theorem dX6_chain_71 : decode cX6_chain 71 = .ok (.iload_n 3, 1) := by decide +kernel
theorem dX6_chain_72 : decode cX6_chain 72 = .ok (.ifCond .lt 14, 3) := by decide +kernel
theorem dX6_chain_75 : decode cX6_chain 75 = .ok (.aload_n 0, 1) := by decide +kernel
theorem dX6_chain_76 : decode cX6_chain 76 = .ok (.getfield 40, 3) := by decide +kernel
theorem dX6_chain_79 : decode cX6_chain 79 = .ok (.getfield 215, 3) := by decide +kernel
theorem dX6_chain_82 : decode cX6_chain 82 = .ok (.iload_n 3, 1) := by decide +kernel
theorem dX6_chain_83 : decode cX6_chain 83 = .ok (.iaload, 1) := by decide +kernel
theorem dX6_chain_84 : decode cX6_chain 84 = .ok (.i2l, 1) := by decide +kernel
theorem dX6_chain_85 : decode cX6_chain 85 = .ok (.lreturn, 1) := by decide +kernel
theorem dX6_chain_86 : decode cX6_chain 86 = .ok (.aload_n 0, 1) := by decide +kernel
theorem dX6_chain_87 : decode cX6_chain 87 = .ok (.getfield 40, 3) := by decide +kernel
theorem dX6_chain_90 : decode cX6_chain 90 = .ok (.invokevirtual 218, 3) := by decide +kernel
theorem dX6_chain_93 : decode cX6_chain 93 = .ok (.aload_n 0, 1) := by decide +kernel
theorem dX6_chain_94 : decode cX6_chain 94 = .ok (.getfield 40, 3) := by decide +kernel
theorem dX6_chain_97 : decode cX6_chain 97 = .ok (.invokevirtual 221, 3) := by decide +kernel
theorem dX6_chain_100 : decode cX6_chain 100 = .ok (.i2l, 1) := by decide +kernel
theorem dX6_chain_101 : decode cX6_chain 101 = .ok (.lreturn, 1) := by decide +kernel
theorem dX6_more_0 : decode cX6_more 0 = .ok (.iload_n 1, 1) := by decide +kernel
theorem dX6_more_1 : decode cX6_more 1 = .ok (.invokestatic 73, 3) := by decide +kernel
theorem dX6_more_4 : decode cX6_more 4 = .ok (.ifCond .ne 7, 3) := by decide +kernel
theorem dX6_more_7 : decode cX6_more 7 = .ok (.ldc2_w 80, 3) := by decide +kernel
theorem dX6_more_10 : decode cX6_more 10 = .ok (.lreturn, 1) := by decide +kernel
theorem dX6_more_11 : decode cX6_more 11 = .ok (.aload_n 0, 1) := by decide +kernel
theorem dX6_more_12 : decode cX6_more 12 = .ok (.getfield 47, 3) := by decide +kernel
theorem dX6_more_15 : decode cX6_more 15 = .ok (.invokevirtual 186, 3) := by decide +kernel
theorem dX6_more_18 : decode cX6_more 18 = .ok (.ifCond .ne 7, 3) := by decide +kernel
theorem dX6_more_21 : decode cX6_more 21 = .ok (.ldc2_w 190, 3) := by decide +kernel
theorem dX6_more_24 : decode cX6_more 24 = .ok (.lreturn, 1) := by decide +kernel
theorem dX6_more_25 : decode cX6_more 25 = .ok (.aload_n 0, 1) := by decide +kernel
theorem dX6_more_26 : decode cX6_more 26 = .ok (.iload_n 1, 1) := by decide +kernel
theorem dX6_more_27 : decode cX6_more 27 = .ok (.iload_n 2, 1) := by decide +kernel
theorem dX6_more_28 : decode cX6_more 28 = .ok (.aload_n 0, 1) := by decide +kernel
theorem dX6_more_29 : decode cX6_more 29 = .ok (.getfield 47, 3) := by decide +kernel
theorem dX6_more_32 : decode cX6_more 32 = .ok (.getfield 203, 3) := by decide +kernel
theorem dX6_more_35 : decode cX6_more 35 = .ok (.invokevirtual 192, 3) := by decide +kernel
theorem dX6_more_38 : decode cX6_more 38 = .ok (.istore_n 3, 1) := by decide +kernel
theorem dX6_more_39 : decode cX6_more 39 = .ok (.iload_n 3, 1) := by decide +kernel
theorem dX6_more_40 : decode cX6_more 40 = .ok (.ifCond .eq 9, 3) := by decide +kernel
theorem dX6_more_43 : decode cX6_more 43 = .ok (.aload_n 0, 1) := by decide +kernel
theorem dX6_more_44 : decode cX6_more 44 = .ok (.iload_n 3, 1) := by decide +kernel
theorem dX6_more_45 : decode cX6_more 45 = .ok (.invokevirtual 82, 3) := by decide +kernel
theorem dX6_more_48 : decode cX6_more 48 = .ok (.lreturn, 1) := by decide +kernel
theorem dX6_more_49 : decode cX6_more 49 = .ok (.iconst 0, 1) := by decide +kernel
theorem dX6_more_50 : decode cX6_more 50 = .ok (.istore 4, 2) := by decide +kernel
theorem dX6_more_52 : decode cX6_more 52 = .ok (.iload 4, 2) := by decide +kernel
theorem dX6_more_54 : decode cX6_more 54 = .ok (.aload_n 0, 1) := by decide +kernel
theorem dX6_more_55 : decode cX6_more 55 = .ok (.getfield 47, 3) := by decide +kernel
theorem dX6_more_58 : decode cX6_more 58 = .ok (.getfield 203, 3) := by decide +kernel
theorem dX6_more_61 : decode cX6_more 61 = .ok (.if_icmp .ge 54, 3) := by decide +kernel
theorem dX6_more_64 : decode cX6_more 64 = .ok (.aload_n 0, 1) := by decide +kernel
theorem dX6_more_65 : decode cX6_more 65 = .ok (.getfield 12, 3) := by decide +kernel
theorem dX6_more_68 : decode cX6_more 68 = .ok (.iload_n 1, 1) := by decide +kernel
theorem dX6_more_69 : decode cX6_more 69 = .ok (.iload_n 2, 1) := by decide +kernel
theorem dX6_more_70 : decode cX6_more 70 = .ok (.iload 4, 2) := by decide +kernel
theorem dX6_more_72 : decode cX6_more 72 = .ok (.iadd, 1) := by decide +kernel
theorem dX6_more_73 : decode cX6_more 73 = .ok (.invokevirtual 195, 3) := by decide +kernel
theorem dX6_more_76 : decode cX6_more 76 = .ok (.istore 5, 2) := by decide +kernel
theorem dX6_more_78 : decode cX6_more 78 = .ok (.iload 5, 2) := by decide +kernel
theorem dX6_more_80 : decode cX6_more 80 = .ok (.iconst 1, 1) := by decide +kernel
theorem dX6_more_81 : decode cX6_more 81 = .ok (.if_icmp .lt 15, 3) := by decide +kernel
theorem dX6_more_84 : decode cX6_more 84 = .ok (.iload 5, 2) := by decide +kernel
theorem dX6_more_86 : decode cX6_more 86 = .ok (.aload_n 0, 1) := by decide +kernel
theorem dX6_more_87 : decode cX6_more 87 = .ok (.getfield 47, 3) := by decide +kernel
theorem dX6_more_90 : decode cX6_more 90 = .ok (.invokevirtual 225, 3) := by decide +kernel
theorem dX6_more_93 : decode cX6_more 93 = .ok (.if_icmp .le 7, 3) := by decide +kernel
theorem dX6_more_96 : decode cX6_more 96 = .ok (.ldc2_w 80, 3) := by decide +kernel
theorem dX6_more_99 : decode cX6_more 99 = .ok (.lreturn, 1) := by decide +kernel
theorem dX6_more_100 : decode cX6_more 100 = .ok (.aload_n 0, 1) := by decide +kernel
theorem dX6_more_101 : decode cX6_more 101 = .ok (.getfield 61, 3) := by decide +kernel
theorem dX6_more_104 : decode cX6_more 104 = .ok (.iload 4, 2) := by decide +kernel
theorem dX6_more_106 : decode cX6_more 106 = .ok (.iload 5, 2) := by decide +kernel
theorem dX6_more_108 : decode cX6_more 108 = .ok (.iastore, 1) := by decide +kernel
theorem dX6_more_109 : decode cX6_more 109 = .ok (.iinc 4 1, 3) := by decide +kernel
theorem dX6_more_112 : decode cX6_more 112 = .ok (.goto (-60), 3) := by decide +kernel
theorem dX6_more_115 : decode cX6_more 115 = .ok (.aload_n 0, 1) := by decide +kernel
theorem dX6_more_116 : decode cX6_more 116 = .ok (.aload_n 0, 1) := by decide +kernel
theorem dX6_more_117 : decode cX6_more 117 = .ok (.invokevirtual 228, 3) := by decide +kernel
theorem dX6_more_120 : decode cX6_more 120 = .ok (.invokevirtual 90, 3) := by decide +kernel
theorem dX6_more_123 : decode cX6_more 123 = .ok (.lreturn, 1) := by decide +kernel
theorem dX6_stays_0 : decode cX6_stays 0 = .ok (.aload_n 0, 1) := by decide +kernel
theorem dX6_stays_1 : decode cX6_stays 1 = .ok (.getfield 47, 3) := by decide +kernel
theorem dX6_stays_4 : decode cX6_stays 4 = .ok (.iload_n 1, 1) := by decide +kernel
theorem dX6_stays_5 : decode cX6_stays 5 = .ok (.invokevirtual 151, 3) := by decide +kernel
theorem dX6_stays_8 : decode cX6_stays 8 = .ok (.ifCond .eq 25, 3) := by decide +kernel
theorem dX6_stays_11 : decode cX6_stays 11 = .ok (.aload_n 0, 1) := by decide +kernel
theorem dX6_stays_12 : decode cX6_stays 12 = .ok (.getfield 47, 3) := by decide +kernel
theorem dX6_stays_15 : decode cX6_stays 15 = .ok (.iload_n 2, 1) := by decide +kernel
theorem dX6_stays_16 : decode cX6_stays 16 = .ok (.invokevirtual 154, 3) := by decide +kernel
theorem dX6_stays_19 : decode cX6_stays 19 = .ok (.ifCond .eq 14, 3) := by decide +kernel
theorem dX6_stays_22 : decode cX6_stays 22 = .ok (.iload_n 3, 1) := by decide +kernel
theorem dX6_stays_23 : decode cX6_stays 23 = .ok (.ifCond .lt 10, 3) := by decide +kernel
theorem dX6_stays_26 : decode cX6_stays 26 = .ok (.iload_n 3, 1) := by decide +kernel
theorem dX6_stays_27 : decode cX6_stays 27 = .ok (.sipush 900, 3) := by decide +kernel
theorem dX6_stays_30 : decode cX6_stays 30 = .ok (.if_icmp .le 7, 3) := by decide +kernel
theorem dX6_stays_33 : decode cX6_stays 33 = .ok (.ldc2_w 80, 3) := by decide +kernel
theorem dX6_stays_36 : decode cX6_stays 36 = .ok (.lreturn, 1) := by decide +kernel
theorem dX6_stays_37 : decode cX6_stays 37 = .ok (.aload_n 0, 1) := by decide +kernel
theorem dX6_stays_38 : decode cX6_stays 38 = .ok (.getfield 47, 3) := by decide +kernel
theorem dX6_stays_41 : decode cX6_stays 41 = .ok (.aload_n 0, 1) := by decide +kernel
theorem dX6_stays_42 : decode cX6_stays 42 = .ok (.getfield 47, 3) := by decide +kernel
theorem dX6_stays_45 : decode cX6_stays 45 = .ok (.getfield 167, 3) := by decide +kernel
theorem dX6_stays_48 : decode cX6_stays 48 = .ok (.iload_n 1, 1) := by decide +kernel
theorem dX6_stays_49 : decode cX6_stays 49 = .ok (.iload_n 2, 1) := by decide +kernel
theorem dX6_stays_50 : decode cX6_stays 50 = .ok (.invokevirtual 182, 3) := by decide +kernel
theorem dX6_stays_53 : decode cX6_stays 53 = .ok (.ldc2_w 232, 3) := by decide +kernel
theorem dX6_stays_56 : decode cX6_stays 56 = .ok (.lmul, 1) := by decide +kernel
theorem dX6_stays_57 : decode cX6_stays 57 = .ok (.lstore 4, 2) := by decide +kernel
theorem dX6_stays_59 : decode cX6_stays 59 = .ok (.aload_n 0, 1) := by decide +kernel
theorem dX6_stays_60 : decode cX6_stays 60 = .ok (.getfield 47, 3) := by decide +kernel
theorem dX6_stays_63 : decode cX6_stays 63 = .ok (.aload_n 0, 1) := by decide +kernel
theorem dX6_stays_64 : decode cX6_stays 64 = .ok (.getfield 47, 3) := by decide +kernel
theorem dX6_stays_67 : decode cX6_stays 67 = .ok (.getfield 167, 3) := by decide +kernel
theorem dX6_stays_70 : decode cX6_stays 70 = .ok (.iload_n 2, 1) := by decide +kernel
theorem dX6_stays_71 : decode cX6_stays 71 = .ok (.invokevirtual 178, 3) := by decide +kernel
theorem dX6_stays_74 : decode cX6_stays 74 = .ok (.bipush 100, 2) := by decide +kernel
theorem dX6_stays_76 : decode cX6_stays 76 = .ok (.iload_n 3, 1) := by decide +kernel
theorem dX6_stays_77 : decode cX6_stays 77 = .ok (.iadd, 1) := by decide +kernel
theorem dX6_stays_78 : decode cX6_stays 78 = .ok (.i2l, 1) := by decide +kernel
theorem dX6_stays_79 : decode cX6_stays 79 = .ok (.lmul, 1) := by decide +kernel
theorem dX6_stays_80 : decode cX6_stays 80 = .ok (.lstore 6, 2) := by decide +kernel
theorem dX6_stays_82 : decode cX6_stays 82 = .ok (.lload 4, 2) := by decide +kernel
theorem dX6_stays_84 : decode cX6_stays 84 = .ok (.lload 6, 2) := by decide +kernel
theorem dX6_stays_86 : decode cX6_stays 86 = .ok (.lcmp, 1) := by decide +kernel
theorem dX6_stays_87 : decode cX6_stays 87 = .ok (.ifCond .gt 7, 3) := by decide +kernel
theorem dX6_stays_90 : decode cX6_stays 90 = .ok (.lconst 1, 1) := by decide +kernel
theorem dX6_stays_91 : decode cX6_stays 91 = .ok (.goto 4, 3) := by decide +kernel
theorem dX6_stays_94 : decode cX6_stays 94 = .ok (.lconst 0, 1) := by decide +kernel
theorem dX6_stays_95 : decode cX6_stays 95 = .ok (.lreturn, 1) := by decide +kernel
theorem dX6_learn_0 : decode cX6_learn 0 = .ok (.aload_n 0, 1) := by decide +kernel
theorem dX6_learn_1 : decode cX6_learn 1 = .ok (.getfield 47, 3) := by decide +kernel
theorem dX6_learn_4 : decode cX6_learn 4 = .ok (.iload_n 1, 1) := by decide +kernel
theorem dX6_learn_5 : decode cX6_learn 5 = .ok (.invokevirtual 151, 3) := by decide +kernel
theorem dX6_learn_8 : decode cX6_learn 8 = .ok (.ifCond .eq 30, 3) := by decide +kernel
theorem dX6_learn_11 : decode cX6_learn 11 = .ok (.aload_n 0, 1) := by decide +kernel
theorem dX6_learn_12 : decode cX6_learn 12 = .ok (.getfield 47, 3) := by decide +kernel
theorem dX6_learn_15 : decode cX6_learn 15 = .ok (.iload_n 2, 1) := by decide +kernel
theorem dX6_learn_16 : decode cX6_learn 16 = .ok (.invokevirtual 151, 3) := by decide +kernel
theorem dX6_learn_19 : decode cX6_learn 19 = .ok (.ifCond .eq 19, 3) := by decide +kernel
theorem dX6_learn_22 : decode cX6_learn 22 = .ok (.iload_n 1, 1) := by decide +kernel
theorem dX6_learn_23 : decode cX6_learn 23 = .ok (.iload_n 2, 1) := by decide +kernel
theorem dX6_learn_24 : decode cX6_learn 24 = .ok (.if_icmp .eq 14, 3) := by decide +kernel
theorem dX6_learn_27 : decode cX6_learn 27 = .ok (.aload_n 0, 1) := by decide +kernel
theorem dX6_learn_28 : decode cX6_learn 28 = .ok (.getfield 47, 3) := by decide +kernel
theorem dX6_learn_31 : decode cX6_learn 31 = .ok (.iload_n 3, 1) := by decide +kernel
theorem dX6_learn_32 : decode cX6_learn 32 = .ok (.invokevirtual 154, 3) := by decide +kernel
theorem dX6_learn_35 : decode cX6_learn 35 = .ok (.ifCond .ne 7, 3) := by decide +kernel
theorem dX6_learn_38 : decode cX6_learn 38 = .ok (.ldc2_w 80, 3) := by decide +kernel
theorem dX6_learn_41 : decode cX6_learn 41 = .ok (.lreturn, 1) := by decide +kernel
theorem dX6_learn_42 : decode cX6_learn 42 = .ok (.aload_n 0, 1) := by decide +kernel
theorem dX6_learn_43 : decode cX6_learn 43 = .ok (.invokevirtual 234, 3) := by decide +kernel
theorem dX6_learn_46 : decode cX6_learn 46 = .ok (.aload_n 0, 1) := by decide +kernel
theorem dX6_learn_47 : decode cX6_learn 47 = .ok (.getfield 47, 3) := by decide +kernel
theorem dX6_learn_50 : decode cX6_learn 50 = .ok (.getfield 157, 3) := by decide +kernel
theorem dX6_learn_53 : decode cX6_learn 53 = .ok (.iload_n 1, 1) := by decide +kernel
theorem dX6_learn_54 : decode cX6_learn 54 = .ok (.aaload, 1) := by decide +kernel
theorem dX6_learn_55 : decode cX6_learn 55 = .ok (.iload_n 3, 1) := by decide +kernel
theorem dX6_learn_56 : decode cX6_learn 56 = .ok (.iaload, 1) := by decide +kernel
theorem dX6_learn_57 : decode cX6_learn 57 = .ok (.aload_n 0, 1) := by decide +kernel
theorem dX6_learn_58 : decode cX6_learn 58 = .ok (.getfield 47, 3) := by decide +kernel
theorem dX6_learn_61 : decode cX6_learn 61 = .ok (.getfield 157, 3) := by decide +kernel
theorem dX6_learn_64 : decode cX6_learn 64 = .ok (.iload_n 2, 1) := by decide +kernel
theorem dX6_learn_65 : decode cX6_learn 65 = .ok (.aaload, 1) := by decide +kernel
theorem dX6_learn_66 : decode cX6_learn 66 = .ok (.iload_n 3, 1) := by decide +kernel
theorem dX6_learn_67 : decode cX6_learn 67 = .ok (.iaload, 1) := by decide +kernel
theorem dX6_learn_68 : decode cX6_learn 68 = .ok (.isub, 1) := by decide +kernel
theorem dX6_learn_69 : decode cX6_learn 69 = .ok (.istore 4, 2) := by decide +kernel
theorem dX6_learn_71 : decode cX6_learn 71 = .ok (.iload 4, 2) := by decide +kernel
theorem dX6_learn_73 : decode cX6_learn 73 = .ok (.ifCond .gt 5, 3) := by decide +kernel
theorem dX6_learn_76 : decode cX6_learn 76 = .ok (.lconst 0, 1) := by decide +kernel
theorem dX6_learn_77 : decode cX6_learn 77 = .ok (.lreturn, 1) := by decide +kernel
theorem dX6_learn_78 : decode cX6_learn 78 = .ok (.aload_n 0, 1) := by decide +kernel
theorem dX6_learn_79 : decode cX6_learn 79 = .ok (.getfield 47, 3) := by decide +kernel
theorem dX6_learn_82 : decode cX6_learn 82 = .ok (.getfield 157, 3) := by decide +kernel
theorem dX6_learn_85 : decode cX6_learn 85 = .ok (.iload_n 1, 1) := by decide +kernel
theorem dX6_learn_86 : decode cX6_learn 86 = .ok (.aaload, 1) := by decide +kernel
theorem dX6_learn_87 : decode cX6_learn 87 = .ok (.iload_n 3, 1) := by decide +kernel
theorem dX6_learn_88 : decode cX6_learn 88 = .ok (.aload_n 0, 1) := by decide +kernel
theorem dX6_learn_89 : decode cX6_learn 89 = .ok (.getfield 47, 3) := by decide +kernel
theorem dX6_learn_92 : decode cX6_learn 92 = .ok (.getfield 157, 3) := by decide +kernel
theorem dX6_learn_95 : decode cX6_learn 95 = .ok (.iload_n 2, 1) := by decide +kernel
theorem dX6_learn_96 : decode cX6_learn 96 = .ok (.aaload, 1) := by decide +kernel
theorem dX6_learn_97 : decode cX6_learn 97 = .ok (.iload_n 3, 1) := by decide +kernel
theorem dX6_learn_98 : decode cX6_learn 98 = .ok (.iaload, 1) := by decide +kernel
theorem dX6_learn_99 : decode cX6_learn 99 = .ok (.iastore, 1) := by decide +kernel
theorem dX6_learn_100 : decode cX6_learn 100 = .ok (.aload_n 0, 1) := by decide +kernel
theorem dX6_learn_101 : decode cX6_learn 101 = .ok (.getfield 33, 3) := by decide +kernel
theorem dX6_learn_104 : decode cX6_learn 104 = .ok (.aload_n 0, 1) := by decide +kernel
theorem dX6_learn_105 : decode cX6_learn 105 = .ok (.getfield 47, 3) := by decide +kernel
theorem dX6_learn_108 : decode cX6_learn 108 = .ok (.invokevirtual 138, 3) := by decide +kernel
theorem dX6_learn_111 : decode cX6_learn 111 = .ok (.iload 4, 2) := by decide +kernel
theorem dX6_learn_113 : decode cX6_learn 113 = .ok (.i2l, 1) := by decide +kernel
theorem dX6_learn_114 : decode cX6_learn 114 = .ok (.lreturn, 1) := by decide +kernel
theorem dX6_on_0 : decode cX6_on 0 = .ok (.aload_n 0, 1) := by decide +kernel
theorem dX6_on_1 : decode cX6_on 1 = .ok (.getfield 47, 3) := by decide +kernel
theorem dX6_on_4 : decode cX6_on 4 = .ok (.iload_n 1, 1) := by decide +kernel
theorem dX6_on_5 : decode cX6_on 5 = .ok (.invokevirtual 151, 3) := by decide +kernel
theorem dX6_on_8 : decode cX6_on 8 = .ok (.ifCond .ne 7, 3) := by decide +kernel
theorem dX6_on_11 : decode cX6_on 11 = .ok (.ldc2_w 80, 3) := by decide +kernel
theorem dX6_on_14 : decode cX6_on 14 = .ok (.lreturn, 1) := by decide +kernel
theorem dX6_on_15 : decode cX6_on 15 = .ok (.aload_n 0, 1) := by decide +kernel
theorem dX6_on_16 : decode cX6_on 16 = .ok (.getfield 65, 3) := by decide +kernel
theorem dX6_on_19 : decode cX6_on 19 = .ok (.ifCond .ne 7, 3) := by decide +kernel
theorem dX6_on_22 : decode cX6_on 22 = .ok (.ldc2_w 190, 3) := by decide +kernel
theorem dX6_on_25 : decode cX6_on 25 = .ok (.lreturn, 1) := by decide +kernel
theorem dX6_on_26 : decode cX6_on 26 = .ok (.iconst 0, 1) := by decide +kernel
theorem dX6_on_27 : decode cX6_on 27 = .ok (.istore_n 2, 1) := by decide +kernel
theorem dX6_on_28 : decode cX6_on 28 = .ok (.iconst 0, 1) := by decide +kernel
theorem dX6_on_29 : decode cX6_on 29 = .ok (.istore_n 3, 1) := by decide +kernel
theorem dX6_on_30 : decode cX6_on 30 = .ok (.iconst 0, 1) := by decide +kernel
theorem dX6_on_31 : decode cX6_on 31 = .ok (.istore 4, 2) := by decide +kernel
theorem dX6_on_33 : decode cX6_on 33 = .ok (.iload 4, 2) := by decide +kernel
theorem dX6_on_35 : decode cX6_on 35 = .ok (.aload_n 0, 1) := by decide +kernel
theorem dX6_on_36 : decode cX6_on 36 = .ok (.getfield 47, 3) := by decide +kernel
theorem dX6_on_39 : decode cX6_on 39 = .ok (.getfield 203, 3) := by decide +kernel
theorem dX6_on_42 : decode cX6_on 42 = .ok (.if_icmp .ge 101, 3) := by decide +kernel
theorem dX6_on_45 : decode cX6_on 45 = .ok (.aload_n 0, 1) := by decide +kernel
theorem dX6_on_46 : decode cX6_on 46 = .ok (.getfield 47, 3) := by decide +kernel
theorem dX6_on_49 : decode cX6_on 49 = .ok (.getfield 167, 3) := by decide +kernel
theorem dX6_on_52 : decode cX6_on 52 = .ok (.iload_n 1, 1) := by decide +kernel
theorem dX6_on_53 : decode cX6_on 53 = .ok (.laload, 1) := by decide +kernel
theorem dX6_on_54 : decode cX6_on 54 = .ok (.aload_n 0, 1) := by decide +kernel
theorem dX6_on_55 : decode cX6_on 55 = .ok (.getfield 51, 3) := by decide +kernel
theorem dX6_on_58 : decode cX6_on 58 = .ok (.aload_n 0, 1) := by decide +kernel
theorem dX6_on_59 : decode cX6_on 59 = .ok (.getfield 51, 3) := by decide +kernel
theorem dX6_on_62 : decode cX6_on 62 = .ok (.getfield 167, 3) := by decide +kernel
theorem dX6_on_65 : decode cX6_on 65 = .ok (.iload 4, 2) := by decide +kernel
theorem dX6_on_67 : decode cX6_on 67 = .ok (.invokevirtual 178, 3) := by decide +kernel
theorem dX6_on_70 : decode cX6_on 70 = .ok (.lmul, 1) := by decide +kernel
theorem dX6_on_71 : decode cX6_on 71 = .ok (.lstore 5, 2) := by decide +kernel
theorem dX6_on_73 : decode cX6_on 73 = .ok (.aload_n 0, 1) := by decide +kernel
theorem dX6_on_74 : decode cX6_on 74 = .ok (.getfield 51, 3) := by decide +kernel
theorem dX6_on_77 : decode cX6_on 77 = .ok (.getfield 167, 3) := by decide +kernel
theorem dX6_on_80 : decode cX6_on 80 = .ok (.iload_n 1, 1) := by decide +kernel
theorem dX6_on_81 : decode cX6_on 81 = .ok (.laload, 1) := by decide +kernel
theorem dX6_on_82 : decode cX6_on 82 = .ok (.aload_n 0, 1) := by decide +kernel
theorem dX6_on_83 : decode cX6_on 83 = .ok (.getfield 47, 3) := by decide +kernel
theorem dX6_on_86 : decode cX6_on 86 = .ok (.aload_n 0, 1) := by decide +kernel
theorem dX6_on_87 : decode cX6_on 87 = .ok (.getfield 47, 3) := by decide +kernel
theorem dX6_on_90 : decode cX6_on 90 = .ok (.getfield 167, 3) := by decide +kernel
theorem dX6_on_93 : decode cX6_on 93 = .ok (.iload 4, 2) := by decide +kernel
theorem dX6_on_95 : decode cX6_on 95 = .ok (.invokevirtual 178, 3) := by decide +kernel
theorem dX6_on_98 : decode cX6_on 98 = .ok (.lmul, 1) := by decide +kernel
theorem dX6_on_99 : decode cX6_on 99 = .ok (.lstore 7, 2) := by decide +kernel
theorem dX6_on_101 : decode cX6_on 101 = .ok (.iload_n 2, 1) := by decide +kernel
theorem dX6_on_102 : decode cX6_on 102 = .ok (.ifCond .ne 11, 3) := by decide +kernel
theorem dX6_on_105 : decode cX6_on 105 = .ok (.lload 5, 2) := by decide +kernel
theorem dX6_on_107 : decode cX6_on 107 = .ok (.lload 7, 2) := by decide +kernel
theorem dX6_on_109 : decode cX6_on 109 = .ok (.lcmp, 1) := by decide +kernel
theorem dX6_on_110 : decode cX6_on 110 = .ok (.ifCond .le 7, 3) := by decide +kernel
theorem dX6_on_113 : decode cX6_on 113 = .ok (.iconst 1, 1) := by decide +kernel
theorem dX6_on_114 : decode cX6_on 114 = .ok (.goto 4, 3) := by decide +kernel
theorem dX6_on_117 : decode cX6_on 117 = .ok (.iconst 0, 1) := by decide +kernel
theorem dX6_on_118 : decode cX6_on 118 = .ok (.istore_n 2, 1) := by decide +kernel
theorem dX6_on_119 : decode cX6_on 119 = .ok (.iload_n 3, 1) := by decide +kernel
theorem dX6_on_120 : decode cX6_on 120 = .ok (.ifCond .ne 11, 3) := by decide +kernel
theorem dX6_on_123 : decode cX6_on 123 = .ok (.lload 5, 2) := by decide +kernel
theorem dX6_on_125 : decode cX6_on 125 = .ok (.lload 7, 2) := by decide +kernel
theorem dX6_on_127 : decode cX6_on 127 = .ok (.lcmp, 1) := by decide +kernel
theorem dX6_on_128 : decode cX6_on 128 = .ok (.ifCond .ge 7, 3) := by decide +kernel
theorem dX6_on_131 : decode cX6_on 131 = .ok (.iconst 1, 1) := by decide +kernel
theorem dX6_on_132 : decode cX6_on 132 = .ok (.goto 4, 3) := by decide +kernel
theorem dX6_on_135 : decode cX6_on 135 = .ok (.iconst 0, 1) := by decide +kernel
theorem dX6_on_136 : decode cX6_on 136 = .ok (.istore_n 3, 1) := by decide +kernel
theorem dX6_on_137 : decode cX6_on 137 = .ok (.iinc 4 1, 3) := by decide +kernel
theorem dX6_on_140 : decode cX6_on 140 = .ok (.goto (-107), 3) := by decide +kernel
theorem dX6_on_143 : decode cX6_on 143 = .ok (.iload_n 2, 1) := by decide +kernel
theorem dX6_on_144 : decode cX6_on 144 = .ok (.ifCond .eq 15, 3) := by decide +kernel
theorem dX6_on_147 : decode cX6_on 147 = .ok (.iload_n 3, 1) := by decide +kernel
theorem dX6_on_148 : decode cX6_on 148 = .ok (.ifCond .eq 9, 3) := by decide +kernel
theorem dX6_on_151 : decode cX6_on 151 = .ok (.ldc2_w 237, 3) := by decide +kernel
theorem dX6_on_154 : decode cX6_on 154 = .ok (.goto 4, 3) := by decide +kernel
theorem dX6_on_157 : decode cX6_on 157 = .ok (.lconst 1, 1) := by decide +kernel
theorem dX6_on_158 : decode cX6_on 158 = .ok (.lreturn, 1) := by decide +kernel
theorem dX6_on_159 : decode cX6_on 159 = .ok (.iload_n 3, 1) := by decide +kernel
theorem dX6_on_160 : decode cX6_on 160 = .ok (.ifCond .eq 9, 3) := by decide +kernel
theorem dX6_on_163 : decode cX6_on 163 = .ok (.ldc2_w 239, 3) := by decide +kernel
theorem dX6_on_166 : decode cX6_on 166 = .ok (.goto 4, 3) := by decide +kernel
theorem dX6_on_169 : decode cX6_on 169 = .ok (.lconst 0, 1) := by decide +kernel
theorem dX6_on_170 : decode cX6_on 170 = .ok (.lreturn, 1) := by decide +kernel
theorem dX6_edge_0 : decode cX6_edge 0 = .ok (.aload_n 0, 1) := by decide +kernel
theorem dX6_edge_1 : decode cX6_edge 1 = .ok (.getfield 47, 3) := by decide +kernel
theorem dX6_edge_4 : decode cX6_edge 4 = .ok (.iload_n 1, 1) := by decide +kernel
theorem dX6_edge_5 : decode cX6_edge 5 = .ok (.invokevirtual 151, 3) := by decide +kernel
theorem dX6_edge_8 : decode cX6_edge 8 = .ok (.ifCond .eq 14, 3) := by decide +kernel
theorem dX6_edge_11 : decode cX6_edge 11 = .ok (.aload_n 0, 1) := by decide +kernel
theorem dX6_edge_12 : decode cX6_edge 12 = .ok (.getfield 47, 3) := by decide +kernel
theorem dX6_edge_15 : decode cX6_edge 15 = .ok (.iload_n 2, 1) := by decide +kernel
theorem dX6_edge_16 : decode cX6_edge 16 = .ok (.invokevirtual 154, 3) := by decide +kernel
theorem dX6_edge_19 : decode cX6_edge 19 = .ok (.ifCond .ne 7, 3) := by decide +kernel
theorem dX6_edge_22 : decode cX6_edge 22 = .ok (.ldc2_w 80, 3) := by decide +kernel
theorem dX6_edge_25 : decode cX6_edge 25 = .ok (.lreturn, 1) := by decide +kernel
theorem dX6_edge_26 : decode cX6_edge 26 = .ok (.iconst 1, 1) := by decide +kernel
theorem dX6_edge_27 : decode cX6_edge 27 = .ok (.istore_n 3, 1) := by decide +kernel
theorem dX6_edge_28 : decode cX6_edge 28 = .ok (.iload_n 3, 1) := by decide +kernel
theorem dX6_edge_29 : decode cX6_edge 29 = .ok (.bipush 20, 2) := by decide +kernel
theorem dX6_edge_31 : decode cX6_edge 31 = .ok (.if_icmp .ge 37, 3) := by decide +kernel
theorem dX6_edge_34 : decode cX6_edge 34 = .ok (.aload_n 0, 1) := by decide +kernel
theorem dX6_edge_35 : decode cX6_edge 35 = .ok (.iload_n 1, 1) := by decide +kernel
theorem dX6_edge_36 : decode cX6_edge 36 = .ok (.iload_n 2, 1) := by decide +kernel
theorem dX6_edge_37 : decode cX6_edge 37 = .ok (.iload_n 3, 1) := by decide +kernel
theorem dX6_edge_38 : decode cX6_edge 38 = .ok (.invokevirtual 241, 3) := by decide +kernel
theorem dX6_edge_41 : decode cX6_edge 41 = .ok (.ifCond .eq 6, 3) := by decide +kernel
theorem dX6_edge_44 : decode cX6_edge 44 = .ok (.iload_n 3, 1) := by decide +kernel
theorem dX6_edge_45 : decode cX6_edge 45 = .ok (.i2l, 1) := by decide +kernel
theorem dX6_edge_46 : decode cX6_edge 46 = .ok (.lreturn, 1) := by decide +kernel
theorem dX6_edge_47 : decode cX6_edge 47 = .ok (.aload_n 0, 1) := by decide +kernel
theorem dX6_edge_48 : decode cX6_edge 48 = .ok (.iload_n 1, 1) := by decide +kernel
theorem dX6_edge_49 : decode cX6_edge 49 = .ok (.iload_n 2, 1) := by decide +kernel
theorem dX6_edge_50 : decode cX6_edge 50 = .ok (.iload_n 3, 1) := by decide +kernel
theorem dX6_edge_51 : decode cX6_edge 51 = .ok (.ineg, 1) := by decide +kernel
theorem dX6_edge_52 : decode cX6_edge 52 = .ok (.invokevirtual 241, 3) := by decide +kernel
theorem dX6_edge_55 : decode cX6_edge 55 = .ok (.ifCond .eq 7, 3) := by decide +kernel
theorem dX6_edge_58 : decode cX6_edge 58 = .ok (.iload_n 3, 1) := by decide +kernel
theorem dX6_edge_59 : decode cX6_edge 59 = .ok (.ineg, 1) := by decide +kernel
theorem dX6_edge_60 : decode cX6_edge 60 = .ok (.i2l, 1) := by decide +kernel
theorem dX6_edge_61 : decode cX6_edge 61 = .ok (.lreturn, 1) := by decide +kernel
theorem dX6_edge_62 : decode cX6_edge 62 = .ok (.iinc 3 1, 3) := by decide +kernel
theorem dX6_edge_65 : decode cX6_edge 65 = .ok (.goto (-37), 3) := by decide +kernel
theorem dX6_edge_68 : decode cX6_edge 68 = .ok (.ldc2_w 206, 3) := by decide +kernel
theorem dX6_edge_71 : decode cX6_edge 71 = .ok (.lreturn, 1) := by decide +kernel
theorem dX6_move_0 : decode cX6_move 0 = .ok (.iload_n 1, 1) := by decide +kernel
theorem dX6_move_1 : decode cX6_move 1 = .ok (.iconst 1, 1) := by decide +kernel
theorem dX6_move_2 : decode cX6_move 2 = .ok (.if_icmp .lt 8, 3) := by decide +kernel
theorem dX6_move_5 : decode cX6_move 5 = .ok (.iload_n 1, 1) := by decide +kernel
theorem dX6_move_6 : decode cX6_move 6 = .ok (.iconst 5, 1) := by decide +kernel
theorem dX6_move_7 : decode cX6_move 7 = .ok (.if_icmp .le 7, 3) := by decide +kernel
theorem dX6_move_10 : decode cX6_move 10 = .ok (.ldc2_w 80, 3) := by decide +kernel
theorem dX6_move_13 : decode cX6_move 13 = .ok (.lreturn, 1) := by decide +kernel
theorem dX6_move_14 : decode cX6_move 14 = .ok (.aload_n 0, 1) := by decide +kernel
theorem dX6_move_15 : decode cX6_move 15 = .ok (.getfield 47, 3) := by decide +kernel
theorem dX6_move_18 : decode cX6_move 18 = .ok (.invokevirtual 186, 3) := by decide +kernel
theorem dX6_move_21 : decode cX6_move 21 = .ok (.ifCond .ne 7, 3) := by decide +kernel
theorem dX6_move_24 : decode cX6_move 24 = .ok (.ldc2_w 190, 3) := by decide +kernel
theorem dX6_move_27 : decode cX6_move 27 = .ok (.lreturn, 1) := by decide +kernel
theorem dX6_move_28 : decode cX6_move 28 = .ok (.aload_n 0, 1) := by decide +kernel
theorem dX6_move_29 : decode cX6_move 29 = .ok (.invokevirtual 234, 3) := by decide +kernel
theorem dX6_move_32 : decode cX6_move 32 = .ok (.iconst 0, 1) := by decide +kernel
theorem dX6_move_33 : decode cX6_move 33 = .ok (.istore_n 2, 1) := by decide +kernel
theorem dX6_move_34 : decode cX6_move 34 = .ok (.iload_n 2, 1) := by decide +kernel
theorem dX6_move_35 : decode cX6_move 35 = .ok (.iload_n 1, 1) := by decide +kernel
theorem dX6_move_36 : decode cX6_move 36 = .ok (.if_icmp .ge 16, 3) := by decide +kernel
theorem dX6_move_39 : decode cX6_move 39 = .ok (.aload_n 0, 1) := by decide +kernel
theorem dX6_move_40 : decode cX6_move 40 = .ok (.invokevirtual 244, 3) := by decide +kernel
theorem dX6_move_43 : decode cX6_move 43 = .ok (.ifCond .eq 9, 3) := by decide +kernel
theorem dX6_move_46 : decode cX6_move 46 = .ok (.iinc 2 1, 3) := by decide +kernel
theorem dX6_move_49 : decode cX6_move 49 = .ok (.goto (-15), 3) := by decide +kernel
theorem dX6_move_52 : decode cX6_move 52 = .ok (.iload_n 2, 1) := by decide +kernel
theorem dX6_move_53 : decode cX6_move 53 = .ok (.i2l, 1) := by decide +kernel
theorem dX6_move_54 : decode cX6_move 54 = .ok (.lreturn, 1) := by decide +kernel
theorem dX6_kind_0 : decode cX6_kind 0 = .ok (.aload_n 0, 1) := by decide +kernel
theorem dX6_kind_1 : decode cX6_kind 1 = .ok (.getfield 47, 3) := by decide +kernel
theorem dX6_kind_4 : decode cX6_kind 4 = .ok (.iload_n 1, 1) := by decide +kernel
theorem dX6_kind_5 : decode cX6_kind 5 = .ok (.invokevirtual 154, 3) := by decide +kernel
theorem dX6_kind_8 : decode cX6_kind 8 = .ok (.ifCond .eq 12, 3) := by decide +kernel
theorem dX6_kind_11 : decode cX6_kind 11 = .ok (.aload_n 0, 1) := by decide +kernel
theorem dX6_kind_12 : decode cX6_kind 12 = .ok (.iload_n 1, 1) := by decide +kernel
theorem dX6_kind_13 : decode cX6_kind 13 = .ok (.invokevirtual 247, 3) := by decide +kernel
theorem dX6_kind_16 : decode cX6_kind 16 = .ok (.i2l, 1) := by decide +kernel
theorem dX6_kind_17 : decode cX6_kind 17 = .ok (.goto 6, 3) := by decide +kernel
theorem dX6_kind_20 : decode cX6_kind 20 = .ok (.ldc2_w 80, 3) := by decide +kernel
theorem dX6_kind_23 : decode cX6_kind 23 = .ok (.lreturn, 1) := by decide +kernel
theorem dX6_as_0 : decode cX6_as 0 = .ok (.aload_n 0, 1) := by decide +kernel
theorem dX6_as_1 : decode cX6_as 1 = .ok (.getfield 47, 3) := by decide +kernel
theorem dX6_as_4 : decode cX6_as 4 = .ok (.iload_n 1, 1) := by decide +kernel
theorem dX6_as_5 : decode cX6_as 5 = .ok (.invokevirtual 154, 3) := by decide +kernel
theorem dX6_as_8 : decode cX6_as 8 = .ok (.ifCond .eq 12, 3) := by decide +kernel
theorem dX6_as_11 : decode cX6_as 11 = .ok (.iload_n 2, 1) := by decide +kernel
theorem dX6_as_12 : decode cX6_as 12 = .ok (.ifCond .lt 8, 3) := by decide +kernel
theorem dX6_as_15 : decode cX6_as 15 = .ok (.iload_n 2, 1) := by decide +kernel
theorem dX6_as_16 : decode cX6_as 16 = .ok (.iconst 5, 1) := by decide +kernel
theorem dX6_as_17 : decode cX6_as 17 = .ok (.if_icmp .le 7, 3) := by decide +kernel
theorem dX6_as_20 : decode cX6_as 20 = .ok (.ldc2_w 80, 3) := by decide +kernel
theorem dX6_as_23 : decode cX6_as 23 = .ok (.lreturn, 1) := by decide +kernel
theorem dX6_as_24 : decode cX6_as 24 = .ok (.aload_n 0, 1) := by decide +kernel
theorem dX6_as_25 : decode cX6_as 25 = .ok (.iload_n 1, 1) := by decide +kernel
theorem dX6_as_26 : decode cX6_as 26 = .ok (.iload_n 2, 1) := by decide +kernel
theorem dX6_as_27 : decode cX6_as 27 = .ok (.invokevirtual 250, 3) := by decide +kernel
theorem dX6_as_30 : decode cX6_as 30 = .ok (.ifCond .eq 12, 3) := by decide +kernel
theorem dX6_as_33 : decode cX6_as 33 = .ok (.aload_n 0, 1) := by decide +kernel
theorem dX6_as_34 : decode cX6_as 34 = .ok (.iload_n 1, 1) := by decide +kernel
theorem dX6_as_35 : decode cX6_as 35 = .ok (.i2l, 1) := by decide +kernel
theorem dX6_as_36 : decode cX6_as 36 = .ok (.invokevirtual 90, 3) := by decide +kernel
theorem dX6_as_39 : decode cX6_as 39 = .ok (.goto 8, 3) := by decide +kernel
theorem dX6_as_42 : decode cX6_as 42 = .ok (.aload_n 0, 1) := by decide +kernel
theorem dX6_as_43 : decode cX6_as 43 = .ok (.iconst 3, 1) := by decide +kernel
theorem dX6_as_44 : decode cX6_as 44 = .ok (.invokevirtual 82, 3) := by decide +kernel
theorem dX6_as_47 : decode cX6_as 47 = .ok (.lreturn, 1) := by decide +kernel
theorem dX6_ask_0 : decode cX6_ask 0 = .ok (.aload_n 0, 1) := by decide +kernel
theorem dX6_ask_1 : decode cX6_ask 1 = .ok (.getfield 47, 3) := by decide +kernel
theorem dX6_ask_4 : decode cX6_ask 4 = .ok (.iload_n 1, 1) := by decide +kernel
theorem dX6_ask_5 : decode cX6_ask 5 = .ok (.invokevirtual 154, 3) := by decide +kernel
theorem dX6_ask_8 : decode cX6_ask 8 = .ok (.ifCond .eq 12, 3) := by decide +kernel
theorem dX6_ask_11 : decode cX6_ask 11 = .ok (.iload_n 2, 1) := by decide +kernel
theorem dX6_ask_12 : decode cX6_ask 12 = .ok (.ifCond .lt 8, 3) := by decide +kernel
theorem dX6_ask_15 : decode cX6_ask 15 = .ok (.iload_n 2, 1) := by decide +kernel
theorem dX6_ask_16 : decode cX6_ask 16 = .ok (.iconst 1, 1) := by decide +kernel
theorem dX6_ask_17 : decode cX6_ask 17 = .ok (.if_icmp .le 7, 3) := by decide +kernel
theorem dX6_ask_20 : decode cX6_ask 20 = .ok (.ldc2_w 80, 3) := by decide +kernel
theorem dX6_ask_23 : decode cX6_ask 23 = .ok (.lreturn, 1) := by decide +kernel
theorem dX6_ask_24 : decode cX6_ask 24 = .ok (.aload_n 0, 1) := by decide +kernel
theorem dX6_ask_25 : decode cX6_ask 25 = .ok (.getfield 26, 3) := by decide +kernel
theorem dX6_ask_28 : decode cX6_ask 28 = .ok (.invokevirtual 253, 3) := by decide +kernel
theorem dX6_ask_31 : decode cX6_ask 31 = .ok (.iload_n 2, 1) := by decide +kernel
theorem dX6_ask_32 : decode cX6_ask 32 = .ok (.ifCond .ne 12, 3) := by decide +kernel
theorem dX6_ask_35 : decode cX6_ask 35 = .ok (.aload_n 0, 1) := by decide +kernel
theorem dX6_ask_36 : decode cX6_ask 36 = .ok (.iload_n 1, 1) := by decide +kernel
theorem dX6_ask_37 : decode cX6_ask 37 = .ok (.iconst 0, 1) := by decide +kernel
theorem dX6_ask_38 : decode cX6_ask 38 = .ok (.invokevirtual 254, 3) := by decide +kernel
theorem dX6_ask_41 : decode cX6_ask 41 = .ok (.goto 9, 3) := by decide +kernel
theorem dX6_ask_44 : decode cX6_ask 44 = .ok (.aload_n 0, 1) := by decide +kernel
theorem dX6_ask_45 : decode cX6_ask 45 = .ok (.iload_n 1, 1) := by decide +kernel
theorem dX6_ask_46 : decode cX6_ask 46 = .ok (.iconst 0, 1) := by decide +kernel
theorem dX6_ask_47 : decode cX6_ask 47 = .ok (.invokevirtual 258, 3) := by decide +kernel
theorem dX6_ask_50 : decode cX6_ask 50 = .ok (.lreturn, 1) := by decide +kernel
theorem dX6_trace_0 : decode cX6_trace 0 = .ok (.aload_n 0, 1) := by decide +kernel
theorem dX6_trace_1 : decode cX6_trace 1 = .ok (.getfield 26, 3) := by decide +kernel
theorem dX6_trace_4 : decode cX6_trace 4 = .ok (.iload_n 1, 1) := by decide +kernel
theorem dX6_trace_5 : decode cX6_trace 5 = .ok (.invokevirtual 261, 3) := by decide +kernel
theorem dX6_trace_8 : decode cX6_trace 8 = .ok (.ireturn, 1) := by decide +kernel
theorem dX6_count_0 : decode cX6_count 0 = .ok (.iload_n 1, 1) := by decide +kernel
theorem dX6_count_1 : decode cX6_count 1 = .ok (.tableswitch 89 0 5 #[39, 48, 57, 66, 75, 80], 39) := by decide +kernel
theorem dX6_count_40 : decode cX6_count 40 = .ok (.aload_n 0, 1) := by decide +kernel
theorem dX6_count_41 : decode cX6_count 41 = .ok (.getfield 12, 3) := by decide +kernel
theorem dX6_count_44 : decode cX6_count 44 = .ok (.invokevirtual 264, 3) := by decide +kernel
theorem dX6_count_47 : decode cX6_count 47 = .ok (.i2l, 1) := by decide +kernel
theorem dX6_count_48 : decode cX6_count 48 = .ok (.lreturn, 1) := by decide +kernel
theorem dX6_count_49 : decode cX6_count 49 = .ok (.aload_n 0, 1) := by decide +kernel
theorem dX6_count_50 : decode cX6_count 50 = .ok (.getfield 47, 3) := by decide +kernel
theorem dX6_count_53 : decode cX6_count 53 = .ok (.getfield 145, 3) := by decide +kernel
theorem dX6_count_56 : decode cX6_count 56 = .ok (.i2l, 1) := by decide +kernel
theorem dX6_count_57 : decode cX6_count 57 = .ok (.lreturn, 1) := by decide +kernel
theorem dX6_count_58 : decode cX6_count 58 = .ok (.aload_n 0, 1) := by decide +kernel
theorem dX6_count_59 : decode cX6_count 59 = .ok (.getfield 47, 3) := by decide +kernel
theorem dX6_count_62 : decode cX6_count 62 = .ok (.getfield 203, 3) := by decide +kernel
theorem dX6_count_65 : decode cX6_count 65 = .ok (.i2l, 1) := by decide +kernel
theorem dX6_count_66 : decode cX6_count 66 = .ok (.lreturn, 1) := by decide +kernel
theorem dX6_count_67 : decode cX6_count 67 = .ok (.aload_n 0, 1) := by decide +kernel
theorem dX6_count_68 : decode cX6_count 68 = .ok (.getfield 47, 3) := by decide +kernel
theorem dX6_count_71 : decode cX6_count 71 = .ok (.invokevirtual 267, 3) := by decide +kernel
theorem dX6_count_74 : decode cX6_count 74 = .ok (.i2l, 1) := by decide +kernel
theorem dX6_count_75 : decode cX6_count 75 = .ok (.lreturn, 1) := by decide +kernel
theorem dX6_count_76 : decode cX6_count 76 = .ok (.aload_n 0, 1) := by decide +kernel
theorem dX6_count_77 : decode cX6_count 77 = .ok (.invokevirtual 270, 3) := by decide +kernel
theorem dX6_count_80 : decode cX6_count 80 = .ok (.lreturn, 1) := by decide +kernel
theorem dX6_count_81 : decode cX6_count 81 = .ok (.aload_n 0, 1) := by decide +kernel
theorem dX6_count_82 : decode cX6_count 82 = .ok (.getfield 19, 3) := by decide +kernel
theorem dX6_count_85 : decode cX6_count 85 = .ok (.getfield 273, 3) := by decide +kernel
theorem dX6_count_88 : decode cX6_count 88 = .ok (.i2l, 1) := by decide +kernel
theorem dX6_count_89 : decode cX6_count 89 = .ok (.lreturn, 1) := by decide +kernel
theorem dX6_count_90 : decode cX6_count 90 = .ok (.ldc2_w 80, 3) := by decide +kernel
theorem dX6_count_93 : decode cX6_count 93 = .ok (.lreturn, 1) := by decide +kernel
theorem dX6_status_0 : decode cX6_status 0 = .ok (.aload_n 0, 1) := by decide +kernel
theorem dX6_status_1 : decode cX6_status 1 = .ok (.getfield 69, 3) := by decide +kernel
theorem dX6_status_4 : decode cX6_status 4 = .ok (.ireturn, 1) := by decide +kernel
theorem dX6_found_0 : decode cX6_found 0 = .ok (.aload_n 0, 1) := by decide +kernel
theorem dX6_found_1 : decode cX6_found 1 = .ok (.iload_n 1, 1) := by decide +kernel
theorem dX6_found_2 : decode cX6_found 2 = .ok (.putfield 69, 3) := by decide +kernel
theorem dX6_found_5 : decode cX6_found 5 = .ok (.ldc2_w 276, 3) := by decide +kernel
theorem dX6_found_8 : decode cX6_found 8 = .ok (.iload_n 1, 1) := by decide +kernel
theorem dX6_found_9 : decode cX6_found 9 = .ok (.i2l, 1) := by decide +kernel
theorem dX6_found_10 : decode cX6_found 10 = .ok (.lsub, 1) := by decide +kernel
theorem dX6_found_11 : decode cX6_found 11 = .ok (.lreturn, 1) := by decide +kernel
theorem dX6_fine_0 : decode cX6_fine 0 = .ok (.aload_n 0, 1) := by decide +kernel
theorem dX6_fine_1 : decode cX6_fine 1 = .ok (.iconst 0, 1) := by decide +kernel
theorem dX6_fine_2 : decode cX6_fine 2 = .ok (.putfield 69, 3) := by decide +kernel
theorem dX6_fine_5 : decode cX6_fine 5 = .ok (.lload_n 1, 1) := by decide +kernel
theorem dX6_fine_6 : decode cX6_fine 6 = .ok (.lreturn, 1) := by decide +kernel
theorem dX6_findingAt_0 : decode cX6_findingAt 0 = .ok (.aload_n 0, 1) := by decide +kernel
theorem dX6_findingAt_1 : decode cX6_findingAt 1 = .ok (.getfield 12, 3) := by decide +kernel
theorem dX6_findingAt_4 : decode cX6_findingAt 4 = .ok (.iload_n 1, 1) := by decide +kernel
theorem dX6_findingAt_5 : decode cX6_findingAt 5 = .ok (.invokevirtual 94, 3) := by decide +kernel
theorem dX6_findingAt_8 : decode cX6_findingAt 8 = .ok (.ifCond .eq 5, 3) := by decide +kernel
theorem dX6_findingAt_11 : decode cX6_findingAt 11 = .ok (.iconst 1, 1) := by decide +kernel
theorem dX6_findingAt_12 : decode cX6_findingAt 12 = .ok (.ireturn, 1) := by decide +kernel
theorem dX6_findingAt_13 : decode cX6_findingAt 13 = .ok (.aload_n 0, 1) := by decide +kernel
theorem dX6_findingAt_14 : decode cX6_findingAt 14 = .ok (.getfield 12, 3) := by decide +kernel
theorem dX6_findingAt_17 : decode cX6_findingAt 17 = .ok (.iload_n 1, 1) := by decide +kernel
theorem dX6_findingAt_18 : decode cX6_findingAt 18 = .ok (.iload_n 2, 1) := by decide +kernel
theorem dX6_findingAt_19 : decode cX6_findingAt 19 = .ok (.iload_n 3, 1) := by decide +kernel
theorem dX6_findingAt_20 : decode cX6_findingAt 20 = .ok (.invokevirtual 97, 3) := by decide +kernel
theorem dX6_findingAt_23 : decode cX6_findingAt 23 = .ok (.ifCond .eq 7, 3) := by decide +kernel
theorem dX6_findingAt_26 : decode cX6_findingAt 26 = .ok (.iconst 0, 1) := by decide +kernel
theorem dX6_findingAt_27 : decode cX6_findingAt 27 = .ok (.goto 4, 3) := by decide +kernel
theorem dX6_findingAt_30 : decode cX6_findingAt 30 = .ok (.iconst 2, 1) := by decide +kernel
theorem dX6_findingAt_31 : decode cX6_findingAt 31 = .ok (.ireturn, 1) := by decide +kernel
theorem dX6_keepAhead_0 : decode cX6_keepAhead 0 = .ok (.aload_n 0, 1) := by decide +kernel
theorem dX6_keepAhead_1 : decode cX6_keepAhead 1 = .ok (.getfield 51, 3) := by decide +kernel
theorem dX6_keepAhead_4 : decode cX6_keepAhead 4 = .ok (.aload_n 0, 1) := by decide +kernel
theorem dX6_keepAhead_5 : decode cX6_keepAhead 5 = .ok (.getfield 47, 3) := by decide +kernel
theorem dX6_keepAhead_8 : decode cX6_keepAhead 8 = .ok (.invokevirtual 142, 3) := by decide +kernel
theorem dX6_keepAhead_11 : decode cX6_keepAhead 11 = .ok (.aload_n 0, 1) := by decide +kernel
theorem dX6_keepAhead_12 : decode cX6_keepAhead 12 = .ok (.iconst 1, 1) := by decide +kernel
theorem dX6_keepAhead_13 : decode cX6_keepAhead 13 = .ok (.putfield 65, 3) := by decide +kernel
theorem dX6_keepAhead_16 : decode cX6_keepAhead 16 = .ok (.return_, 1) := by decide +kernel
theorem dX6_part_0 : decode cX6_part 0 = .ok (.lload_n 0, 1) := by decide +kernel
theorem dX6_part_1 : decode cX6_part 1 = .ok (.lload_n 2, 1) := by decide +kernel
theorem dX6_part_2 : decode cX6_part 2 = .ok (.invokestatic 278, 3) := by decide +kernel
theorem dX6_part_5 : decode cX6_part 5 = .ok (.lstore 5, 2) := by decide +kernel
theorem dX6_part_7 : decode cX6_part 7 = .ok (.iload 4, 2) := by decide +kernel
theorem dX6_part_9 : decode cX6_part 9 = .ok (.ifCond .ne 7, 3) := by decide +kernel
theorem dX6_part_12 : decode cX6_part 12 = .ok (.lload_n 0, 1) := by decide +kernel
theorem dX6_part_13 : decode cX6_part 13 = .ok (.goto 4, 3) := by decide +kernel
theorem dX6_part_16 : decode cX6_part 16 = .ok (.lload_n 2, 1) := by decide +kernel
theorem dX6_part_17 : decode cX6_part 17 = .ok (.lstore 7, 2) := by decide +kernel
theorem dX6_part_19 : decode cX6_part 19 = .ok (.lload 5, 2) := by decide +kernel
theorem dX6_part_21 : decode cX6_part 21 = .ok (.lconst 1, 1) := by decide +kernel
theorem dX6_part_22 : decode cX6_part 22 = .ok (.lcmp, 1) := by decide +kernel
theorem dX6_part_23 : decode cX6_part 23 = .ok (.ifCond .le 11, 3) := by decide +kernel
theorem dX6_part_26 : decode cX6_part 26 = .ok (.lload 7, 2) := by decide +kernel
theorem dX6_part_28 : decode cX6_part 28 = .ok (.lload 5, 2) := by decide +kernel
theorem dX6_part_30 : decode cX6_part 30 = .ok (.ldiv, 1) := by decide +kernel
theorem dX6_part_31 : decode cX6_part 31 = .ok (.goto 5, 3) := by decide +kernel
theorem dX6_part_34 : decode cX6_part 34 = .ok (.lload 7, 2) := by decide +kernel
theorem dX6_part_36 : decode cX6_part 36 = .ok (.lreturn, 1) := by decide +kernel
theorem dX6_commonDivisor_0 : decode cX6_commonDivisor 0 = .ok (.lload_n 0, 1) := by decide +kernel
theorem dX6_commonDivisor_1 : decode cX6_commonDivisor 1 = .ok (.lstore 4, 2) := by decide +kernel
theorem dX6_commonDivisor_3 : decode cX6_commonDivisor 3 = .ok (.lload_n 2, 1) := by decide +kernel
theorem dX6_commonDivisor_4 : decode cX6_commonDivisor 4 = .ok (.lstore 6, 2) := by decide +kernel
theorem dX6_commonDivisor_6 : decode cX6_commonDivisor 6 = .ok (.iconst 0, 1) := by decide +kernel
theorem dX6_commonDivisor_7 : decode cX6_commonDivisor 7 = .ok (.istore 8, 2) := by decide +kernel
theorem dX6_commonDivisor_9 : decode cX6_commonDivisor 9 = .ok (.iload 8, 2) := by decide +kernel
theorem dX6_commonDivisor_11 : decode cX6_commonDivisor 11 = .ok (.sipush 200, 3) := by decide +kernel
theorem dX6_commonDivisor_14 : decode cX6_commonDivisor 14 = .ok (.if_icmp .ge 31, 3) := by decide +kernel
theorem dX6_commonDivisor_17 : decode cX6_commonDivisor 17 = .ok (.lload 6, 2) := by decide +kernel
theorem dX6_commonDivisor_19 : decode cX6_commonDivisor 19 = .ok (.lconst 0, 1) := by decide +kernel
theorem dX6_commonDivisor_20 : decode cX6_commonDivisor 20 = .ok (.lcmp, 1) := by decide +kernel
theorem dX6_commonDivisor_21 : decode cX6_commonDivisor 21 = .ok (.ifCond .eq 24, 3) := by decide +kernel
theorem dX6_commonDivisor_24 : decode cX6_commonDivisor 24 = .ok (.lload 4, 2) := by decide +kernel
theorem dX6_commonDivisor_26 : decode cX6_commonDivisor 26 = .ok (.lload 6, 2) := by decide +kernel
theorem dX6_commonDivisor_28 : decode cX6_commonDivisor 28 = .ok (.lrem, 1) := by decide +kernel
theorem dX6_commonDivisor_29 : decode cX6_commonDivisor 29 = .ok (.lstore 9, 2) := by decide +kernel
theorem dX6_commonDivisor_31 : decode cX6_commonDivisor 31 = .ok (.lload 6, 2) := by decide +kernel
theorem dX6_commonDivisor_33 : decode cX6_commonDivisor 33 = .ok (.lstore 4, 2) := by decide +kernel
theorem dX6_commonDivisor_35 : decode cX6_commonDivisor 35 = .ok (.lload 9, 2) := by decide +kernel
theorem dX6_commonDivisor_37 : decode cX6_commonDivisor 37 = .ok (.lstore 6, 2) := by decide +kernel
theorem dX6_commonDivisor_39 : decode cX6_commonDivisor 39 = .ok (.iinc 8 1, 3) := by decide +kernel
theorem dX6_commonDivisor_42 : decode cX6_commonDivisor 42 = .ok (.goto (-33), 3) := by decide +kernel
theorem dX6_commonDivisor_45 : decode cX6_commonDivisor 45 = .ok (.lload 4, 2) := by decide +kernel
theorem dX6_commonDivisor_47 : decode cX6_commonDivisor 47 = .ok (.lreturn, 1) := by decide +kernel
theorem dX6_leastRing_0 : decode cX6_leastRing 0 = .ok (.iconst 0, 1) := by decide +kernel
theorem dX6_leastRing_1 : decode cX6_leastRing 1 = .ok (.istore_n 1, 1) := by decide +kernel
theorem dX6_leastRing_2 : decode cX6_leastRing 2 = .ok (.iload_n 1, 1) := by decide +kernel
theorem dX6_leastRing_3 : decode cX6_leastRing 3 = .ok (.getstatic 282, 3) := by decide +kernel
theorem dX6_leastRing_6 : decode cX6_leastRing 6 = .ok (.arraylength, 1) := by decide +kernel
theorem dX6_leastRing_7 : decode cX6_leastRing 7 = .ok (.if_icmp .ge 28, 3) := by decide +kernel
theorem dX6_leastRing_10 : decode cX6_leastRing 10 = .ok (.aload_n 0, 1) := by decide +kernel
theorem dX6_leastRing_11 : decode cX6_leastRing 11 = .ok (.getstatic 282, 3) := by decide +kernel
theorem dX6_leastRing_14 : decode cX6_leastRing 14 = .ok (.iload_n 1, 1) := by decide +kernel
theorem dX6_leastRing_15 : decode cX6_leastRing 15 = .ok (.iaload, 1) := by decide +kernel
theorem dX6_leastRing_16 : decode cX6_leastRing 16 = .ok (.invokevirtual 285, 3) := by decide +kernel
theorem dX6_leastRing_19 : decode cX6_leastRing 19 = .ok (.ifCond .eq 10, 3) := by decide +kernel
theorem dX6_leastRing_22 : decode cX6_leastRing 22 = .ok (.getstatic 282, 3) := by decide +kernel
theorem dX6_leastRing_25 : decode cX6_leastRing 25 = .ok (.iload_n 1, 1) := by decide +kernel
theorem dX6_leastRing_26 : decode cX6_leastRing 26 = .ok (.iaload, 1) := by decide +kernel
theorem dX6_leastRing_27 : decode cX6_leastRing 27 = .ok (.i2l, 1) := by decide +kernel
theorem dX6_leastRing_28 : decode cX6_leastRing 28 = .ok (.lreturn, 1) := by decide +kernel
theorem dX6_leastRing_29 : decode cX6_leastRing 29 = .ok (.iinc 1 1, 3) := by decide +kernel
theorem dX6_leastRing_32 : decode cX6_leastRing 32 = .ok (.goto (-30), 3) := by decide +kernel
theorem dX6_leastRing_35 : decode cX6_leastRing 35 = .ok (.lconst 0, 1) := by decide +kernel
theorem dX6_leastRing_36 : decode cX6_leastRing 36 = .ok (.lreturn, 1) := by decide +kernel
theorem dX6_makesMore_0 : decode cX6_makesMore 0 = .ok (.iload_n 1, 1) := by decide +kernel
theorem dX6_makesMore_1 : decode cX6_makesMore 1 = .ok (.bipush 64, 2) := by decide +kernel
theorem dX6_makesMore_3 : decode cX6_makesMore 3 = .ok (.if_icmp .ge 7, 3) := by decide +kernel
theorem dX6_makesMore_6 : decode cX6_makesMore 6 = .ok (.iconst 2, 1) := by decide +kernel
theorem dX6_makesMore_7 : decode cX6_makesMore 7 = .ok (.goto 4, 3) := by decide +kernel
theorem dX6_makesMore_10 : decode cX6_makesMore 10 = .ok (.iconst 3, 1) := by decide +kernel
theorem dX6_makesMore_11 : decode cX6_makesMore 11 = .ok (.istore_n 2, 1) := by decide +kernel
theorem dX6_makesMore_12 : decode cX6_makesMore 12 = .ok (.lconst 1, 1) := by decide +kernel
theorem dX6_makesMore_13 : decode cX6_makesMore 13 = .ok (.lstore_n 3, 1) := by decide +kernel
theorem dX6_makesMore_14 : decode cX6_makesMore 14 = .ok (.lconst 1, 1) := by decide +kernel
theorem dX6_makesMore_15 : decode cX6_makesMore 15 = .ok (.lstore 5, 2) := by decide +kernel
theorem dX6_makesMore_17 : decode cX6_makesMore 17 = .ok (.iconst 0, 1) := by decide +kernel
theorem dX6_makesMore_18 : decode cX6_makesMore 18 = .ok (.istore 7, 2) := by decide +kernel
theorem dX6_makesMore_20 : decode cX6_makesMore 20 = .ok (.iload 7, 2) := by decide +kernel
theorem dX6_makesMore_22 : decode cX6_makesMore 22 = .ok (.iload_n 2, 1) := by decide +kernel
theorem dX6_makesMore_23 : decode cX6_makesMore 23 = .ok (.if_icmp .ge 118, 3) := by decide +kernel
theorem dX6_makesMore_26 : decode cX6_makesMore 26 = .ok (.iload_n 1, 1) := by decide +kernel
theorem dX6_makesMore_27 : decode cX6_makesMore 27 = .ok (.iload 7, 2) := by decide +kernel
theorem dX6_makesMore_29 : decode cX6_makesMore 29 = .ok (.invokestatic 288, 3) := by decide +kernel
theorem dX6_makesMore_32 : decode cX6_makesMore 32 = .ok (.istore 8, 2) := by decide +kernel
theorem dX6_makesMore_34 : decode cX6_makesMore 34 = .ok (.iload_n 1, 1) := by decide +kernel
theorem dX6_makesMore_35 : decode cX6_makesMore 35 = .ok (.iload 7, 2) := by decide +kernel
theorem dX6_makesMore_37 : decode cX6_makesMore 37 = .ok (.iconst 1, 1) := by decide +kernel
theorem dX6_makesMore_38 : decode cX6_makesMore 38 = .ok (.iadd, 1) := by decide +kernel
theorem dX6_makesMore_39 : decode cX6_makesMore 39 = .ok (.iload_n 2, 1) := by decide +kernel
theorem dX6_makesMore_40 : decode cX6_makesMore 40 = .ok (.if_icmp .ge 10, 3) := by decide +kernel
theorem dX6_makesMore_43 : decode cX6_makesMore 43 = .ok (.iload 7, 2) := by decide +kernel
theorem dX6_makesMore_45 : decode cX6_makesMore 45 = .ok (.iconst 1, 1) := by decide +kernel
theorem dX6_makesMore_46 : decode cX6_makesMore 46 = .ok (.iadd, 1) := by decide +kernel
theorem dX6_makesMore_47 : decode cX6_makesMore 47 = .ok (.goto 4, 3) := by decide +kernel
theorem dX6_makesMore_50 : decode cX6_makesMore 50 = .ok (.iconst 0, 1) := by decide +kernel
theorem dX6_makesMore_51 : decode cX6_makesMore 51 = .ok (.invokestatic 288, 3) := by decide +kernel
theorem dX6_makesMore_54 : decode cX6_makesMore 54 = .ok (.istore 9, 2) := by decide +kernel
theorem dX6_makesMore_56 : decode cX6_makesMore 56 = .ok (.aload_n 0, 1) := by decide +kernel
theorem dX6_makesMore_57 : decode cX6_makesMore 57 = .ok (.getfield 47, 3) := by decide +kernel
theorem dX6_makesMore_60 : decode cX6_makesMore 60 = .ok (.iload 8, 2) := by decide +kernel
theorem dX6_makesMore_62 : decode cX6_makesMore 62 = .ok (.invokevirtual 151, 3) := by decide +kernel
theorem dX6_makesMore_65 : decode cX6_makesMore 65 = .ok (.ifCond .eq 15, 3) := by decide +kernel
theorem dX6_makesMore_68 : decode cX6_makesMore 68 = .ok (.aload_n 0, 1) := by decide +kernel
theorem dX6_makesMore_69 : decode cX6_makesMore 69 = .ok (.getfield 47, 3) := by decide +kernel
theorem dX6_makesMore_72 : decode cX6_makesMore 72 = .ok (.iload 9, 2) := by decide +kernel
theorem dX6_makesMore_74 : decode cX6_makesMore 74 = .ok (.invokevirtual 151, 3) := by decide +kernel
theorem dX6_makesMore_77 : decode cX6_makesMore 77 = .ok (.ifCond .ne 5, 3) := by decide +kernel
theorem dX6_makesMore_80 : decode cX6_makesMore 80 = .ok (.iconst 0, 1) := by decide +kernel
theorem dX6_makesMore_81 : decode cX6_makesMore 81 = .ok (.ireturn, 1) := by decide +kernel
theorem dX6_makesMore_82 : decode cX6_makesMore 82 = .ok (.aload_n 0, 1) := by decide +kernel
theorem dX6_makesMore_83 : decode cX6_makesMore 83 = .ok (.iload 8, 2) := by decide +kernel
theorem dX6_makesMore_85 : decode cX6_makesMore 85 = .ok (.iload 9, 2) := by decide +kernel
theorem dX6_makesMore_87 : decode cX6_makesMore 87 = .ok (.invokevirtual 291, 3) := by decide +kernel
theorem dX6_makesMore_90 : decode cX6_makesMore 90 = .ok (.istore 10, 2) := by decide +kernel
theorem dX6_makesMore_92 : decode cX6_makesMore 92 = .ok (.iload 10, 2) := by decide +kernel
theorem dX6_makesMore_94 : decode cX6_makesMore 94 = .ok (.ifCond .ge 5, 3) := by decide +kernel
theorem dX6_makesMore_97 : decode cX6_makesMore 97 = .ok (.iconst 0, 1) := by decide +kernel
theorem dX6_makesMore_98 : decode cX6_makesMore 98 = .ok (.ireturn, 1) := by decide +kernel
theorem dX6_makesMore_99 : decode cX6_makesMore 99 = .ok (.lload_n 3, 1) := by decide +kernel
theorem dX6_makesMore_100 : decode cX6_makesMore 100 = .ok (.aload_n 0, 1) := by decide +kernel
theorem dX6_makesMore_101 : decode cX6_makesMore 101 = .ok (.getfield 47, 3) := by decide +kernel
theorem dX6_makesMore_104 : decode cX6_makesMore 104 = .ok (.getfield 157, 3) := by decide +kernel
theorem dX6_makesMore_107 : decode cX6_makesMore 107 = .ok (.iload 9, 2) := by decide +kernel
theorem dX6_makesMore_109 : decode cX6_makesMore 109 = .ok (.aaload, 1) := by decide +kernel
theorem dX6_makesMore_110 : decode cX6_makesMore 110 = .ok (.iload 10, 2) := by decide +kernel
theorem dX6_makesMore_112 : decode cX6_makesMore 112 = .ok (.iaload, 1) := by decide +kernel
theorem dX6_makesMore_113 : decode cX6_makesMore 113 = .ok (.i2l, 1) := by decide +kernel
theorem dX6_makesMore_114 : decode cX6_makesMore 114 = .ok (.lmul, 1) := by decide +kernel
theorem dX6_makesMore_115 : decode cX6_makesMore 115 = .ok (.lstore_n 3, 1) := by decide +kernel
theorem dX6_makesMore_116 : decode cX6_makesMore 116 = .ok (.lload 5, 2) := by decide +kernel
theorem dX6_makesMore_118 : decode cX6_makesMore 118 = .ok (.aload_n 0, 1) := by decide +kernel
theorem dX6_makesMore_119 : decode cX6_makesMore 119 = .ok (.getfield 47, 3) := by decide +kernel
theorem dX6_makesMore_122 : decode cX6_makesMore 122 = .ok (.getfield 157, 3) := by decide +kernel
theorem dX6_makesMore_125 : decode cX6_makesMore 125 = .ok (.iload 8, 2) := by decide +kernel
theorem dX6_makesMore_127 : decode cX6_makesMore 127 = .ok (.aaload, 1) := by decide +kernel
theorem dX6_makesMore_128 : decode cX6_makesMore 128 = .ok (.iload 10, 2) := by decide +kernel
theorem dX6_makesMore_130 : decode cX6_makesMore 130 = .ok (.iaload, 1) := by decide +kernel
theorem dX6_makesMore_131 : decode cX6_makesMore 131 = .ok (.i2l, 1) := by decide +kernel
theorem dX6_makesMore_132 : decode cX6_makesMore 132 = .ok (.lmul, 1) := by decide +kernel
theorem dX6_makesMore_133 : decode cX6_makesMore 133 = .ok (.lstore 5, 2) := by decide +kernel
theorem dX6_makesMore_135 : decode cX6_makesMore 135 = .ok (.iinc 7 1, 3) := by decide +kernel
theorem dX6_makesMore_138 : decode cX6_makesMore 138 = .ok (.goto (-118), 3) := by decide +kernel
theorem dX6_makesMore_141 : decode cX6_makesMore 141 = .ok (.lload_n 3, 1) := by decide +kernel
theorem dX6_makesMore_142 : decode cX6_makesMore 142 = .ok (.lload 5, 2) := by decide +kernel
theorem dX6_makesMore_144 : decode cX6_makesMore 144 = .ok (.lcmp, 1) := by decide +kernel
theorem dX6_makesMore_145 : decode cX6_makesMore 145 = .ok (.ifCond .ge 7, 3) := by decide +kernel
theorem dX6_makesMore_148 : decode cX6_makesMore 148 = .ok (.iconst 1, 1) := by decide +kernel
theorem dX6_makesMore_149 : decode cX6_makesMore 149 = .ok (.goto 4, 3) := by decide +kernel
theorem dX6_makesMore_152 : decode cX6_makesMore 152 = .ok (.iconst 0, 1) := by decide +kernel
theorem dX6_makesMore_153 : decode cX6_makesMore 153 = .ok (.ireturn, 1) := by decide +kernel
theorem dX6_landOfRing_0 : decode cX6_landOfRing 0 = .ok (.iload_n 0, 1) := by decide +kernel
theorem dX6_landOfRing_1 : decode cX6_landOfRing 1 = .ok (.iconst 3, 1) := by decide +kernel
theorem dX6_landOfRing_2 : decode cX6_landOfRing 2 = .ok (.iload_n 1, 1) := by decide +kernel
theorem dX6_landOfRing_3 : decode cX6_landOfRing 3 = .ok (.imul, 1) := by decide +kernel
theorem dX6_landOfRing_4 : decode cX6_landOfRing 4 = .ok (.ishr, 1) := by decide +kernel
theorem dX6_landOfRing_5 : decode cX6_landOfRing 5 = .ok (.bipush 7, 2) := by decide +kernel
theorem dX6_landOfRing_7 : decode cX6_landOfRing 7 = .ok (.iand, 1) := by decide +kernel
theorem dX6_landOfRing_8 : decode cX6_landOfRing 8 = .ok (.iconst 1, 1) := by decide +kernel
theorem dX6_landOfRing_9 : decode cX6_landOfRing 9 = .ok (.isub, 1) := by decide +kernel
theorem dX6_landOfRing_10 : decode cX6_landOfRing 10 = .ok (.ireturn, 1) := by decide +kernel
theorem dX6_bestGift_0 : decode cX6_bestGift 0 = .ok (.iconst (-1), 1) := by decide +kernel
theorem dX6_bestGift_1 : decode cX6_bestGift 1 = .ok (.istore_n 3, 1) := by decide +kernel
theorem dX6_bestGift_2 : decode cX6_bestGift 2 = .ok (.iconst 0, 1) := by decide +kernel
theorem dX6_bestGift_3 : decode cX6_bestGift 3 = .ok (.istore 4, 2) := by decide +kernel
theorem dX6_bestGift_5 : decode cX6_bestGift 5 = .ok (.iload 4, 2) := by decide +kernel
theorem dX6_bestGift_7 : decode cX6_bestGift 7 = .ok (.aload_n 0, 1) := by decide +kernel
theorem dX6_bestGift_8 : decode cX6_bestGift 8 = .ok (.getfield 47, 3) := by decide +kernel
theorem dX6_bestGift_11 : decode cX6_bestGift 11 = .ok (.getfield 203, 3) := by decide +kernel
theorem dX6_bestGift_14 : decode cX6_bestGift 14 = .ok (.if_icmp .ge 84, 3) := by decide +kernel
theorem dX6_bestGift_17 : decode cX6_bestGift 17 = .ok (.aload_n 0, 1) := by decide +kernel
theorem dX6_bestGift_18 : decode cX6_bestGift 18 = .ok (.getfield 61, 3) := by decide +kernel
theorem dX6_bestGift_21 : decode cX6_bestGift 21 = .ok (.iload 4, 2) := by decide +kernel
theorem dX6_bestGift_23 : decode cX6_bestGift 23 = .ok (.iaload, 1) := by decide +kernel
theorem dX6_bestGift_24 : decode cX6_bestGift 24 = .ok (.iload_n 1, 1) := by decide +kernel
theorem dX6_bestGift_25 : decode cX6_bestGift 25 = .ok (.ishr, 1) := by decide +kernel
theorem dX6_bestGift_26 : decode cX6_bestGift 26 = .ok (.iconst 1, 1) := by decide +kernel
theorem dX6_bestGift_27 : decode cX6_bestGift 27 = .ok (.iand, 1) := by decide +kernel
theorem dX6_bestGift_28 : decode cX6_bestGift 28 = .ok (.ifCond .ne 6, 3) := by decide +kernel
theorem dX6_bestGift_31 : decode cX6_bestGift 31 = .ok (.goto 61, 3) := by decide +kernel
theorem dX6_bestGift_34 : decode cX6_bestGift 34 = .ok (.iload_n 3, 1) := by decide +kernel
theorem dX6_bestGift_35 : decode cX6_bestGift 35 = .ok (.ifCond .lt 54, 3) := by decide +kernel
theorem dX6_bestGift_38 : decode cX6_bestGift 38 = .ok (.aload_n 0, 1) := by decide +kernel
theorem dX6_bestGift_39 : decode cX6_bestGift 39 = .ok (.getfield 47, 3) := by decide +kernel
theorem dX6_bestGift_42 : decode cX6_bestGift 42 = .ok (.getfield 157, 3) := by decide +kernel
theorem dX6_bestGift_45 : decode cX6_bestGift 45 = .ok (.iload_n 2, 1) := by decide +kernel
theorem dX6_bestGift_46 : decode cX6_bestGift 46 = .ok (.aaload, 1) := by decide +kernel
theorem dX6_bestGift_47 : decode cX6_bestGift 47 = .ok (.iload 4, 2) := by decide +kernel
theorem dX6_bestGift_49 : decode cX6_bestGift 49 = .ok (.iaload, 1) := by decide +kernel
theorem dX6_bestGift_50 : decode cX6_bestGift 50 = .ok (.aload_n 0, 1) := by decide +kernel
theorem dX6_bestGift_51 : decode cX6_bestGift 51 = .ok (.getfield 47, 3) := by decide +kernel
theorem dX6_bestGift_54 : decode cX6_bestGift 54 = .ok (.getfield 157, 3) := by decide +kernel
theorem dX6_bestGift_57 : decode cX6_bestGift 57 = .ok (.iload_n 1, 1) := by decide +kernel
theorem dX6_bestGift_58 : decode cX6_bestGift 58 = .ok (.aaload, 1) := by decide +kernel
theorem dX6_bestGift_59 : decode cX6_bestGift 59 = .ok (.iload_n 3, 1) := by decide +kernel
theorem dX6_bestGift_60 : decode cX6_bestGift 60 = .ok (.iaload, 1) := by decide +kernel
theorem dX6_bestGift_61 : decode cX6_bestGift 61 = .ok (.imul, 1) := by decide +kernel
theorem dX6_bestGift_62 : decode cX6_bestGift 62 = .ok (.aload_n 0, 1) := by decide +kernel
theorem dX6_bestGift_63 : decode cX6_bestGift 63 = .ok (.getfield 47, 3) := by decide +kernel
theorem dX6_bestGift_66 : decode cX6_bestGift 66 = .ok (.getfield 157, 3) := by decide +kernel
theorem dX6_bestGift_69 : decode cX6_bestGift 69 = .ok (.iload_n 2, 1) := by decide +kernel
theorem dX6_bestGift_70 : decode cX6_bestGift 70 = .ok (.aaload, 1) := by decide +kernel
theorem dX6_bestGift_71 : decode cX6_bestGift 71 = .ok (.iload_n 3, 1) := by decide +kernel
theorem dX6_bestGift_72 : decode cX6_bestGift 72 = .ok (.iaload, 1) := by decide +kernel
theorem dX6_bestGift_73 : decode cX6_bestGift 73 = .ok (.aload_n 0, 1) := by decide +kernel
theorem dX6_bestGift_74 : decode cX6_bestGift 74 = .ok (.getfield 47, 3) := by decide +kernel
theorem dX6_bestGift_77 : decode cX6_bestGift 77 = .ok (.getfield 157, 3) := by decide +kernel
theorem dX6_bestGift_80 : decode cX6_bestGift 80 = .ok (.iload_n 1, 1) := by decide +kernel
theorem dX6_bestGift_81 : decode cX6_bestGift 81 = .ok (.aaload, 1) := by decide +kernel
theorem dX6_bestGift_82 : decode cX6_bestGift 82 = .ok (.iload 4, 2) := by decide +kernel
theorem dX6_bestGift_84 : decode cX6_bestGift 84 = .ok (.iaload, 1) := by decide +kernel
theorem dX6_bestGift_85 : decode cX6_bestGift 85 = .ok (.imul, 1) := by decide +kernel
theorem dX6_bestGift_86 : decode cX6_bestGift 86 = .ok (.if_icmp .ge 6, 3) := by decide +kernel
theorem dX6_bestGift_89 : decode cX6_bestGift 89 = .ok (.iload 4, 2) := by decide +kernel
theorem dX6_bestGift_91 : decode cX6_bestGift 91 = .ok (.istore_n 3, 1) := by decide +kernel
theorem dX6_bestGift_92 : decode cX6_bestGift 92 = .ok (.iinc 4 1, 3) := by decide +kernel
theorem dX6_bestGift_95 : decode cX6_bestGift 95 = .ok (.goto (-90), 3) := by decide +kernel
theorem dX6_bestGift_98 : decode cX6_bestGift 98 = .ok (.iload_n 3, 1) := by decide +kernel
theorem dX6_bestGift_99 : decode cX6_bestGift 99 = .ok (.ireturn, 1) := by decide +kernel
theorem dX6_makersChange_0 : decode cX6_makersChange 0 = .ok (.aload_n 0, 1) := by decide +kernel
theorem dX6_makersChange_1 : decode cX6_makersChange 1 = .ok (.getfield 47, 3) := by decide +kernel
theorem dX6_makersChange_4 : decode cX6_makersChange 4 = .ok (.getfield 157, 3) := by decide +kernel
theorem dX6_makersChange_7 : decode cX6_makersChange 7 = .ok (.iload_n 1, 1) := by decide +kernel
theorem dX6_makersChange_8 : decode cX6_makersChange 8 = .ok (.aaload, 1) := by decide +kernel
theorem dX6_makersChange_9 : decode cX6_makersChange 9 = .ok (.iload_n 2, 1) := by decide +kernel
theorem dX6_makersChange_10 : decode cX6_makersChange 10 = .ok (.iaload, 1) := by decide +kernel
theorem dX6_makersChange_11 : decode cX6_makersChange 11 = .ok (.iload_n 3, 1) := by decide +kernel
theorem dX6_makersChange_12 : decode cX6_makersChange 12 = .ok (.iadd, 1) := by decide +kernel
theorem dX6_makersChange_13 : decode cX6_makersChange 13 = .ok (.istore 4, 2) := by decide +kernel
theorem dX6_makersChange_15 : decode cX6_makersChange 15 = .ok (.iload 4, 2) := by decide +kernel
theorem dX6_makersChange_17 : decode cX6_makersChange 17 = .ok (.iconst 1, 1) := by decide +kernel
theorem dX6_makersChange_18 : decode cX6_makersChange 18 = .ok (.if_icmp .lt 10, 3) := by decide +kernel
theorem dX6_makersChange_21 : decode cX6_makersChange 21 = .ok (.iload 4, 2) := by decide +kernel
theorem dX6_makersChange_23 : decode cX6_makersChange 23 = .ok (.bipush 20, 2) := by decide +kernel
theorem dX6_makersChange_25 : decode cX6_makersChange 25 = .ok (.if_icmp .le 5, 3) := by decide +kernel
theorem dX6_makersChange_28 : decode cX6_makersChange 28 = .ok (.iconst 0, 1) := by decide +kernel
theorem dX6_makersChange_29 : decode cX6_makersChange 29 = .ok (.ireturn, 1) := by decide +kernel
theorem dX6_makersChange_30 : decode cX6_makersChange 30 = .ok (.aload_n 0, 1) := by decide +kernel
theorem dX6_makersChange_31 : decode cX6_makersChange 31 = .ok (.getfield 54, 3) := by decide +kernel
theorem dX6_makersChange_34 : decode cX6_makersChange 34 = .ok (.aload_n 0, 1) := by decide +kernel
theorem dX6_makersChange_35 : decode cX6_makersChange 35 = .ok (.getfield 47, 3) := by decide +kernel
theorem dX6_makersChange_38 : decode cX6_makersChange 38 = .ok (.invokevirtual 142, 3) := by decide +kernel
theorem dX6_makersChange_41 : decode cX6_makersChange 41 = .ok (.aload_n 0, 1) := by decide +kernel
theorem dX6_makersChange_42 : decode cX6_makersChange 42 = .ok (.getfield 54, 3) := by decide +kernel
theorem dX6_makersChange_45 : decode cX6_makersChange 45 = .ok (.getfield 157, 3) := by decide +kernel
theorem dX6_makersChange_48 : decode cX6_makersChange 48 = .ok (.iload_n 1, 1) := by decide +kernel
theorem dX6_makersChange_49 : decode cX6_makersChange 49 = .ok (.aaload, 1) := by decide +kernel
theorem dX6_makersChange_50 : decode cX6_makersChange 50 = .ok (.iload_n 2, 1) := by decide +kernel
theorem dX6_makersChange_51 : decode cX6_makersChange 51 = .ok (.iload 4, 2) := by decide +kernel
theorem dX6_makersChange_53 : decode cX6_makersChange 53 = .ok (.iastore, 1) := by decide +kernel
theorem dX6_makersChange_54 : decode cX6_makersChange 54 = .ok (.aload_n 0, 1) := by decide +kernel
theorem dX6_makersChange_55 : decode cX6_makersChange 55 = .ok (.getfield 33, 3) := by decide +kernel
theorem dX6_makersChange_58 : decode cX6_makersChange 58 = .ok (.aload_n 0, 1) := by decide +kernel
theorem dX6_makersChange_59 : decode cX6_makersChange 59 = .ok (.getfield 54, 3) := by decide +kernel
theorem dX6_makersChange_62 : decode cX6_makersChange 62 = .ok (.invokevirtual 138, 3) := by decide +kernel
theorem dX6_makersChange_65 : decode cX6_makersChange 65 = .ok (.aload_n 0, 1) := by decide +kernel
theorem dX6_makersChange_66 : decode cX6_makersChange 66 = .ok (.getfield 54, 3) := by decide +kernel
theorem dX6_makersChange_69 : decode cX6_makersChange 69 = .ok (.aload_n 0, 1) := by decide +kernel
theorem dX6_makersChange_70 : decode cX6_makersChange 70 = .ok (.getfield 54, 3) := by decide +kernel
theorem dX6_makersChange_73 : decode cX6_makersChange 73 = .ok (.getfield 167, 3) := by decide +kernel
theorem dX6_makersChange_76 : decode cX6_makersChange 76 = .ok (.iload_n 2, 1) := by decide +kernel
theorem dX6_makersChange_77 : decode cX6_makersChange 77 = .ok (.invokevirtual 174, 3) := by decide +kernel
theorem dX6_makersChange_80 : decode cX6_makersChange 80 = .ok (.aload_n 0, 1) := by decide +kernel
theorem dX6_makersChange_81 : decode cX6_makersChange 81 = .ok (.getfield 47, 3) := by decide +kernel
theorem dX6_makersChange_84 : decode cX6_makersChange 84 = .ok (.aload_n 0, 1) := by decide +kernel
theorem dX6_makersChange_85 : decode cX6_makersChange 85 = .ok (.getfield 47, 3) := by decide +kernel
theorem dX6_makersChange_88 : decode cX6_makersChange 88 = .ok (.getfield 167, 3) := by decide +kernel
theorem dX6_makersChange_91 : decode cX6_makersChange 91 = .ok (.iload_n 2, 1) := by decide +kernel
theorem dX6_makersChange_92 : decode cX6_makersChange 92 = .ok (.invokevirtual 174, 3) := by decide +kernel
theorem dX6_makersChange_95 : decode cX6_makersChange 95 = .ok (.if_icmp .eq 7, 3) := by decide +kernel
theorem dX6_makersChange_98 : decode cX6_makersChange 98 = .ok (.iconst 1, 1) := by decide +kernel
theorem dX6_makersChange_99 : decode cX6_makersChange 99 = .ok (.goto 4, 3) := by decide +kernel
theorem dX6_makersChange_102 : decode cX6_makersChange 102 = .ok (.iconst 0, 1) := by decide +kernel
theorem dX6_makersChange_103 : decode cX6_makersChange 103 = .ok (.ireturn, 1) := by decide +kernel
theorem dX6_oneGoes_0 : decode cX6_oneGoes 0 = .ok (.iconst 0, 1) := by decide +kernel
theorem dX6_oneGoes_1 : decode cX6_oneGoes 1 = .ok (.istore_n 1, 1) := by decide +kernel
theorem dX6_oneGoes_2 : decode cX6_oneGoes 2 = .ok (.iconst 0, 1) := by decide +kernel
theorem dX6_oneGoes_3 : decode cX6_oneGoes 3 = .ok (.istore_n 2, 1) := by decide +kernel
theorem dX6_oneGoes_4 : decode cX6_oneGoes 4 = .ok (.iconst 1, 1) := by decide +kernel
theorem dX6_oneGoes_5 : decode cX6_oneGoes 5 = .ok (.istore_n 3, 1) := by decide +kernel
theorem dX6_oneGoes_6 : decode cX6_oneGoes 6 = .ok (.iload_n 3, 1) := by decide +kernel
theorem dX6_oneGoes_7 : decode cX6_oneGoes 7 = .ok (.aload_n 0, 1) := by decide +kernel
theorem dX6_oneGoes_8 : decode cX6_oneGoes 8 = .ok (.getfield 47, 3) := by decide +kernel
theorem dX6_oneGoes_11 : decode cX6_oneGoes 11 = .ok (.getfield 145, 3) := by decide +kernel
theorem dX6_oneGoes_14 : decode cX6_oneGoes 14 = .ok (.if_icmp .ge 57, 3) := by decide +kernel
theorem dX6_oneGoes_17 : decode cX6_oneGoes 17 = .ok (.aload_n 0, 1) := by decide +kernel
theorem dX6_oneGoes_18 : decode cX6_oneGoes 18 = .ok (.getfield 47, 3) := by decide +kernel
theorem dX6_oneGoes_21 : decode cX6_oneGoes 21 = .ok (.getfield 167, 3) := by decide +kernel
theorem dX6_oneGoes_24 : decode cX6_oneGoes 24 = .ok (.iload_n 3, 1) := by decide +kernel
theorem dX6_oneGoes_25 : decode cX6_oneGoes 25 = .ok (.laload, 1) := by decide +kernel
theorem dX6_oneGoes_26 : decode cX6_oneGoes 26 = .ok (.aload_n 0, 1) := by decide +kernel
theorem dX6_oneGoes_27 : decode cX6_oneGoes 27 = .ok (.getfield 47, 3) := by decide +kernel
theorem dX6_oneGoes_30 : decode cX6_oneGoes 30 = .ok (.getfield 167, 3) := by decide +kernel
theorem dX6_oneGoes_33 : decode cX6_oneGoes 33 = .ok (.iload_n 1, 1) := by decide +kernel
theorem dX6_oneGoes_34 : decode cX6_oneGoes 34 = .ok (.laload, 1) := by decide +kernel
theorem dX6_oneGoes_35 : decode cX6_oneGoes 35 = .ok (.lcmp, 1) := by decide +kernel
theorem dX6_oneGoes_36 : decode cX6_oneGoes 36 = .ok (.ifCond .ge 5, 3) := by decide +kernel
theorem dX6_oneGoes_39 : decode cX6_oneGoes 39 = .ok (.iload_n 3, 1) := by decide +kernel
theorem dX6_oneGoes_40 : decode cX6_oneGoes 40 = .ok (.istore_n 1, 1) := by decide +kernel
theorem dX6_oneGoes_41 : decode cX6_oneGoes 41 = .ok (.aload_n 0, 1) := by decide +kernel
theorem dX6_oneGoes_42 : decode cX6_oneGoes 42 = .ok (.getfield 47, 3) := by decide +kernel
theorem dX6_oneGoes_45 : decode cX6_oneGoes 45 = .ok (.getfield 167, 3) := by decide +kernel
theorem dX6_oneGoes_48 : decode cX6_oneGoes 48 = .ok (.iload_n 3, 1) := by decide +kernel
theorem dX6_oneGoes_49 : decode cX6_oneGoes 49 = .ok (.laload, 1) := by decide +kernel
theorem dX6_oneGoes_50 : decode cX6_oneGoes 50 = .ok (.aload_n 0, 1) := by decide +kernel
theorem dX6_oneGoes_51 : decode cX6_oneGoes 51 = .ok (.getfield 47, 3) := by decide +kernel
theorem dX6_oneGoes_54 : decode cX6_oneGoes 54 = .ok (.getfield 167, 3) := by decide +kernel
theorem dX6_oneGoes_57 : decode cX6_oneGoes 57 = .ok (.iload_n 2, 1) := by decide +kernel
theorem dX6_oneGoes_58 : decode cX6_oneGoes 58 = .ok (.laload, 1) := by decide +kernel
theorem dX6_oneGoes_59 : decode cX6_oneGoes 59 = .ok (.lcmp, 1) := by decide +kernel
theorem dX6_oneGoes_60 : decode cX6_oneGoes 60 = .ok (.ifCond .le 5, 3) := by decide +kernel
theorem dX6_oneGoes_63 : decode cX6_oneGoes 63 = .ok (.iload_n 3, 1) := by decide +kernel
theorem dX6_oneGoes_64 : decode cX6_oneGoes 64 = .ok (.istore_n 2, 1) := by decide +kernel
theorem dX6_oneGoes_65 : decode cX6_oneGoes 65 = .ok (.iinc 3 1, 3) := by decide +kernel
theorem dX6_oneGoes_68 : decode cX6_oneGoes 68 = .ok (.goto (-62), 3) := by decide +kernel
theorem dX6_oneGoes_71 : decode cX6_oneGoes 71 = .ok (.iload_n 1, 1) := by decide +kernel
theorem dX6_oneGoes_72 : decode cX6_oneGoes 72 = .ok (.iload_n 2, 1) := by decide +kernel
theorem dX6_oneGoes_73 : decode cX6_oneGoes 73 = .ok (.if_icmp .eq 30, 3) := by decide +kernel
theorem dX6_oneGoes_76 : decode cX6_oneGoes 76 = .ok (.aload_n 0, 1) := by decide +kernel
theorem dX6_oneGoes_77 : decode cX6_oneGoes 77 = .ok (.getfield 47, 3) := by decide +kernel
theorem dX6_oneGoes_80 : decode cX6_oneGoes 80 = .ok (.getfield 161, 3) := by decide +kernel
theorem dX6_oneGoes_83 : decode cX6_oneGoes 83 = .ok (.iload_n 1, 1) := by decide +kernel
theorem dX6_oneGoes_84 : decode cX6_oneGoes 84 = .ok (.iaload, 1) := by decide +kernel
theorem dX6_oneGoes_85 : decode cX6_oneGoes 85 = .ok (.iconst 2, 1) := by decide +kernel
theorem dX6_oneGoes_86 : decode cX6_oneGoes 86 = .ok (.if_icmp .lt 17, 3) := by decide +kernel
theorem dX6_oneGoes_89 : decode cX6_oneGoes 89 = .ok (.aload_n 0, 1) := by decide +kernel
theorem dX6_oneGoes_90 : decode cX6_oneGoes 90 = .ok (.getfield 47, 3) := by decide +kernel
theorem dX6_oneGoes_93 : decode cX6_oneGoes 93 = .ok (.getfield 161, 3) := by decide +kernel
theorem dX6_oneGoes_96 : decode cX6_oneGoes 96 = .ok (.iload_n 2, 1) := by decide +kernel
theorem dX6_oneGoes_97 : decode cX6_oneGoes 97 = .ok (.iaload, 1) := by decide +kernel
theorem dX6_oneGoes_98 : decode cX6_oneGoes 98 = .ok (.bipush 99, 2) := by decide +kernel
theorem dX6_oneGoes_100 : decode cX6_oneGoes 100 = .ok (.if_icmp .lt 5, 3) := by decide +kernel
theorem dX6_oneGoes_103 : decode cX6_oneGoes 103 = .ok (.iconst 0, 1) := by decide +kernel
theorem dX6_oneGoes_104 : decode cX6_oneGoes 104 = .ok (.ireturn, 1) := by decide +kernel
theorem dX6_oneGoes_105 : decode cX6_oneGoes 105 = .ok (.aload_n 0, 1) := by decide +kernel
theorem dX6_oneGoes_106 : decode cX6_oneGoes 106 = .ok (.getfield 54, 3) := by decide +kernel
theorem dX6_oneGoes_109 : decode cX6_oneGoes 109 = .ok (.aload_n 0, 1) := by decide +kernel
theorem dX6_oneGoes_110 : decode cX6_oneGoes 110 = .ok (.getfield 47, 3) := by decide +kernel
theorem dX6_oneGoes_113 : decode cX6_oneGoes 113 = .ok (.invokevirtual 142, 3) := by decide +kernel
theorem dX6_oneGoes_116 : decode cX6_oneGoes 116 = .ok (.aload_n 0, 1) := by decide +kernel
theorem dX6_oneGoes_117 : decode cX6_oneGoes 117 = .ok (.getfield 54, 3) := by decide +kernel
theorem dX6_oneGoes_120 : decode cX6_oneGoes 120 = .ok (.getfield 161, 3) := by decide +kernel
theorem dX6_oneGoes_123 : decode cX6_oneGoes 123 = .ok (.iload_n 1, 1) := by decide +kernel
theorem dX6_oneGoes_124 : decode cX6_oneGoes 124 = .ok (.dup2, 1) := by decide +kernel
theorem dX6_oneGoes_125 : decode cX6_oneGoes 125 = .ok (.iaload, 1) := by decide +kernel
theorem dX6_oneGoes_126 : decode cX6_oneGoes 126 = .ok (.iconst 1, 1) := by decide +kernel
theorem dX6_oneGoes_127 : decode cX6_oneGoes 127 = .ok (.isub, 1) := by decide +kernel
theorem dX6_oneGoes_128 : decode cX6_oneGoes 128 = .ok (.iastore, 1) := by decide +kernel
theorem dX6_oneGoes_129 : decode cX6_oneGoes 129 = .ok (.aload_n 0, 1) := by decide +kernel
theorem dX6_oneGoes_130 : decode cX6_oneGoes 130 = .ok (.getfield 54, 3) := by decide +kernel
theorem dX6_oneGoes_133 : decode cX6_oneGoes 133 = .ok (.getfield 161, 3) := by decide +kernel
theorem dX6_oneGoes_136 : decode cX6_oneGoes 136 = .ok (.iload_n 2, 1) := by decide +kernel
theorem dX6_oneGoes_137 : decode cX6_oneGoes 137 = .ok (.dup2, 1) := by decide +kernel
theorem dX6_oneGoes_138 : decode cX6_oneGoes 138 = .ok (.iaload, 1) := by decide +kernel
theorem dX6_oneGoes_139 : decode cX6_oneGoes 139 = .ok (.iconst 1, 1) := by decide +kernel
theorem dX6_oneGoes_140 : decode cX6_oneGoes 140 = .ok (.iadd, 1) := by decide +kernel
theorem dX6_oneGoes_141 : decode cX6_oneGoes 141 = .ok (.iastore, 1) := by decide +kernel
theorem dX6_oneGoes_142 : decode cX6_oneGoes 142 = .ok (.aload_n 0, 1) := by decide +kernel
theorem dX6_oneGoes_143 : decode cX6_oneGoes 143 = .ok (.getfield 33, 3) := by decide +kernel
theorem dX6_oneGoes_146 : decode cX6_oneGoes 146 = .ok (.aload_n 0, 1) := by decide +kernel
theorem dX6_oneGoes_147 : decode cX6_oneGoes 147 = .ok (.getfield 54, 3) := by decide +kernel
theorem dX6_oneGoes_150 : decode cX6_oneGoes 150 = .ok (.invokevirtual 138, 3) := by decide +kernel
theorem dX6_oneGoes_153 : decode cX6_oneGoes 153 = .ok (.aload_n 0, 1) := by decide +kernel
theorem dX6_oneGoes_154 : decode cX6_oneGoes 154 = .ok (.getfield 54, 3) := by decide +kernel
theorem dX6_oneGoes_157 : decode cX6_oneGoes 157 = .ok (.getfield 167, 3) := by decide +kernel
theorem dX6_oneGoes_160 : decode cX6_oneGoes 160 = .ok (.iload_n 2, 1) := by decide +kernel
theorem dX6_oneGoes_161 : decode cX6_oneGoes 161 = .ok (.laload, 1) := by decide +kernel
theorem dX6_oneGoes_162 : decode cX6_oneGoes 162 = .ok (.aload_n 0, 1) := by decide +kernel
theorem dX6_oneGoes_163 : decode cX6_oneGoes 163 = .ok (.getfield 54, 3) := by decide +kernel
theorem dX6_oneGoes_166 : decode cX6_oneGoes 166 = .ok (.getfield 167, 3) := by decide +kernel
theorem dX6_oneGoes_169 : decode cX6_oneGoes 169 = .ok (.iload_n 1, 1) := by decide +kernel
theorem dX6_oneGoes_170 : decode cX6_oneGoes 170 = .ok (.laload, 1) := by decide +kernel
theorem dX6_oneGoes_171 : decode cX6_oneGoes 171 = .ok (.lcmp, 1) := by decide +kernel
theorem dX6_oneGoes_172 : decode cX6_oneGoes 172 = .ok (.ifCond .ge 5, 3) := by decide +kernel
theorem dX6_oneGoes_175 : decode cX6_oneGoes 175 = .ok (.iconst 0, 1) := by decide +kernel
theorem dX6_oneGoes_176 : decode cX6_oneGoes 176 = .ok (.ireturn, 1) := by decide +kernel
theorem dX6_oneGoes_177 : decode cX6_oneGoes 177 = .ok (.aload_n 0, 1) := by decide +kernel
theorem dX6_oneGoes_178 : decode cX6_oneGoes 178 = .ok (.getfield 47, 3) := by decide +kernel
theorem dX6_oneGoes_181 : decode cX6_oneGoes 181 = .ok (.aload_n 0, 1) := by decide +kernel
theorem dX6_oneGoes_182 : decode cX6_oneGoes 182 = .ok (.getfield 54, 3) := by decide +kernel
theorem dX6_oneGoes_185 : decode cX6_oneGoes 185 = .ok (.invokevirtual 142, 3) := by decide +kernel
theorem dX6_oneGoes_188 : decode cX6_oneGoes 188 = .ok (.iconst 1, 1) := by decide +kernel
theorem dX6_oneGoes_189 : decode cX6_oneGoes 189 = .ok (.ireturn, 1) := by decide +kernel
theorem dX6_kindOf_0 : decode cX6_kindOf 0 = .ok (.iconst 5, 1) := by decide +kernel
theorem dX6_kindOf_1 : decode cX6_kindOf 1 = .ok (.istore_n 2, 1) := by decide +kernel
theorem dX6_kindOf_2 : decode cX6_kindOf 2 = .ok (.iload_n 2, 1) := by decide +kernel
theorem dX6_kindOf_3 : decode cX6_kindOf 3 = .ok (.ifCond .le 20, 3) := by decide +kernel
theorem dX6_kindOf_6 : decode cX6_kindOf 6 = .ok (.aload_n 0, 1) := by decide +kernel
theorem dX6_kindOf_7 : decode cX6_kindOf 7 = .ok (.iload_n 1, 1) := by decide +kernel
theorem dX6_kindOf_8 : decode cX6_kindOf 8 = .ok (.iload_n 2, 1) := by decide +kernel
theorem dX6_kindOf_9 : decode cX6_kindOf 9 = .ok (.invokevirtual 250, 3) := by decide +kernel
theorem dX6_kindOf_12 : decode cX6_kindOf 12 = .ok (.ifCond .eq 5, 3) := by decide +kernel
theorem dX6_kindOf_15 : decode cX6_kindOf 15 = .ok (.iload_n 2, 1) := by decide +kernel
theorem dX6_kindOf_16 : decode cX6_kindOf 16 = .ok (.ireturn, 1) := by decide +kernel
theorem dX6_kindOf_17 : decode cX6_kindOf 17 = .ok (.iinc 2 (-1), 3) := by decide +kernel
theorem dX6_kindOf_20 : decode cX6_kindOf 20 = .ok (.goto (-18), 3) := by decide +kernel
theorem dX6_kindOf_23 : decode cX6_kindOf 23 = .ok (.iconst 0, 1) := by decide +kernel
theorem dX6_kindOf_24 : decode cX6_kindOf 24 = .ok (.ireturn, 1) := by decide +kernel
theorem dX6_isOfKind_0 : decode cX6_isOfKind 0 = .ok (.aload_n 0, 1) := by decide +kernel
theorem dX6_isOfKind_1 : decode cX6_isOfKind 1 = .ok (.getfield 47, 3) := by decide +kernel
theorem dX6_isOfKind_4 : decode cX6_isOfKind 4 = .ok (.aload_n 0, 1) := by decide +kernel
theorem dX6_isOfKind_5 : decode cX6_isOfKind 5 = .ok (.getfield 47, 3) := by decide +kernel
theorem dX6_isOfKind_8 : decode cX6_isOfKind 8 = .ok (.getfield 167, 3) := by decide +kernel
theorem dX6_isOfKind_11 : decode cX6_isOfKind 11 = .ok (.iload_n 1, 1) := by decide +kernel
theorem dX6_isOfKind_12 : decode cX6_isOfKind 12 = .ok (.invokevirtual 174, 3) := by decide +kernel
theorem dX6_isOfKind_15 : decode cX6_isOfKind 15 = .ok (.istore_n 3, 1) := by decide +kernel
theorem dX6_isOfKind_16 : decode cX6_isOfKind 16 = .ok (.iload_n 2, 1) := by decide +kernel
theorem dX6_isOfKind_17 : decode cX6_isOfKind 17 = .ok (.tableswitch 142 1 5 #[35, 49, 63, 88, 99], 35) := by decide +kernel
theorem dX6_isOfKind_52 : decode cX6_isOfKind 52 = .ok (.iload_n 3, 1) := by decide +kernel
theorem dX6_isOfKind_53 : decode cX6_isOfKind 53 = .ok (.invokestatic 294, 3) := by decide +kernel
theorem dX6_isOfKind_56 : decode cX6_isOfKind 56 = .ok (.iconst 1, 1) := by decide +kernel
theorem dX6_isOfKind_57 : decode cX6_isOfKind 57 = .ok (.if_icmp .ne 7, 3) := by decide +kernel
theorem dX6_isOfKind_60 : decode cX6_isOfKind 60 = .ok (.iconst 1, 1) := by decide +kernel
theorem dX6_isOfKind_61 : decode cX6_isOfKind 61 = .ok (.goto 4, 3) := by decide +kernel
theorem dX6_isOfKind_64 : decode cX6_isOfKind 64 = .ok (.iconst 0, 1) := by decide +kernel
theorem dX6_isOfKind_65 : decode cX6_isOfKind 65 = .ok (.ireturn, 1) := by decide +kernel
theorem dX6_isOfKind_66 : decode cX6_isOfKind 66 = .ok (.iload_n 3, 1) := by decide +kernel
theorem dX6_isOfKind_67 : decode cX6_isOfKind 67 = .ok (.invokestatic 294, 3) := by decide +kernel
theorem dX6_isOfKind_70 : decode cX6_isOfKind 70 = .ok (.iconst 1, 1) := by decide +kernel
theorem dX6_isOfKind_71 : decode cX6_isOfKind 71 = .ok (.if_icmp .le 7, 3) := by decide +kernel
theorem dX6_isOfKind_74 : decode cX6_isOfKind 74 = .ok (.iconst 1, 1) := by decide +kernel
theorem dX6_isOfKind_75 : decode cX6_isOfKind 75 = .ok (.goto 4, 3) := by decide +kernel
theorem dX6_isOfKind_78 : decode cX6_isOfKind 78 = .ok (.iconst 0, 1) := by decide +kernel
theorem dX6_isOfKind_79 : decode cX6_isOfKind 79 = .ok (.ireturn, 1) := by decide +kernel
theorem dX6_isOfKind_80 : decode cX6_isOfKind 80 = .ok (.iload_n 3, 1) := by decide +kernel
theorem dX6_isOfKind_81 : decode cX6_isOfKind 81 = .ok (.invokestatic 294, 3) := by decide +kernel
theorem dX6_isOfKind_84 : decode cX6_isOfKind 84 = .ok (.iconst 1, 1) := by decide +kernel
theorem dX6_isOfKind_85 : decode cX6_isOfKind 85 = .ok (.if_icmp .le 18, 3) := by decide +kernel
theorem dX6_isOfKind_88 : decode cX6_isOfKind 88 = .ok (.iload_n 3, 1) := by decide +kernel
theorem dX6_isOfKind_89 : decode cX6_isOfKind 89 = .ok (.aload_n 0, 1) := by decide +kernel
theorem dX6_isOfKind_90 : decode cX6_isOfKind 90 = .ok (.getfield 47, 3) := by decide +kernel
theorem dX6_isOfKind_93 : decode cX6_isOfKind 93 = .ok (.invokevirtual 225, 3) := by decide +kernel
theorem dX6_isOfKind_96 : decode cX6_isOfKind 96 = .ok (.if_icmp .ne 7, 3) := by decide +kernel
theorem dX6_isOfKind_99 : decode cX6_isOfKind 99 = .ok (.iconst 1, 1) := by decide +kernel
theorem dX6_isOfKind_100 : decode cX6_isOfKind 100 = .ok (.goto 4, 3) := by decide +kernel
theorem dX6_isOfKind_103 : decode cX6_isOfKind 103 = .ok (.iconst 0, 1) := by decide +kernel
theorem dX6_isOfKind_104 : decode cX6_isOfKind 104 = .ok (.ireturn, 1) := by decide +kernel
theorem dX6_isOfKind_105 : decode cX6_isOfKind 105 = .ok (.iload_n 3, 1) := by decide +kernel
theorem dX6_isOfKind_106 : decode cX6_isOfKind 106 = .ok (.iconst 1, 1) := by decide +kernel
theorem dX6_isOfKind_107 : decode cX6_isOfKind 107 = .ok (.if_icmp .ne 7, 3) := by decide +kernel
theorem dX6_isOfKind_110 : decode cX6_isOfKind 110 = .ok (.iconst 1, 1) := by decide +kernel
theorem dX6_isOfKind_111 : decode cX6_isOfKind 111 = .ok (.goto 4, 3) := by decide +kernel
theorem dX6_isOfKind_114 : decode cX6_isOfKind 114 = .ok (.iconst 0, 1) := by decide +kernel
theorem dX6_isOfKind_115 : decode cX6_isOfKind 115 = .ok (.ireturn, 1) := by decide +kernel
theorem dX6_isOfKind_116 : decode cX6_isOfKind 116 = .ok (.iload_n 3, 1) := by decide +kernel
theorem dX6_isOfKind_117 : decode cX6_isOfKind 117 = .ok (.iconst 1, 1) := by decide +kernel
theorem dX6_isOfKind_118 : decode cX6_isOfKind 118 = .ok (.if_icmp .ne 39, 3) := by decide +kernel
theorem dX6_isOfKind_121 : decode cX6_isOfKind 121 = .ok (.aload_n 0, 1) := by decide +kernel
theorem dX6_isOfKind_122 : decode cX6_isOfKind 122 = .ok (.getfield 47, 3) := by decide +kernel
theorem dX6_isOfKind_125 : decode cX6_isOfKind 125 = .ok (.aload_n 0, 1) := by decide +kernel
theorem dX6_isOfKind_126 : decode cX6_isOfKind 126 = .ok (.getfield 47, 3) := by decide +kernel
theorem dX6_isOfKind_129 : decode cX6_isOfKind 129 = .ok (.getfield 167, 3) := by decide +kernel
theorem dX6_isOfKind_132 : decode cX6_isOfKind 132 = .ok (.iload_n 1, 1) := by decide +kernel
theorem dX6_isOfKind_133 : decode cX6_isOfKind 133 = .ok (.invokevirtual 178, 3) := by decide +kernel
theorem dX6_isOfKind_136 : decode cX6_isOfKind 136 = .ok (.ldc2_w 299, 3) := by decide +kernel
theorem dX6_isOfKind_139 : decode cX6_isOfKind 139 = .ok (.aload_n 0, 1) := by decide +kernel
theorem dX6_isOfKind_140 : decode cX6_isOfKind 140 = .ok (.getfield 47, 3) := by decide +kernel
theorem dX6_isOfKind_143 : decode cX6_isOfKind 143 = .ok (.getfield 167, 3) := by decide +kernel
theorem dX6_isOfKind_146 : decode cX6_isOfKind 146 = .ok (.iconst 0, 1) := by decide +kernel
theorem dX6_isOfKind_147 : decode cX6_isOfKind 147 = .ok (.laload, 1) := by decide +kernel
theorem dX6_isOfKind_148 : decode cX6_isOfKind 148 = .ok (.lmul, 1) := by decide +kernel
theorem dX6_isOfKind_149 : decode cX6_isOfKind 149 = .ok (.lcmp, 1) := by decide +kernel
theorem dX6_isOfKind_150 : decode cX6_isOfKind 150 = .ok (.ifCond .lt 7, 3) := by decide +kernel
theorem dX6_isOfKind_153 : decode cX6_isOfKind 153 = .ok (.iconst 1, 1) := by decide +kernel
theorem dX6_isOfKind_154 : decode cX6_isOfKind 154 = .ok (.goto 4, 3) := by decide +kernel
theorem dX6_isOfKind_157 : decode cX6_isOfKind 157 = .ok (.iconst 0, 1) := by decide +kernel
theorem dX6_isOfKind_158 : decode cX6_isOfKind 158 = .ok (.ireturn, 1) := by decide +kernel
theorem dX6_isOfKind_159 : decode cX6_isOfKind 159 = .ok (.iconst 1, 1) := by decide +kernel
theorem dX6_isOfKind_160 : decode cX6_isOfKind 160 = .ok (.ireturn, 1) := by decide +kernel
theorem dX6_commonGoods_0 : decode cX6_commonGoods 0 = .ok (.iconst 0, 1) := by decide +kernel
theorem dX6_commonGoods_1 : decode cX6_commonGoods 1 = .ok (.istore_n 1, 1) := by decide +kernel
theorem dX6_commonGoods_2 : decode cX6_commonGoods 2 = .ok (.iconst 0, 1) := by decide +kernel
theorem dX6_commonGoods_3 : decode cX6_commonGoods 3 = .ok (.istore_n 2, 1) := by decide +kernel
theorem dX6_commonGoods_4 : decode cX6_commonGoods 4 = .ok (.iload_n 2, 1) := by decide +kernel
theorem dX6_commonGoods_5 : decode cX6_commonGoods 5 = .ok (.aload_n 0, 1) := by decide +kernel
theorem dX6_commonGoods_6 : decode cX6_commonGoods 6 = .ok (.getfield 47, 3) := by decide +kernel
theorem dX6_commonGoods_9 : decode cX6_commonGoods 9 = .ok (.getfield 203, 3) := by decide +kernel
theorem dX6_commonGoods_12 : decode cX6_commonGoods 12 = .ok (.if_icmp .ge 21, 3) := by decide +kernel
theorem dX6_commonGoods_15 : decode cX6_commonGoods 15 = .ok (.aload_n 0, 1) := by decide +kernel
theorem dX6_commonGoods_16 : decode cX6_commonGoods 16 = .ok (.iload_n 2, 1) := by decide +kernel
theorem dX6_commonGoods_17 : decode cX6_commonGoods 17 = .ok (.iconst 2, 1) := by decide +kernel
theorem dX6_commonGoods_18 : decode cX6_commonGoods 18 = .ok (.invokevirtual 250, 3) := by decide +kernel
theorem dX6_commonGoods_21 : decode cX6_commonGoods 21 = .ok (.ifCond .eq 6, 3) := by decide +kernel
theorem dX6_commonGoods_24 : decode cX6_commonGoods 24 = .ok (.iinc 1 1, 3) := by decide +kernel
theorem dX6_commonGoods_27 : decode cX6_commonGoods 27 = .ok (.iinc 2 1, 3) := by decide +kernel
theorem dX6_commonGoods_30 : decode cX6_commonGoods 30 = .ok (.goto (-26), 3) := by decide +kernel
theorem dX6_commonGoods_33 : decode cX6_commonGoods 33 = .ok (.iload_n 1, 1) := by decide +kernel
theorem dX6_commonGoods_34 : decode cX6_commonGoods 34 = .ok (.i2l, 1) := by decide +kernel
theorem dX6_commonGoods_35 : decode cX6_commonGoods 35 = .ok (.lreturn, 1) := by decide +kernel
theorem dX6_sizeOf_0 : decode cX6_sizeOf 0 = .ok (.aload_n 0, 1) := by decide +kernel
theorem dX6_sizeOf_1 : decode cX6_sizeOf 1 = .ok (.getstatic 301, 3) := by decide +kernel
theorem dX6_sizeOf_4 : decode cX6_sizeOf 4 = .ok (.aload_n 0, 1) := by decide +kernel
theorem dX6_sizeOf_5 : decode cX6_sizeOf 5 = .ok (.iload_n 1, 1) := by decide +kernel
theorem dX6_sizeOf_6 : decode cX6_sizeOf 6 = .ok (.invokevirtual 247, 3) := by decide +kernel
theorem dX6_sizeOf_9 : decode cX6_sizeOf 9 = .ok (.iaload, 1) := by decide +kernel
theorem dX6_sizeOf_10 : decode cX6_sizeOf 10 = .ok (.iload_n 1, 1) := by decide +kernel
theorem dX6_sizeOf_11 : decode cX6_sizeOf 11 = .ok (.iload_n 2, 1) := by decide +kernel
theorem dX6_sizeOf_12 : decode cX6_sizeOf 12 = .ok (.iconst 1, 1) := by decide +kernel
theorem dX6_sizeOf_13 : decode cX6_sizeOf 13 = .ok (.iadd, 1) := by decide +kernel
theorem dX6_sizeOf_14 : decode cX6_sizeOf 14 = .ok (.invokevirtual 304, 3) := by decide +kernel
theorem dX6_sizeOf_17 : decode cX6_sizeOf 17 = .ok (.lreturn, 1) := by decide +kernel
theorem dX6_markOf_0 : decode cX6_markOf 0 = .ok (.aload_n 0, 1) := by decide +kernel
theorem dX6_markOf_1 : decode cX6_markOf 1 = .ok (.getstatic 308, 3) := by decide +kernel
theorem dX6_markOf_4 : decode cX6_markOf 4 = .ok (.aload_n 0, 1) := by decide +kernel
theorem dX6_markOf_5 : decode cX6_markOf 5 = .ok (.iload_n 1, 1) := by decide +kernel
theorem dX6_markOf_6 : decode cX6_markOf 6 = .ok (.invokevirtual 247, 3) := by decide +kernel
theorem dX6_markOf_9 : decode cX6_markOf 9 = .ok (.iaload, 1) := by decide +kernel
theorem dX6_markOf_10 : decode cX6_markOf 10 = .ok (.iload_n 1, 1) := by decide +kernel
theorem dX6_markOf_11 : decode cX6_markOf 11 = .ok (.iload_n 2, 1) := by decide +kernel
theorem dX6_markOf_12 : decode cX6_markOf 12 = .ok (.iconst 1, 1) := by decide +kernel
theorem dX6_markOf_13 : decode cX6_markOf 13 = .ok (.iadd, 1) := by decide +kernel
theorem dX6_markOf_14 : decode cX6_markOf 14 = .ok (.invokevirtual 304, 3) := by decide +kernel
theorem dX6_markOf_17 : decode cX6_markOf 17 = .ok (.lreturn, 1) := by decide +kernel
theorem dX6_body_0 : decode cX6_body 0 = .ok (.iload_n 3, 1) := by decide +kernel
theorem dX6_body_1 : decode cX6_body 1 = .ok (.bipush 20, 2) := by decide +kernel
theorem dX6_body_3 : decode cX6_body 3 = .ok (.if_icmp .le 5, 3) := by decide +kernel
theorem dX6_body_6 : decode cX6_body 6 = .ok (.lconst 0, 1) := by decide +kernel
theorem dX6_body_7 : decode cX6_body 7 = .ok (.lreturn, 1) := by decide +kernel
theorem dX6_body_8 : decode cX6_body 8 = .ok (.aload_n 0, 1) := by decide +kernel
theorem dX6_body_9 : decode cX6_body 9 = .ok (.getfield 26, 3) := by decide +kernel
theorem dX6_body_12 : decode cX6_body 12 = .ok (.iload_n 1, 1) := by decide +kernel
theorem dX6_body_13 : decode cX6_body 13 = .ok (.invokevirtual 311, 3) := by decide +kernel
theorem dX6_body_16 : decode cX6_body 16 = .ok (.iload_n 1, 1) := by decide +kernel
theorem dX6_body_17 : decode cX6_body 17 = .ok (.tableswitch 243 10 23 #[71, 82, 102, 133, 146, 161, 243, 243, 243, 243, 181, 184, 208, 228], 71) := by decide +kernel
theorem dX6_body_88 : decode cX6_body 88 = .ok (.aload_n 0, 1) := by decide +kernel
theorem dX6_body_89 : decode cX6_body 89 = .ok (.getfield 47, 3) := by decide +kernel
theorem dX6_body_92 : decode cX6_body 92 = .ok (.getfield 164, 3) := by decide +kernel
theorem dX6_body_95 : decode cX6_body 95 = .ok (.iload_n 2, 1) := by decide +kernel
theorem dX6_body_96 : decode cX6_body 96 = .ok (.iaload, 1) := by decide +kernel
theorem dX6_body_97 : decode cX6_body 97 = .ok (.i2l, 1) := by decide +kernel
theorem dX6_body_98 : decode cX6_body 98 = .ok (.lreturn, 1) := by decide +kernel
theorem dX6_body_99 : decode cX6_body 99 = .ok (.aload_n 0, 1) := by decide +kernel
theorem dX6_body_100 : decode cX6_body 100 = .ok (.bipush 10, 2) := by decide +kernel
theorem dX6_body_102 : decode cX6_body 102 = .ok (.iload_n 2, 1) := by decide +kernel
theorem dX6_body_103 : decode cX6_body 103 = .ok (.iload_n 3, 1) := by decide +kernel
theorem dX6_body_104 : decode cX6_body 104 = .ok (.iconst 1, 1) := by decide +kernel
theorem dX6_body_105 : decode cX6_body 105 = .ok (.iadd, 1) := by decide +kernel
theorem dX6_body_106 : decode cX6_body 106 = .ok (.invokevirtual 304, 3) := by decide +kernel
theorem dX6_body_109 : decode cX6_body 109 = .ok (.aload_n 0, 1) := by decide +kernel
theorem dX6_body_110 : decode cX6_body 110 = .ok (.iload_n 2, 1) := by decide +kernel
theorem dX6_body_111 : decode cX6_body 111 = .ok (.iload_n 3, 1) := by decide +kernel
theorem dX6_body_112 : decode cX6_body 112 = .ok (.iconst 1, 1) := by decide +kernel
theorem dX6_body_113 : decode cX6_body 113 = .ok (.iadd, 1) := by decide +kernel
theorem dX6_body_114 : decode cX6_body 114 = .ok (.invokevirtual 258, 3) := by decide +kernel
theorem dX6_body_117 : decode cX6_body 117 = .ok (.ladd, 1) := by decide +kernel
theorem dX6_body_118 : decode cX6_body 118 = .ok (.lreturn, 1) := by decide +kernel
theorem dX6_body_119 : decode cX6_body 119 = .ok (.aload_n 0, 1) := by decide +kernel
theorem dX6_body_120 : decode cX6_body 120 = .ok (.bipush 10, 2) := by decide +kernel
theorem dX6_body_122 : decode cX6_body 122 = .ok (.iload_n 2, 1) := by decide +kernel
theorem dX6_body_123 : decode cX6_body 123 = .ok (.iload_n 3, 1) := by decide +kernel
theorem dX6_body_124 : decode cX6_body 124 = .ok (.iconst 1, 1) := by decide +kernel
theorem dX6_body_125 : decode cX6_body 125 = .ok (.iadd, 1) := by decide +kernel
theorem dX6_body_126 : decode cX6_body 126 = .ok (.invokevirtual 304, 3) := by decide +kernel
theorem dX6_body_129 : decode cX6_body 129 = .ok (.aload_n 0, 1) := by decide +kernel
theorem dX6_body_130 : decode cX6_body 130 = .ok (.getfield 47, 3) := by decide +kernel
theorem dX6_body_133 : decode cX6_body 133 = .ok (.aload_n 0, 1) := by decide +kernel
theorem dX6_body_134 : decode cX6_body 134 = .ok (.getfield 47, 3) := by decide +kernel
theorem dX6_body_137 : decode cX6_body 137 = .ok (.getfield 167, 3) := by decide +kernel
theorem dX6_body_140 : decode cX6_body 140 = .ok (.iload_n 2, 1) := by decide +kernel
theorem dX6_body_141 : decode cX6_body 141 = .ok (.invokevirtual 174, 3) := by decide +kernel
theorem dX6_body_144 : decode cX6_body 144 = .ok (.invokestatic 294, 3) := by decide +kernel
theorem dX6_body_147 : decode cX6_body 147 = .ok (.i2l, 1) := by decide +kernel
theorem dX6_body_148 : decode cX6_body 148 = .ok (.lmul, 1) := by decide +kernel
theorem dX6_body_149 : decode cX6_body 149 = .ok (.lreturn, 1) := by decide +kernel
theorem dX6_body_150 : decode cX6_body 150 = .ok (.aload_n 0, 1) := by decide +kernel
theorem dX6_body_151 : decode cX6_body 151 = .ok (.bipush 12, 2) := by decide +kernel
theorem dX6_body_153 : decode cX6_body 153 = .ok (.iload_n 2, 1) := by decide +kernel
theorem dX6_body_154 : decode cX6_body 154 = .ok (.iload_n 3, 1) := by decide +kernel
theorem dX6_body_155 : decode cX6_body 155 = .ok (.iconst 1, 1) := by decide +kernel
theorem dX6_body_156 : decode cX6_body 156 = .ok (.iadd, 1) := by decide +kernel
theorem dX6_body_157 : decode cX6_body 157 = .ok (.invokevirtual 304, 3) := by decide +kernel
theorem dX6_body_160 : decode cX6_body 160 = .ok (.lconst 1, 1) := by decide +kernel
theorem dX6_body_161 : decode cX6_body 161 = .ok (.lsub, 1) := by decide +kernel
theorem dX6_body_162 : decode cX6_body 162 = .ok (.lreturn, 1) := by decide +kernel
theorem dX6_body_163 : decode cX6_body 163 = .ok (.aload_n 0, 1) := by decide +kernel
theorem dX6_body_164 : decode cX6_body 164 = .ok (.bipush 11, 2) := by decide +kernel
theorem dX6_body_166 : decode cX6_body 166 = .ok (.iload_n 2, 1) := by decide +kernel
theorem dX6_body_167 : decode cX6_body 167 = .ok (.iload_n 3, 1) := by decide +kernel
theorem dX6_body_168 : decode cX6_body 168 = .ok (.iconst 1, 1) := by decide +kernel
theorem dX6_body_169 : decode cX6_body 169 = .ok (.iadd, 1) := by decide +kernel
theorem dX6_body_170 : decode cX6_body 170 = .ok (.invokevirtual 304, 3) := by decide +kernel
theorem dX6_body_173 : decode cX6_body 173 = .ok (.ldc2_w 237, 3) := by decide +kernel
theorem dX6_body_176 : decode cX6_body 176 = .ok (.lmul, 1) := by decide +kernel
theorem dX6_body_177 : decode cX6_body 177 = .ok (.lreturn, 1) := by decide +kernel
theorem dX6_body_178 : decode cX6_body 178 = .ok (.aload_n 0, 1) := by decide +kernel
theorem dX6_body_179 : decode cX6_body 179 = .ok (.bipush 14, 2) := by decide +kernel
theorem dX6_body_181 : decode cX6_body 181 = .ok (.iload_n 2, 1) := by decide +kernel
theorem dX6_body_182 : decode cX6_body 182 = .ok (.iload_n 3, 1) := by decide +kernel
theorem dX6_body_183 : decode cX6_body 183 = .ok (.iconst 1, 1) := by decide +kernel
theorem dX6_body_184 : decode cX6_body 184 = .ok (.iadd, 1) := by decide +kernel
theorem dX6_body_185 : decode cX6_body 185 = .ok (.invokevirtual 304, 3) := by decide +kernel
theorem dX6_body_188 : decode cX6_body 188 = .ok (.aload_n 0, 1) := by decide +kernel
theorem dX6_body_189 : decode cX6_body 189 = .ok (.iload_n 2, 1) := by decide +kernel
theorem dX6_body_190 : decode cX6_body 190 = .ok (.iload_n 3, 1) := by decide +kernel
theorem dX6_body_191 : decode cX6_body 191 = .ok (.iconst 1, 1) := by decide +kernel
theorem dX6_body_192 : decode cX6_body 192 = .ok (.iadd, 1) := by decide +kernel
theorem dX6_body_193 : decode cX6_body 193 = .ok (.invokevirtual 258, 3) := by decide +kernel
theorem dX6_body_196 : decode cX6_body 196 = .ok (.lsub, 1) := by decide +kernel
theorem dX6_body_197 : decode cX6_body 197 = .ok (.lreturn, 1) := by decide +kernel
theorem dX6_body_198 : decode cX6_body 198 = .ok (.iload_n 2, 1) := by decide +kernel
theorem dX6_body_199 : decode cX6_body 199 = .ok (.i2l, 1) := by decide +kernel
theorem dX6_body_200 : decode cX6_body 200 = .ok (.lreturn, 1) := by decide +kernel
theorem dX6_body_201 : decode cX6_body 201 = .ok (.aload_n 0, 1) := by decide +kernel
theorem dX6_body_202 : decode cX6_body 202 = .ok (.bipush 20, 2) := by decide +kernel
theorem dX6_body_204 : decode cX6_body 204 = .ok (.iload_n 2, 1) := by decide +kernel
theorem dX6_body_205 : decode cX6_body 205 = .ok (.iload_n 3, 1) := by decide +kernel
theorem dX6_body_206 : decode cX6_body 206 = .ok (.iconst 1, 1) := by decide +kernel
theorem dX6_body_207 : decode cX6_body 207 = .ok (.iadd, 1) := by decide +kernel
theorem dX6_body_208 : decode cX6_body 208 = .ok (.invokevirtual 304, 3) := by decide +kernel
theorem dX6_body_211 : decode cX6_body 211 = .ok (.bipush 10, 2) := by decide +kernel
theorem dX6_body_213 : decode cX6_body 213 = .ok (.aload_n 0, 1) := by decide +kernel
theorem dX6_body_214 : decode cX6_body 214 = .ok (.getfield 47, 3) := by decide +kernel
theorem dX6_body_217 : decode cX6_body 217 = .ok (.iload_n 2, 1) := by decide +kernel
theorem dX6_body_218 : decode cX6_body 218 = .ok (.invokevirtual 315, 3) := by decide +kernel
theorem dX6_body_221 : decode cX6_body 221 = .ok (.imul, 1) := by decide +kernel
theorem dX6_body_222 : decode cX6_body 222 = .ok (.i2l, 1) := by decide +kernel
theorem dX6_body_223 : decode cX6_body 223 = .ok (.ladd, 1) := by decide +kernel
theorem dX6_body_224 : decode cX6_body 224 = .ok (.lreturn, 1) := by decide +kernel
theorem dX6_body_225 : decode cX6_body 225 = .ok (.aload_n 0, 1) := by decide +kernel
theorem dX6_body_226 : decode cX6_body 226 = .ok (.bipush 20, 2) := by decide +kernel
theorem dX6_body_228 : decode cX6_body 228 = .ok (.iload_n 2, 1) := by decide +kernel
theorem dX6_body_229 : decode cX6_body 229 = .ok (.iload_n 3, 1) := by decide +kernel
theorem dX6_body_230 : decode cX6_body 230 = .ok (.iconst 1, 1) := by decide +kernel
theorem dX6_body_231 : decode cX6_body 231 = .ok (.iadd, 1) := by decide +kernel
theorem dX6_body_232 : decode cX6_body 232 = .ok (.invokevirtual 304, 3) := by decide +kernel
theorem dX6_body_235 : decode cX6_body 235 = .ok (.aload_n 0, 1) := by decide +kernel
theorem dX6_body_236 : decode cX6_body 236 = .ok (.iload_n 2, 1) := by decide +kernel
theorem dX6_body_237 : decode cX6_body 237 = .ok (.iload_n 3, 1) := by decide +kernel
theorem dX6_body_238 : decode cX6_body 238 = .ok (.iconst 1, 1) := by decide +kernel
theorem dX6_body_239 : decode cX6_body 239 = .ok (.iadd, 1) := by decide +kernel
theorem dX6_body_240 : decode cX6_body 240 = .ok (.invokevirtual 254, 3) := by decide +kernel
theorem dX6_body_243 : decode cX6_body 243 = .ok (.ladd, 1) := by decide +kernel
theorem dX6_body_244 : decode cX6_body 244 = .ok (.lreturn, 1) := by decide +kernel
theorem dX6_body_245 : decode cX6_body 245 = .ok (.aload_n 0, 1) := by decide +kernel
theorem dX6_body_246 : decode cX6_body 246 = .ok (.bipush 21, 2) := by decide +kernel
theorem dX6_body_248 : decode cX6_body 248 = .ok (.iload_n 2, 1) := by decide +kernel
theorem dX6_body_249 : decode cX6_body 249 = .ok (.iload_n 3, 1) := by decide +kernel
theorem dX6_body_250 : decode cX6_body 250 = .ok (.iconst 1, 1) := by decide +kernel
theorem dX6_body_251 : decode cX6_body 251 = .ok (.iadd, 1) := by decide +kernel
theorem dX6_body_252 : decode cX6_body 252 = .ok (.invokevirtual 304, 3) := by decide +kernel
theorem dX6_body_255 : decode cX6_body 255 = .ok (.ldc2_w 232, 3) := by decide +kernel
theorem dX6_body_258 : decode cX6_body 258 = .ok (.ladd, 1) := by decide +kernel
theorem dX6_body_259 : decode cX6_body 259 = .ok (.lreturn, 1) := by decide +kernel
theorem dX6_body_260 : decode cX6_body 260 = .ok (.lconst 0, 1) := by decide +kernel
theorem dX6_body_261 : decode cX6_body 261 = .ok (.lreturn, 1) := by decide +kernel
end
section
theorem dX7_init_0 : decode cX7_init 0 = .ok (.aload_n 0, 1) := by decide +kernel
theorem dX7_init_1 : decode cX7_init 1 = .ok (.invokespecial 3, 3) := by decide +kernel
theorem dX7_init_4 : decode cX7_init 4 = .ok (.aload_n 0, 1) := by decide +kernel
theorem dX7_init_5 : decode cX7_init 5 = .ok (.bipush 8, 2) := by decide +kernel
theorem dX7_init_7 : decode cX7_init 7 = .ok (.newarray .int, 2) := by decide +kernel
theorem dX7_init_9 : decode cX7_init 9 = .ok (.dup, 1) := by decide +kernel
theorem dX7_init_10 : decode cX7_init 10 = .ok (.iconst 0, 1) := by decide +kernel
theorem dX7_init_11 : decode cX7_init 11 = .ok (.iconst (-1), 1) := by decide +kernel
theorem dX7_init_12 : decode cX7_init 12 = .ok (.iastore, 1) := by decide +kernel
theorem dX7_init_13 : decode cX7_init 13 = .ok (.dup, 1) := by decide +kernel
theorem dX7_init_14 : decode cX7_init 14 = .ok (.iconst 1, 1) := by decide +kernel
theorem dX7_init_15 : decode cX7_init 15 = .ok (.iconst (-1), 1) := by decide +kernel
theorem dX7_init_16 : decode cX7_init 16 = .ok (.iastore, 1) := by decide +kernel
theorem dX7_init_17 : decode cX7_init 17 = .ok (.dup, 1) := by decide +kernel
theorem dX7_init_18 : decode cX7_init 18 = .ok (.iconst 2, 1) := by decide +kernel
theorem dX7_init_19 : decode cX7_init 19 = .ok (.iconst (-1), 1) := by decide +kernel
theorem dX7_init_20 : decode cX7_init 20 = .ok (.iastore, 1) := by decide +kernel
theorem dX7_init_21 : decode cX7_init 21 = .ok (.dup, 1) := by decide +kernel
theorem dX7_init_22 : decode cX7_init 22 = .ok (.iconst 3, 1) := by decide +kernel
theorem dX7_init_23 : decode cX7_init 23 = .ok (.iconst (-1), 1) := by decide +kernel
theorem dX7_init_24 : decode cX7_init 24 = .ok (.iastore, 1) := by decide +kernel
theorem dX7_init_25 : decode cX7_init 25 = .ok (.dup, 1) := by decide +kernel
theorem dX7_init_26 : decode cX7_init 26 = .ok (.iconst 4, 1) := by decide +kernel
theorem dX7_init_27 : decode cX7_init 27 = .ok (.iconst (-1), 1) := by decide +kernel
theorem dX7_init_28 : decode cX7_init 28 = .ok (.iastore, 1) := by decide +kernel
theorem dX7_init_29 : decode cX7_init 29 = .ok (.dup, 1) := by decide +kernel
theorem dX7_init_30 : decode cX7_init 30 = .ok (.iconst 5, 1) := by decide +kernel
theorem dX7_init_31 : decode cX7_init 31 = .ok (.iconst (-1), 1) := by decide +kernel
theorem dX7_init_32 : decode cX7_init 32 = .ok (.iastore, 1) := by decide +kernel
theorem dX7_init_33 : decode cX7_init 33 = .ok (.dup, 1) := by decide +kernel
theorem dX7_init_34 : decode cX7_init 34 = .ok (.bipush 6, 2) := by decide +kernel
theorem dX7_init_36 : decode cX7_init 36 = .ok (.iconst (-1), 1) := by decide +kernel
theorem dX7_init_37 : decode cX7_init 37 = .ok (.iastore, 1) := by decide +kernel
theorem dX7_init_38 : decode cX7_init 38 = .ok (.dup, 1) := by decide +kernel
theorem dX7_init_39 : decode cX7_init 39 = .ok (.bipush 7, 2) := by decide +kernel
theorem dX7_init_41 : decode cX7_init 41 = .ok (.iconst (-1), 1) := by decide +kernel
theorem dX7_init_42 : decode cX7_init 42 = .ok (.iastore, 1) := by decide +kernel
theorem dX7_init_43 : decode cX7_init 43 = .ok (.putfield 9, 3) := by decide +kernel
theorem dX7_init_46 : decode cX7_init 46 = .ok (.aload_n 0, 1) := by decide +kernel
theorem dX7_init_47 : decode cX7_init 47 = .ok (.bipush 8, 2) := by decide +kernel
theorem dX7_init_49 : decode cX7_init 49 = .ok (.newarray .int, 2) := by decide +kernel
theorem dX7_init_51 : decode cX7_init 51 = .ok (.putfield 13, 3) := by decide +kernel
theorem dX7_init_54 : decode cX7_init 54 = .ok (.aload_n 0, 1) := by decide +kernel
theorem dX7_init_55 : decode cX7_init 55 = .ok (.sipush 320, 3) := by decide +kernel
theorem dX7_init_58 : decode cX7_init 58 = .ok (.newarray .int, 2) := by decide +kernel
theorem dX7_init_60 : decode cX7_init 60 = .ok (.putfield 16, 3) := by decide +kernel
theorem dX7_init_63 : decode cX7_init 63 = .ok (.aload_n 0, 1) := by decide +kernel
theorem dX7_init_64 : decode cX7_init 64 = .ok (.bipush 6, 2) := by decide +kernel
theorem dX7_init_66 : decode cX7_init 66 = .ok (.newarray .int, 2) := by decide +kernel
theorem dX7_init_68 : decode cX7_init 68 = .ok (.putfield 19, 3) := by decide +kernel
theorem dX7_init_71 : decode cX7_init 71 = .ok (.aload_n 0, 1) := by decide +kernel
theorem dX7_init_72 : decode cX7_init 72 = .ok (.iconst 3, 1) := by decide +kernel
theorem dX7_init_73 : decode cX7_init 73 = .ok (.newarray .int, 2) := by decide +kernel
theorem dX7_init_75 : decode cX7_init 75 = .ok (.putfield 22, 3) := by decide +kernel
theorem dX7_init_78 : decode cX7_init 78 = .ok (.aload_n 0, 1) := by decide +kernel
theorem dX7_init_79 : decode cX7_init 79 = .ok (.bipush 18, 2) := by decide +kernel
theorem dX7_init_81 : decode cX7_init 81 = .ok (.newarray .int, 2) := by decide +kernel
theorem dX7_init_83 : decode cX7_init 83 = .ok (.putfield 25, 3) := by decide +kernel
theorem dX7_init_86 : decode cX7_init 86 = .ok (.aload_n 0, 1) := by decide +kernel
theorem dX7_init_87 : decode cX7_init 87 = .ok (.bipush 6, 2) := by decide +kernel
theorem dX7_init_89 : decode cX7_init 89 = .ok (.newarray .int, 2) := by decide +kernel
theorem dX7_init_91 : decode cX7_init 91 = .ok (.putfield 28, 3) := by decide +kernel
theorem dX7_init_94 : decode cX7_init 94 = .ok (.aload_n 0, 1) := by decide +kernel
theorem dX7_init_95 : decode cX7_init 95 = .ok (.iconst 3, 1) := by decide +kernel
theorem dX7_init_96 : decode cX7_init 96 = .ok (.newarray .int, 2) := by decide +kernel
theorem dX7_init_98 : decode cX7_init 98 = .ok (.putfield 31, 3) := by decide +kernel
theorem dX7_init_101 : decode cX7_init 101 = .ok (.aload_n 0, 1) := by decide +kernel
theorem dX7_init_102 : decode cX7_init 102 = .ok (.bipush 18, 2) := by decide +kernel
theorem dX7_init_104 : decode cX7_init 104 = .ok (.newarray .int, 2) := by decide +kernel
theorem dX7_init_106 : decode cX7_init 106 = .ok (.putfield 34, 3) := by decide +kernel
theorem dX7_init_109 : decode cX7_init 109 = .ok (.aload_n 0, 1) := by decide +kernel
theorem dX7_init_110 : decode cX7_init 110 = .ok (.sipush 400, 3) := by decide +kernel
theorem dX7_init_113 : decode cX7_init 113 = .ok (.newarray .int, 2) := by decide +kernel
theorem dX7_init_115 : decode cX7_init 115 = .ok (.putfield 37, 3) := by decide +kernel
theorem dX7_init_118 : decode cX7_init 118 = .ok (.aload_n 0, 1) := by decide +kernel
theorem dX7_init_119 : decode cX7_init 119 = .ok (.iconst 3, 1) := by decide +kernel
theorem dX7_init_120 : decode cX7_init 120 = .ok (.newarray .long, 2) := by decide +kernel
theorem dX7_init_122 : decode cX7_init 122 = .ok (.putfield 40, 3) := by decide +kernel
theorem dX7_init_125 : decode cX7_init 125 = .ok (.aload_n 0, 1) := by decide +kernel
theorem dX7_init_126 : decode cX7_init 126 = .ok (.bipush 6, 2) := by decide +kernel
theorem dX7_init_128 : decode cX7_init 128 = .ok (.newarray .int, 2) := by decide +kernel
theorem dX7_init_130 : decode cX7_init 130 = .ok (.putfield 44, 3) := by decide +kernel
theorem dX7_init_133 : decode cX7_init 133 = .ok (.aload_n 0, 1) := by decide +kernel
theorem dX7_init_134 : decode cX7_init 134 = .ok (.iconst 3, 1) := by decide +kernel
theorem dX7_init_135 : decode cX7_init 135 = .ok (.newarray .long, 2) := by decide +kernel
theorem dX7_init_137 : decode cX7_init 137 = .ok (.putfield 47, 3) := by decide +kernel
theorem dX7_init_140 : decode cX7_init 140 = .ok (.aload_n 0, 1) := by decide +kernel
theorem dX7_init_141 : decode cX7_init 141 = .ok (.iconst 3, 1) := by decide +kernel
theorem dX7_init_142 : decode cX7_init 142 = .ok (.newarray .long, 2) := by decide +kernel
theorem dX7_init_144 : decode cX7_init 144 = .ok (.putfield 50, 3) := by decide +kernel
theorem dX7_init_147 : decode cX7_init 147 = .ok (.aload_n 0, 1) := by decide +kernel
theorem dX7_init_148 : decode cX7_init 148 = .ok (.bipush 18, 2) := by decide +kernel
theorem dX7_init_150 : decode cX7_init 150 = .ok (.newarray .long, 2) := by decide +kernel
theorem dX7_init_152 : decode cX7_init 152 = .ok (.putfield 53, 3) := by decide +kernel
theorem dX7_init_155 : decode cX7_init 155 = .ok (.aload_n 0, 1) := by decide +kernel
theorem dX7_init_156 : decode cX7_init 156 = .ok (.bipush 18, 2) := by decide +kernel
theorem dX7_init_158 : decode cX7_init 158 = .ok (.newarray .long, 2) := by decide +kernel
theorem dX7_init_160 : decode cX7_init 160 = .ok (.putfield 56, 3) := by decide +kernel
theorem dX7_init_163 : decode cX7_init 163 = .ok (.aload_n 0, 1) := by decide +kernel
theorem dX7_init_164 : decode cX7_init 164 = .ok (.bipush 16, 2) := by decide +kernel
theorem dX7_init_166 : decode cX7_init 166 = .ok (.newarray .int, 2) := by decide +kernel
theorem dX7_init_168 : decode cX7_init 168 = .ok (.putfield 59, 3) := by decide +kernel
theorem dX7_init_171 : decode cX7_init 171 = .ok (.return_, 1) := by decide +kernel
theorem dX7_in_0 : decode cX7_in 0 = .ok (.lload_n 0, 1) := by decide +kernel
theorem dX7_in_1 : decode cX7_in 1 = .ok (.lload_n 2, 1) := by decide +kernel
theorem dX7_in_2 : decode cX7_in 2 = .ok (.lcmp, 1) := by decide +kernel
theorem dX7_in_3 : decode cX7_in 3 = .ok (.ifCond .lt 14, 3) := by decide +kernel
theorem dX7_in_6 : decode cX7_in 6 = .ok (.lload_n 0, 1) := by decide +kernel
theorem dX7_in_7 : decode cX7_in 7 = .ok (.lload 4, 2) := by decide +kernel
theorem dX7_in_9 : decode cX7_in 9 = .ok (.lcmp, 1) := by decide +kernel
theorem dX7_in_10 : decode cX7_in 10 = .ok (.ifCond .gt 7, 3) := by decide +kernel
theorem dX7_in_13 : decode cX7_in 13 = .ok (.iconst 1, 1) := by decide +kernel
theorem dX7_in_14 : decode cX7_in 14 = .ok (.goto 4, 3) := by decide +kernel
theorem dX7_in_17 : decode cX7_in 17 = .ok (.iconst 0, 1) := by decide +kernel
theorem dX7_in_18 : decode cX7_in 18 = .ok (.ireturn, 1) := by decide +kernel
theorem dX7_finding_0 : decode cX7_finding 0 = .ok (.aload_n 0, 1) := by decide +kernel
theorem dX7_finding_1 : decode cX7_finding 1 = .ok (.iload_n 1, 1) := by decide +kernel
theorem dX7_finding_2 : decode cX7_finding 2 = .ok (.putfield 66, 3) := by decide +kernel
theorem dX7_finding_5 : decode cX7_finding 5 = .ok (.ldc2_w 69, 3) := by decide +kernel
theorem dX7_finding_8 : decode cX7_finding 8 = .ok (.iload_n 1, 1) := by decide +kernel
theorem dX7_finding_9 : decode cX7_finding 9 = .ok (.i2l, 1) := by decide +kernel
theorem dX7_finding_10 : decode cX7_finding 10 = .ok (.lsub, 1) := by decide +kernel
theorem dX7_finding_11 : decode cX7_finding 11 = .ok (.lreturn, 1) := by decide +kernel
theorem dX7_isRow_0 : decode cX7_isRow 0 = .ok (.iload_n 0, 1) := by decide +kernel
theorem dX7_isRow_1 : decode cX7_isRow 1 = .ok (.i2l, 1) := by decide +kernel
theorem dX7_isRow_2 : decode cX7_isRow 2 = .ok (.lconst 0, 1) := by decide +kernel
theorem dX7_isRow_3 : decode cX7_isRow 3 = .ok (.ldc2_w 71, 3) := by decide +kernel
theorem dX7_isRow_6 : decode cX7_isRow 6 = .ok (.invokestatic 73, 3) := by decide +kernel
theorem dX7_isRow_9 : decode cX7_isRow 9 = .ok (.ireturn, 1) := by decide +kernel
theorem dX7_row_0 : decode cX7_row 0 = .ok (.aload_n 0, 1) := by decide +kernel
theorem dX7_row_1 : decode cX7_row 1 = .ok (.iconst 0, 1) := by decide +kernel
theorem dX7_row_2 : decode cX7_row 2 = .ok (.putfield 62, 3) := by decide +kernel
theorem dX7_row_5 : decode cX7_row 5 = .ok (.iload_n 1, 1) := by decide +kernel
theorem dX7_row_6 : decode cX7_row 6 = .ok (.invokestatic 77, 3) := by decide +kernel
theorem dX7_row_9 : decode cX7_row 9 = .ok (.ifCond .eq 21, 3) := by decide +kernel
theorem dX7_row_12 : decode cX7_row 12 = .ok (.iload_n 2, 1) := by decide +kernel
theorem dX7_row_13 : decode cX7_row 13 = .ok (.i2l, 1) := by decide +kernel
theorem dX7_row_14 : decode cX7_row 14 = .ok (.lconst 0, 1) := by decide +kernel
theorem dX7_row_15 : decode cX7_row 15 = .ok (.ldc2_w 81, 3) := by decide +kernel
theorem dX7_row_18 : decode cX7_row 18 = .ok (.invokestatic 73, 3) := by decide +kernel
theorem dX7_row_21 : decode cX7_row 21 = .ok (.ifCond .eq 9, 3) := by decide +kernel
theorem dX7_row_24 : decode cX7_row 24 = .ok (.iload_n 3, 1) := by decide +kernel
theorem dX7_row_25 : decode cX7_row 25 = .ok (.bipush 40, 2) := by decide +kernel
theorem dX7_row_27 : decode cX7_row 27 = .ok (.if_icmp .le 7, 3) := by decide +kernel
theorem dX7_row_30 : decode cX7_row 30 = .ok (.ldc2_w 83, 3) := by decide +kernel
theorem dX7_row_33 : decode cX7_row 33 = .ok (.lreturn, 1) := by decide +kernel
theorem dX7_row_34 : decode cX7_row 34 = .ok (.aload_n 0, 1) := by decide +kernel
theorem dX7_row_35 : decode cX7_row 35 = .ok (.iconst 0, 1) := by decide +kernel
theorem dX7_row_36 : decode cX7_row 36 = .ok (.putfield 66, 3) := by decide +kernel
theorem dX7_row_39 : decode cX7_row 39 = .ok (.iload_n 3, 1) := by decide +kernel
theorem dX7_row_40 : decode cX7_row 40 = .ok (.ifCond .ge 9, 3) := by decide +kernel
theorem dX7_row_43 : decode cX7_row 43 = .ok (.aload_n 0, 1) := by decide +kernel
theorem dX7_row_44 : decode cX7_row 44 = .ok (.iconst 4, 1) := by decide +kernel
theorem dX7_row_45 : decode cX7_row 45 = .ok (.invokevirtual 85, 3) := by decide +kernel
theorem dX7_row_48 : decode cX7_row 48 = .ok (.lreturn, 1) := by decide +kernel
theorem dX7_row_49 : decode cX7_row 49 = .ok (.aload_n 0, 1) := by decide +kernel
theorem dX7_row_50 : decode cX7_row 50 = .ok (.getfield 9, 3) := by decide +kernel
theorem dX7_row_53 : decode cX7_row 53 = .ok (.iload_n 1, 1) := by decide +kernel
theorem dX7_row_54 : decode cX7_row 54 = .ok (.iload_n 2, 1) := by decide +kernel
theorem dX7_row_55 : decode cX7_row 55 = .ok (.iastore, 1) := by decide +kernel
theorem dX7_row_56 : decode cX7_row 56 = .ok (.aload_n 0, 1) := by decide +kernel
theorem dX7_row_57 : decode cX7_row 57 = .ok (.getfield 13, 3) := by decide +kernel
theorem dX7_row_60 : decode cX7_row 60 = .ok (.iload_n 1, 1) := by decide +kernel
theorem dX7_row_61 : decode cX7_row 61 = .ok (.iload_n 3, 1) := by decide +kernel
theorem dX7_row_62 : decode cX7_row 62 = .ok (.iastore, 1) := by decide +kernel
theorem dX7_row_63 : decode cX7_row 63 = .ok (.iconst 0, 1) := by decide +kernel
theorem dX7_row_64 : decode cX7_row 64 = .ok (.istore 4, 2) := by decide +kernel
theorem dX7_row_66 : decode cX7_row 66 = .ok (.iload 4, 2) := by decide +kernel
theorem dX7_row_68 : decode cX7_row 68 = .ok (.bipush 40, 2) := by decide +kernel
theorem dX7_row_70 : decode cX7_row 70 = .ok (.if_icmp .ge 22, 3) := by decide +kernel
theorem dX7_row_73 : decode cX7_row 73 = .ok (.aload_n 0, 1) := by decide +kernel
theorem dX7_row_74 : decode cX7_row 74 = .ok (.getfield 16, 3) := by decide +kernel
theorem dX7_row_77 : decode cX7_row 77 = .ok (.bipush 40, 2) := by decide +kernel
theorem dX7_row_79 : decode cX7_row 79 = .ok (.iload_n 1, 1) := by decide +kernel
theorem dX7_row_80 : decode cX7_row 80 = .ok (.imul, 1) := by decide +kernel
theorem dX7_row_81 : decode cX7_row 81 = .ok (.iload 4, 2) := by decide +kernel
theorem dX7_row_83 : decode cX7_row 83 = .ok (.iadd, 1) := by decide +kernel
theorem dX7_row_84 : decode cX7_row 84 = .ok (.iconst 0, 1) := by decide +kernel
theorem dX7_row_85 : decode cX7_row 85 = .ok (.iastore, 1) := by decide +kernel
theorem dX7_row_86 : decode cX7_row 86 = .ok (.iinc 4 1, 3) := by decide +kernel
theorem dX7_row_89 : decode cX7_row 89 = .ok (.goto (-23), 3) := by decide +kernel
theorem dX7_row_92 : decode cX7_row 92 = .ok (.iload_n 3, 1) := by decide +kernel
theorem dX7_row_93 : decode cX7_row 93 = .ok (.i2l, 1) := by decide +kernel
theorem dX7_row_94 : decode cX7_row 94 = .ok (.lreturn, 1) := by decide +kernel
theorem dX7_set_0 : decode cX7_set 0 = .ok (.aload_n 0, 1) := by decide +kernel
theorem dX7_set_1 : decode cX7_set 1 = .ok (.iconst 0, 1) := by decide +kernel
theorem dX7_set_2 : decode cX7_set 2 = .ok (.putfield 62, 3) := by decide +kernel
theorem dX7_set_5 : decode cX7_set 5 = .ok (.iload_n 1, 1) := by decide +kernel
theorem dX7_set_6 : decode cX7_set 6 = .ok (.invokestatic 77, 3) := by decide +kernel
theorem dX7_set_9 : decode cX7_set 9 = .ok (.ifCond .ne 7, 3) := by decide +kernel
theorem dX7_set_12 : decode cX7_set 12 = .ok (.ldc2_w 83, 3) := by decide +kernel
theorem dX7_set_15 : decode cX7_set 15 = .ok (.lreturn, 1) := by decide +kernel
theorem dX7_set_16 : decode cX7_set 16 = .ok (.aload_n 0, 1) := by decide +kernel
theorem dX7_set_17 : decode cX7_set 17 = .ok (.iconst 0, 1) := by decide +kernel
theorem dX7_set_18 : decode cX7_set 18 = .ok (.putfield 66, 3) := by decide +kernel
theorem dX7_set_21 : decode cX7_set 21 = .ok (.aload_n 0, 1) := by decide +kernel
theorem dX7_set_22 : decode cX7_set 22 = .ok (.getfield 9, 3) := by decide +kernel
theorem dX7_set_25 : decode cX7_set 25 = .ok (.iload_n 1, 1) := by decide +kernel
theorem dX7_set_26 : decode cX7_set 26 = .ok (.iaload, 1) := by decide +kernel
theorem dX7_set_27 : decode cX7_set 27 = .ok (.ifCond .ge 9, 3) := by decide +kernel
theorem dX7_set_30 : decode cX7_set 30 = .ok (.aload_n 0, 1) := by decide +kernel
theorem dX7_set_31 : decode cX7_set 31 = .ok (.iconst 1, 1) := by decide +kernel
theorem dX7_set_32 : decode cX7_set 32 = .ok (.invokevirtual 85, 3) := by decide +kernel
theorem dX7_set_35 : decode cX7_set 35 = .ok (.lreturn, 1) := by decide +kernel
theorem dX7_set_36 : decode cX7_set 36 = .ok (.iload_n 2, 1) := by decide +kernel
theorem dX7_set_37 : decode cX7_set 37 = .ok (.i2l, 1) := by decide +kernel
theorem dX7_set_38 : decode cX7_set 38 = .ok (.lconst 0, 1) := by decide +kernel
theorem dX7_set_39 : decode cX7_set 39 = .ok (.aload_n 0, 1) := by decide +kernel
theorem dX7_set_40 : decode cX7_set 40 = .ok (.getfield 13, 3) := by decide +kernel
theorem dX7_set_43 : decode cX7_set 43 = .ok (.iload_n 1, 1) := by decide +kernel
theorem dX7_set_44 : decode cX7_set 44 = .ok (.iaload, 1) := by decide +kernel
theorem dX7_set_45 : decode cX7_set 45 = .ok (.iconst 1, 1) := by decide +kernel
theorem dX7_set_46 : decode cX7_set 46 = .ok (.isub, 1) := by decide +kernel
theorem dX7_set_47 : decode cX7_set 47 = .ok (.i2l, 1) := by decide +kernel
theorem dX7_set_48 : decode cX7_set 48 = .ok (.invokestatic 73, 3) := by decide +kernel
theorem dX7_set_51 : decode cX7_set 51 = .ok (.ifCond .ne 9, 3) := by decide +kernel
theorem dX7_set_54 : decode cX7_set 54 = .ok (.aload_n 0, 1) := by decide +kernel
theorem dX7_set_55 : decode cX7_set 55 = .ok (.iconst 2, 1) := by decide +kernel
theorem dX7_set_56 : decode cX7_set 56 = .ok (.invokevirtual 85, 3) := by decide +kernel
theorem dX7_set_59 : decode cX7_set 59 = .ok (.lreturn, 1) := by decide +kernel
theorem dX7_set_60 : decode cX7_set 60 = .ok (.aload_n 0, 1) := by decide +kernel
theorem dX7_set_61 : decode cX7_set 61 = .ok (.getfield 16, 3) := by decide +kernel
theorem dX7_set_64 : decode cX7_set 64 = .ok (.bipush 40, 2) := by decide +kernel
theorem dX7_set_66 : decode cX7_set 66 = .ok (.iload_n 1, 1) := by decide +kernel
theorem dX7_set_67 : decode cX7_set 67 = .ok (.imul, 1) := by decide +kernel
theorem dX7_set_68 : decode cX7_set 68 = .ok (.iload_n 2, 1) := by decide +kernel
theorem dX7_set_69 : decode cX7_set 69 = .ok (.iadd, 1) := by decide +kernel
theorem dX7_set_70 : decode cX7_set 70 = .ok (.aload_n 0, 1) := by decide +kernel
theorem dX7_set_71 : decode cX7_set 71 = .ok (.getfield 9, 3) := by decide +kernel
theorem dX7_set_74 : decode cX7_set 74 = .ok (.iload_n 1, 1) := by decide +kernel
theorem dX7_set_75 : decode cX7_set 75 = .ok (.iaload, 1) := by decide +kernel
theorem dX7_set_76 : decode cX7_set 76 = .ok (.ifCond .ne 8, 3) := by decide +kernel
theorem dX7_set_79 : decode cX7_set 79 = .ok (.iload_n 3, 1) := by decide +kernel
theorem dX7_set_80 : decode cX7_set 80 = .ok (.i2b, 1) := by decide +kernel
theorem dX7_set_81 : decode cX7_set 81 = .ok (.goto 19, 3) := by decide +kernel
theorem dX7_set_84 : decode cX7_set 84 = .ok (.aload_n 0, 1) := by decide +kernel
theorem dX7_set_85 : decode cX7_set 85 = .ok (.getfield 9, 3) := by decide +kernel
theorem dX7_set_88 : decode cX7_set 88 = .ok (.iload_n 1, 1) := by decide +kernel
theorem dX7_set_89 : decode cX7_set 89 = .ok (.iaload, 1) := by decide +kernel
theorem dX7_set_90 : decode cX7_set 90 = .ok (.iconst 1, 1) := by decide +kernel
theorem dX7_set_91 : decode cX7_set 91 = .ok (.if_icmp .ne 8, 3) := by decide +kernel
theorem dX7_set_94 : decode cX7_set 94 = .ok (.iload_n 3, 1) := by decide +kernel
theorem dX7_set_95 : decode cX7_set 95 = .ok (.i2s, 1) := by decide +kernel
theorem dX7_set_96 : decode cX7_set 96 = .ok (.goto 4, 3) := by decide +kernel
theorem dX7_set_99 : decode cX7_set 99 = .ok (.iload_n 3, 1) := by decide +kernel
theorem dX7_set_100 : decode cX7_set 100 = .ok (.iastore, 1) := by decide +kernel
theorem dX7_set_101 : decode cX7_set 101 = .ok (.aload_n 0, 1) := by decide +kernel
theorem dX7_set_102 : decode cX7_set 102 = .ok (.getfield 16, 3) := by decide +kernel
theorem dX7_set_105 : decode cX7_set 105 = .ok (.bipush 40, 2) := by decide +kernel
theorem dX7_set_107 : decode cX7_set 107 = .ok (.iload_n 1, 1) := by decide +kernel
theorem dX7_set_108 : decode cX7_set 108 = .ok (.imul, 1) := by decide +kernel
theorem dX7_set_109 : decode cX7_set 109 = .ok (.iload_n 2, 1) := by decide +kernel
theorem dX7_set_110 : decode cX7_set 110 = .ok (.iadd, 1) := by decide +kernel
theorem dX7_set_111 : decode cX7_set 111 = .ok (.iaload, 1) := by decide +kernel
theorem dX7_set_112 : decode cX7_set 112 = .ok (.i2l, 1) := by decide +kernel
theorem dX7_set_113 : decode cX7_set 113 = .ok (.lreturn, 1) := by decide +kernel
theorem dX7_copy_0 : decode cX7_copy 0 = .ok (.aload_n 0, 1) := by decide +kernel
theorem dX7_copy_1 : decode cX7_copy 1 = .ok (.iconst 0, 1) := by decide +kernel
theorem dX7_copy_2 : decode cX7_copy 2 = .ok (.putfield 62, 3) := by decide +kernel
theorem dX7_copy_5 : decode cX7_copy 5 = .ok (.iload_n 1, 1) := by decide +kernel
theorem dX7_copy_6 : decode cX7_copy 6 = .ok (.invokestatic 77, 3) := by decide +kernel
theorem dX7_copy_9 : decode cX7_copy 9 = .ok (.ifCond .eq 10, 3) := by decide +kernel
theorem dX7_copy_12 : decode cX7_copy 12 = .ok (.iload_n 3, 1) := by decide +kernel
theorem dX7_copy_13 : decode cX7_copy 13 = .ok (.invokestatic 77, 3) := by decide +kernel
theorem dX7_copy_16 : decode cX7_copy 16 = .ok (.ifCond .ne 7, 3) := by decide +kernel
theorem dX7_copy_19 : decode cX7_copy 19 = .ok (.ldc2_w 83, 3) := by decide +kernel
theorem dX7_copy_22 : decode cX7_copy 22 = .ok (.lreturn, 1) := by decide +kernel
theorem dX7_copy_23 : decode cX7_copy 23 = .ok (.aload_n 0, 1) := by decide +kernel
theorem dX7_copy_24 : decode cX7_copy 24 = .ok (.iconst 0, 1) := by decide +kernel
theorem dX7_copy_25 : decode cX7_copy 25 = .ok (.putfield 66, 3) := by decide +kernel
theorem dX7_copy_28 : decode cX7_copy 28 = .ok (.aload_n 0, 1) := by decide +kernel
theorem dX7_copy_29 : decode cX7_copy 29 = .ok (.getfield 9, 3) := by decide +kernel
theorem dX7_copy_32 : decode cX7_copy 32 = .ok (.iload_n 1, 1) := by decide +kernel
theorem dX7_copy_33 : decode cX7_copy 33 = .ok (.iaload, 1) := by decide +kernel
theorem dX7_copy_34 : decode cX7_copy 34 = .ok (.ifCond .lt 12, 3) := by decide +kernel
theorem dX7_copy_37 : decode cX7_copy 37 = .ok (.aload_n 0, 1) := by decide +kernel
theorem dX7_copy_38 : decode cX7_copy 38 = .ok (.getfield 9, 3) := by decide +kernel
theorem dX7_copy_41 : decode cX7_copy 41 = .ok (.iload_n 3, 1) := by decide +kernel
theorem dX7_copy_42 : decode cX7_copy 42 = .ok (.iaload, 1) := by decide +kernel
theorem dX7_copy_43 : decode cX7_copy 43 = .ok (.ifCond .ge 9, 3) := by decide +kernel
theorem dX7_copy_46 : decode cX7_copy 46 = .ok (.aload_n 0, 1) := by decide +kernel
theorem dX7_copy_47 : decode cX7_copy 47 = .ok (.iconst 1, 1) := by decide +kernel
theorem dX7_copy_48 : decode cX7_copy 48 = .ok (.invokevirtual 85, 3) := by decide +kernel
theorem dX7_copy_51 : decode cX7_copy 51 = .ok (.lreturn, 1) := by decide +kernel
theorem dX7_copy_52 : decode cX7_copy 52 = .ok (.aload_n 0, 1) := by decide +kernel
theorem dX7_copy_53 : decode cX7_copy 53 = .ok (.getfield 9, 3) := by decide +kernel
theorem dX7_copy_56 : decode cX7_copy 56 = .ok (.iload_n 1, 1) := by decide +kernel
theorem dX7_copy_57 : decode cX7_copy 57 = .ok (.iaload, 1) := by decide +kernel
theorem dX7_copy_58 : decode cX7_copy 58 = .ok (.aload_n 0, 1) := by decide +kernel
theorem dX7_copy_59 : decode cX7_copy 59 = .ok (.getfield 9, 3) := by decide +kernel
theorem dX7_copy_62 : decode cX7_copy 62 = .ok (.iload_n 3, 1) := by decide +kernel
theorem dX7_copy_63 : decode cX7_copy 63 = .ok (.iaload, 1) := by decide +kernel
theorem dX7_copy_64 : decode cX7_copy 64 = .ok (.if_icmp .eq 9, 3) := by decide +kernel
theorem dX7_copy_67 : decode cX7_copy 67 = .ok (.aload_n 0, 1) := by decide +kernel
theorem dX7_copy_68 : decode cX7_copy 68 = .ok (.iconst 5, 1) := by decide +kernel
theorem dX7_copy_69 : decode cX7_copy 69 = .ok (.invokevirtual 85, 3) := by decide +kernel
theorem dX7_copy_72 : decode cX7_copy 72 = .ok (.lreturn, 1) := by decide +kernel
theorem dX7_copy_73 : decode cX7_copy 73 = .ok (.iload_n 2, 1) := by decide +kernel
theorem dX7_copy_74 : decode cX7_copy 74 = .ok (.ifCond .lt 48, 3) := by decide +kernel
theorem dX7_copy_77 : decode cX7_copy 77 = .ok (.iload 4, 2) := by decide +kernel
theorem dX7_copy_79 : decode cX7_copy 79 = .ok (.ifCond .lt 43, 3) := by decide +kernel
theorem dX7_copy_82 : decode cX7_copy 82 = .ok (.iload 5, 2) := by decide +kernel
theorem dX7_copy_84 : decode cX7_copy 84 = .ok (.ifCond .lt 38, 3) := by decide +kernel
theorem dX7_copy_87 : decode cX7_copy 87 = .ok (.iload_n 2, 1) := by decide +kernel
theorem dX7_copy_88 : decode cX7_copy 88 = .ok (.i2l, 1) := by decide +kernel
theorem dX7_copy_89 : decode cX7_copy 89 = .ok (.iload 5, 2) := by decide +kernel
theorem dX7_copy_91 : decode cX7_copy 91 = .ok (.i2l, 1) := by decide +kernel
theorem dX7_copy_92 : decode cX7_copy 92 = .ok (.ladd, 1) := by decide +kernel
theorem dX7_copy_93 : decode cX7_copy 93 = .ok (.aload_n 0, 1) := by decide +kernel
theorem dX7_copy_94 : decode cX7_copy 94 = .ok (.getfield 13, 3) := by decide +kernel
theorem dX7_copy_97 : decode cX7_copy 97 = .ok (.iload_n 1, 1) := by decide +kernel
theorem dX7_copy_98 : decode cX7_copy 98 = .ok (.iaload, 1) := by decide +kernel
theorem dX7_copy_99 : decode cX7_copy 99 = .ok (.i2l, 1) := by decide +kernel
theorem dX7_copy_100 : decode cX7_copy 100 = .ok (.lcmp, 1) := by decide +kernel
theorem dX7_copy_101 : decode cX7_copy 101 = .ok (.ifCond .gt 21, 3) := by decide +kernel
theorem dX7_copy_104 : decode cX7_copy 104 = .ok (.iload 4, 2) := by decide +kernel
theorem dX7_copy_106 : decode cX7_copy 106 = .ok (.i2l, 1) := by decide +kernel
theorem dX7_copy_107 : decode cX7_copy 107 = .ok (.iload 5, 2) := by decide +kernel
theorem dX7_copy_109 : decode cX7_copy 109 = .ok (.i2l, 1) := by decide +kernel
theorem dX7_copy_110 : decode cX7_copy 110 = .ok (.ladd, 1) := by decide +kernel
theorem dX7_copy_111 : decode cX7_copy 111 = .ok (.aload_n 0, 1) := by decide +kernel
theorem dX7_copy_112 : decode cX7_copy 112 = .ok (.getfield 13, 3) := by decide +kernel
theorem dX7_copy_115 : decode cX7_copy 115 = .ok (.iload_n 3, 1) := by decide +kernel
theorem dX7_copy_116 : decode cX7_copy 116 = .ok (.iaload, 1) := by decide +kernel
theorem dX7_copy_117 : decode cX7_copy 117 = .ok (.i2l, 1) := by decide +kernel
theorem dX7_copy_118 : decode cX7_copy 118 = .ok (.lcmp, 1) := by decide +kernel
theorem dX7_copy_119 : decode cX7_copy 119 = .ok (.ifCond .le 9, 3) := by decide +kernel
theorem dX7_copy_122 : decode cX7_copy 122 = .ok (.aload_n 0, 1) := by decide +kernel
theorem dX7_copy_123 : decode cX7_copy 123 = .ok (.iconst 2, 1) := by decide +kernel
theorem dX7_copy_124 : decode cX7_copy 124 = .ok (.invokevirtual 85, 3) := by decide +kernel
theorem dX7_copy_127 : decode cX7_copy 127 = .ok (.lreturn, 1) := by decide +kernel
theorem dX7_copy_128 : decode cX7_copy 128 = .ok (.iload_n 2, 1) := by decide +kernel
theorem dX7_copy_129 : decode cX7_copy 129 = .ok (.iload 4, 2) := by decide +kernel
theorem dX7_copy_131 : decode cX7_copy 131 = .ok (.if_icmp .lt 7, 3) := by decide +kernel
theorem dX7_copy_134 : decode cX7_copy 134 = .ok (.iconst 1, 1) := by decide +kernel
theorem dX7_copy_135 : decode cX7_copy 135 = .ok (.goto 4, 3) := by decide +kernel
theorem dX7_copy_138 : decode cX7_copy 138 = .ok (.iconst 0, 1) := by decide +kernel
theorem dX7_copy_139 : decode cX7_copy 139 = .ok (.istore 6, 2) := by decide +kernel
theorem dX7_copy_141 : decode cX7_copy 141 = .ok (.iconst 0, 1) := by decide +kernel
theorem dX7_copy_142 : decode cX7_copy 142 = .ok (.istore 7, 2) := by decide +kernel
theorem dX7_copy_144 : decode cX7_copy 144 = .ok (.iload 7, 2) := by decide +kernel
theorem dX7_copy_146 : decode cX7_copy 146 = .ok (.iload 5, 2) := by decide +kernel
theorem dX7_copy_148 : decode cX7_copy 148 = .ok (.if_icmp .ge 57, 3) := by decide +kernel
theorem dX7_copy_151 : decode cX7_copy 151 = .ok (.iload 6, 2) := by decide +kernel
theorem dX7_copy_153 : decode cX7_copy 153 = .ok (.ifCond .eq 8, 3) := by decide +kernel
theorem dX7_copy_156 : decode cX7_copy 156 = .ok (.iload 7, 2) := by decide +kernel
theorem dX7_copy_158 : decode cX7_copy 158 = .ok (.goto 10, 3) := by decide +kernel
theorem dX7_copy_161 : decode cX7_copy 161 = .ok (.iload 5, 2) := by decide +kernel
theorem dX7_copy_163 : decode cX7_copy 163 = .ok (.iconst 1, 1) := by decide +kernel
theorem dX7_copy_164 : decode cX7_copy 164 = .ok (.isub, 1) := by decide +kernel
theorem dX7_copy_165 : decode cX7_copy 165 = .ok (.iload 7, 2) := by decide +kernel
theorem dX7_copy_167 : decode cX7_copy 167 = .ok (.isub, 1) := by decide +kernel
theorem dX7_copy_168 : decode cX7_copy 168 = .ok (.istore 8, 2) := by decide +kernel
theorem dX7_copy_170 : decode cX7_copy 170 = .ok (.aload_n 0, 1) := by decide +kernel
theorem dX7_copy_171 : decode cX7_copy 171 = .ok (.getfield 16, 3) := by decide +kernel
theorem dX7_copy_174 : decode cX7_copy 174 = .ok (.bipush 40, 2) := by decide +kernel
theorem dX7_copy_176 : decode cX7_copy 176 = .ok (.iload_n 3, 1) := by decide +kernel
theorem dX7_copy_177 : decode cX7_copy 177 = .ok (.imul, 1) := by decide +kernel
theorem dX7_copy_178 : decode cX7_copy 178 = .ok (.iload 4, 2) := by decide +kernel
theorem dX7_copy_180 : decode cX7_copy 180 = .ok (.iadd, 1) := by decide +kernel
theorem dX7_copy_181 : decode cX7_copy 181 = .ok (.iload 8, 2) := by decide +kernel
theorem dX7_copy_183 : decode cX7_copy 183 = .ok (.iadd, 1) := by decide +kernel
theorem dX7_copy_184 : decode cX7_copy 184 = .ok (.aload_n 0, 1) := by decide +kernel
theorem dX7_copy_185 : decode cX7_copy 185 = .ok (.getfield 16, 3) := by decide +kernel
theorem dX7_copy_188 : decode cX7_copy 188 = .ok (.bipush 40, 2) := by decide +kernel
theorem dX7_copy_190 : decode cX7_copy 190 = .ok (.iload_n 1, 1) := by decide +kernel
theorem dX7_copy_191 : decode cX7_copy 191 = .ok (.imul, 1) := by decide +kernel
theorem dX7_copy_192 : decode cX7_copy 192 = .ok (.iload_n 2, 1) := by decide +kernel
theorem dX7_copy_193 : decode cX7_copy 193 = .ok (.iadd, 1) := by decide +kernel
theorem dX7_copy_194 : decode cX7_copy 194 = .ok (.iload 8, 2) := by decide +kernel
theorem dX7_copy_196 : decode cX7_copy 196 = .ok (.iadd, 1) := by decide +kernel
theorem dX7_copy_197 : decode cX7_copy 197 = .ok (.iaload, 1) := by decide +kernel
theorem dX7_copy_198 : decode cX7_copy 198 = .ok (.iastore, 1) := by decide +kernel
theorem dX7_copy_199 : decode cX7_copy 199 = .ok (.iinc 7 1, 3) := by decide +kernel
theorem dX7_copy_202 : decode cX7_copy 202 = .ok (.goto (-58), 3) := by decide +kernel
theorem dX7_copy_205 : decode cX7_copy 205 = .ok (.iload 5, 2) := by decide +kernel
theorem dX7_copy_207 : decode cX7_copy 207 = .ok (.i2l, 1) := by decide +kernel
theorem dX7_copy_208 : decode cX7_copy 208 = .ok (.lreturn, 1) := by decide +kernel
theorem dX7_drop_0 : decode cX7_drop 0 = .ok (.aload_n 0, 1) := by decide +kernel
theorem dX7_drop_1 : decode cX7_drop 1 = .ok (.iconst 0, 1) := by decide +kernel
theorem dX7_drop_2 : decode cX7_drop 2 = .ok (.putfield 62, 3) := by decide +kernel
theorem dX7_drop_5 : decode cX7_drop 5 = .ok (.iload_n 1, 1) := by decide +kernel
theorem dX7_drop_6 : decode cX7_drop 6 = .ok (.invokestatic 77, 3) := by decide +kernel
theorem dX7_drop_9 : decode cX7_drop 9 = .ok (.ifCond .ne 7, 3) := by decide +kernel
theorem dX7_drop_12 : decode cX7_drop 12 = .ok (.ldc2_w 83, 3) := by decide +kernel
theorem dX7_drop_15 : decode cX7_drop 15 = .ok (.lreturn, 1) := by decide +kernel
theorem dX7_drop_16 : decode cX7_drop 16 = .ok (.aload_n 0, 1) := by decide +kernel
theorem dX7_drop_17 : decode cX7_drop 17 = .ok (.iconst 0, 1) := by decide +kernel
theorem dX7_drop_18 : decode cX7_drop 18 = .ok (.putfield 66, 3) := by decide +kernel
theorem dX7_drop_21 : decode cX7_drop 21 = .ok (.aload_n 0, 1) := by decide +kernel
theorem dX7_drop_22 : decode cX7_drop 22 = .ok (.getfield 9, 3) := by decide +kernel
theorem dX7_drop_25 : decode cX7_drop 25 = .ok (.iload_n 1, 1) := by decide +kernel
theorem dX7_drop_26 : decode cX7_drop 26 = .ok (.iaload, 1) := by decide +kernel
theorem dX7_drop_27 : decode cX7_drop 27 = .ok (.ifCond .ge 9, 3) := by decide +kernel
theorem dX7_drop_30 : decode cX7_drop 30 = .ok (.aload_n 0, 1) := by decide +kernel
theorem dX7_drop_31 : decode cX7_drop 31 = .ok (.iconst 1, 1) := by decide +kernel
theorem dX7_drop_32 : decode cX7_drop 32 = .ok (.invokevirtual 85, 3) := by decide +kernel
theorem dX7_drop_35 : decode cX7_drop 35 = .ok (.lreturn, 1) := by decide +kernel
theorem dX7_drop_36 : decode cX7_drop 36 = .ok (.aload_n 0, 1) := by decide +kernel
theorem dX7_drop_37 : decode cX7_drop 37 = .ok (.getfield 9, 3) := by decide +kernel
theorem dX7_drop_40 : decode cX7_drop 40 = .ok (.iload_n 1, 1) := by decide +kernel
theorem dX7_drop_41 : decode cX7_drop 41 = .ok (.iconst (-1), 1) := by decide +kernel
theorem dX7_drop_42 : decode cX7_drop 42 = .ok (.iastore, 1) := by decide +kernel
theorem dX7_drop_43 : decode cX7_drop 43 = .ok (.aload_n 0, 1) := by decide +kernel
theorem dX7_drop_44 : decode cX7_drop 44 = .ok (.getfield 13, 3) := by decide +kernel
theorem dX7_drop_47 : decode cX7_drop 47 = .ok (.iload_n 1, 1) := by decide +kernel
theorem dX7_drop_48 : decode cX7_drop 48 = .ok (.iaload, 1) := by decide +kernel
theorem dX7_drop_49 : decode cX7_drop 49 = .ok (.i2l, 1) := by decide +kernel
theorem dX7_drop_50 : decode cX7_drop 50 = .ok (.lreturn, 1) := by decide +kernel
theorem dX7_lookItems_0 : decode cX7_lookItems 0 = .ok (.aload_n 0, 1) := by decide +kernel
theorem dX7_lookItems_1 : decode cX7_lookItems 1 = .ok (.getfield 9, 3) := by decide +kernel
theorem dX7_lookItems_4 : decode cX7_lookItems 4 = .ok (.iload_n 1, 1) := by decide +kernel
theorem dX7_lookItems_5 : decode cX7_lookItems 5 = .ok (.iaload, 1) := by decide +kernel
theorem dX7_lookItems_6 : decode cX7_lookItems 6 = .ok (.ifCond .ge 9, 3) := by decide +kernel
theorem dX7_lookItems_9 : decode cX7_lookItems 9 = .ok (.aload_n 0, 1) := by decide +kernel
theorem dX7_lookItems_10 : decode cX7_lookItems 10 = .ok (.iconst 1, 1) := by decide +kernel
theorem dX7_lookItems_11 : decode cX7_lookItems 11 = .ok (.invokevirtual 85, 3) := by decide +kernel
theorem dX7_lookItems_14 : decode cX7_lookItems 14 = .ok (.lreturn, 1) := by decide +kernel
theorem dX7_lookItems_15 : decode cX7_lookItems 15 = .ok (.iload_n 2, 1) := by decide +kernel
theorem dX7_lookItems_16 : decode cX7_lookItems 16 = .ok (.ifCond .lt 19, 3) := by decide +kernel
theorem dX7_lookItems_19 : decode cX7_lookItems 19 = .ok (.iload_n 2, 1) := by decide +kernel
theorem dX7_lookItems_20 : decode cX7_lookItems 20 = .ok (.i2l, 1) := by decide +kernel
theorem dX7_lookItems_21 : decode cX7_lookItems 21 = .ok (.iload_n 3, 1) := by decide +kernel
theorem dX7_lookItems_22 : decode cX7_lookItems 22 = .ok (.i2l, 1) := by decide +kernel
theorem dX7_lookItems_23 : decode cX7_lookItems 23 = .ok (.ladd, 1) := by decide +kernel
theorem dX7_lookItems_24 : decode cX7_lookItems 24 = .ok (.aload_n 0, 1) := by decide +kernel
theorem dX7_lookItems_25 : decode cX7_lookItems 25 = .ok (.getfield 13, 3) := by decide +kernel
theorem dX7_lookItems_28 : decode cX7_lookItems 28 = .ok (.iload_n 1, 1) := by decide +kernel
theorem dX7_lookItems_29 : decode cX7_lookItems 29 = .ok (.iaload, 1) := by decide +kernel
theorem dX7_lookItems_30 : decode cX7_lookItems 30 = .ok (.i2l, 1) := by decide +kernel
theorem dX7_lookItems_31 : decode cX7_lookItems 31 = .ok (.lcmp, 1) := by decide +kernel
theorem dX7_lookItems_32 : decode cX7_lookItems 32 = .ok (.ifCond .le 11, 3) := by decide +kernel
theorem dX7_lookItems_35 : decode cX7_lookItems 35 = .ok (.aload_n 0, 1) := by decide +kernel
theorem dX7_lookItems_36 : decode cX7_lookItems 36 = .ok (.iconst 2, 1) := by decide +kernel
theorem dX7_lookItems_37 : decode cX7_lookItems 37 = .ok (.invokevirtual 85, 3) := by decide +kernel
theorem dX7_lookItems_40 : decode cX7_lookItems 40 = .ok (.goto 4, 3) := by decide +kernel
theorem dX7_lookItems_43 : decode cX7_lookItems 43 = .ok (.lconst 0, 1) := by decide +kernel
theorem dX7_lookItems_44 : decode cX7_lookItems 44 = .ok (.lreturn, 1) := by decide +kernel
theorem dX7_feed_0 : decode cX7_feed 0 = .ok (.aload_n 0, 1) := by decide +kernel
theorem dX7_feed_1 : decode cX7_feed 1 = .ok (.iconst 0, 1) := by decide +kernel
theorem dX7_feed_2 : decode cX7_feed 2 = .ok (.putfield 62, 3) := by decide +kernel
theorem dX7_feed_5 : decode cX7_feed 5 = .ok (.iload_n 3, 1) := by decide +kernel
theorem dX7_feed_6 : decode cX7_feed 6 = .ok (.i2l, 1) := by decide +kernel
theorem dX7_feed_7 : decode cX7_feed 7 = .ok (.lconst 1, 1) := by decide +kernel
theorem dX7_feed_8 : decode cX7_feed 8 = .ok (.ldc2_w 89, 3) := by decide +kernel
theorem dX7_feed_11 : decode cX7_feed 11 = .ok (.invokestatic 73, 3) := by decide +kernel
theorem dX7_feed_14 : decode cX7_feed 14 = .ok (.ifCond .ne 7, 3) := by decide +kernel
theorem dX7_feed_17 : decode cX7_feed 17 = .ok (.ldc2_w 83, 3) := by decide +kernel
theorem dX7_feed_20 : decode cX7_feed 20 = .ok (.lreturn, 1) := by decide +kernel
theorem dX7_feed_21 : decode cX7_feed 21 = .ok (.aload_n 0, 1) := by decide +kernel
theorem dX7_feed_22 : decode cX7_feed 22 = .ok (.getfield 91, 3) := by decide +kernel
theorem dX7_feed_25 : decode cX7_feed 25 = .ok (.iload_n 3, 1) := by decide +kernel
theorem dX7_feed_26 : decode cX7_feed 26 = .ok (.iadd, 1) := by decide +kernel
theorem dX7_feed_27 : decode cX7_feed 27 = .ok (.sipush 400, 3) := by decide +kernel
theorem dX7_feed_30 : decode cX7_feed 30 = .ok (.if_icmp .le 7, 3) := by decide +kernel
theorem dX7_feed_33 : decode cX7_feed 33 = .ok (.ldc2_w 94, 3) := by decide +kernel
theorem dX7_feed_36 : decode cX7_feed 36 = .ok (.lreturn, 1) := by decide +kernel
theorem dX7_feed_37 : decode cX7_feed 37 = .ok (.iload_n 3, 1) := by decide +kernel
theorem dX7_feed_38 : decode cX7_feed 38 = .ok (.iconst 1, 1) := by decide +kernel
theorem dX7_feed_39 : decode cX7_feed 39 = .ok (.isub, 1) := by decide +kernel
theorem dX7_feed_40 : decode cX7_feed 40 = .ok (.istore 4, 2) := by decide +kernel
theorem dX7_feed_42 : decode cX7_feed 42 = .ok (.iload 4, 2) := by decide +kernel
theorem dX7_feed_44 : decode cX7_feed 44 = .ok (.ifCond .lt 40, 3) := by decide +kernel
theorem dX7_feed_47 : decode cX7_feed 47 = .ok (.aload_n 0, 1) := by decide +kernel
theorem dX7_feed_48 : decode cX7_feed 48 = .ok (.getfield 37, 3) := by decide +kernel
theorem dX7_feed_51 : decode cX7_feed 51 = .ok (.aload_n 0, 1) := by decide +kernel
theorem dX7_feed_52 : decode cX7_feed 52 = .ok (.getfield 91, 3) := by decide +kernel
theorem dX7_feed_55 : decode cX7_feed 55 = .ok (.lload_n 1, 1) := by decide +kernel
theorem dX7_feed_56 : decode cX7_feed 56 = .ok (.bipush 8, 2) := by decide +kernel
theorem dX7_feed_58 : decode cX7_feed 58 = .ok (.iload 4, 2) := by decide +kernel
theorem dX7_feed_60 : decode cX7_feed 60 = .ok (.imul, 1) := by decide +kernel
theorem dX7_feed_61 : decode cX7_feed 61 = .ok (.lshr, 1) := by decide +kernel
theorem dX7_feed_62 : decode cX7_feed 62 = .ok (.ldc2_w 96, 3) := by decide +kernel
theorem dX7_feed_65 : decode cX7_feed 65 = .ok (.land, 1) := by decide +kernel
theorem dX7_feed_66 : decode cX7_feed 66 = .ok (.l2i, 1) := by decide +kernel
theorem dX7_feed_67 : decode cX7_feed 67 = .ok (.iastore, 1) := by decide +kernel
theorem dX7_feed_68 : decode cX7_feed 68 = .ok (.aload_n 0, 1) := by decide +kernel
theorem dX7_feed_69 : decode cX7_feed 69 = .ok (.dup, 1) := by decide +kernel
theorem dX7_feed_70 : decode cX7_feed 70 = .ok (.getfield 91, 3) := by decide +kernel
theorem dX7_feed_73 : decode cX7_feed 73 = .ok (.iconst 1, 1) := by decide +kernel
theorem dX7_feed_74 : decode cX7_feed 74 = .ok (.iadd, 1) := by decide +kernel
theorem dX7_feed_75 : decode cX7_feed 75 = .ok (.putfield 91, 3) := by decide +kernel
theorem dX7_feed_78 : decode cX7_feed 78 = .ok (.iinc 4 (-1), 3) := by decide +kernel
theorem dX7_feed_81 : decode cX7_feed 81 = .ok (.goto (-39), 3) := by decide +kernel
theorem dX7_feed_84 : decode cX7_feed 84 = .ok (.aload_n 0, 1) := by decide +kernel
theorem dX7_feed_85 : decode cX7_feed 85 = .ok (.getfield 91, 3) := by decide +kernel
theorem dX7_feed_88 : decode cX7_feed 88 = .ok (.i2l, 1) := by decide +kernel
theorem dX7_feed_89 : decode cX7_feed 89 = .ok (.lreturn, 1) := by decide +kernel
theorem dX7_byteAt_0 : decode cX7_byteAt 0 = .ok (.iload_n 1, 1) := by decide +kernel
theorem dX7_byteAt_1 : decode cX7_byteAt 1 = .ok (.aload_n 0, 1) := by decide +kernel
theorem dX7_byteAt_2 : decode cX7_byteAt 2 = .ok (.getfield 98, 3) := by decide +kernel
theorem dX7_byteAt_5 : decode cX7_byteAt 5 = .ok (.if_icmp .ge 12, 3) := by decide +kernel
theorem dX7_byteAt_8 : decode cX7_byteAt 8 = .ok (.aload_n 0, 1) := by decide +kernel
theorem dX7_byteAt_9 : decode cX7_byteAt 9 = .ok (.getfield 37, 3) := by decide +kernel
theorem dX7_byteAt_12 : decode cX7_byteAt 12 = .ok (.iload_n 1, 1) := by decide +kernel
theorem dX7_byteAt_13 : decode cX7_byteAt 13 = .ok (.iaload, 1) := by decide +kernel
theorem dX7_byteAt_14 : decode cX7_byteAt 14 = .ok (.goto 5, 3) := by decide +kernel
theorem dX7_byteAt_17 : decode cX7_byteAt 17 = .ok (.ldc 101, 2) := by decide +kernel
theorem dX7_byteAt_19 : decode cX7_byteAt 19 = .ok (.ireturn, 1) := by decide +kernel
theorem dX7_isLetter_0 : decode cX7_isLetter 0 = .ok (.iload_n 0, 1) := by decide +kernel
theorem dX7_isLetter_1 : decode cX7_isLetter 1 = .ok (.bipush 97, 2) := by decide +kernel
theorem dX7_isLetter_3 : decode cX7_isLetter 3 = .ok (.if_icmp .lt 13, 3) := by decide +kernel
theorem dX7_isLetter_6 : decode cX7_isLetter 6 = .ok (.iload_n 0, 1) := by decide +kernel
theorem dX7_isLetter_7 : decode cX7_isLetter 7 = .ok (.bipush 122, 2) := by decide +kernel
theorem dX7_isLetter_9 : decode cX7_isLetter 9 = .ok (.if_icmp .gt 7, 3) := by decide +kernel
theorem dX7_isLetter_12 : decode cX7_isLetter 12 = .ok (.iconst 1, 1) := by decide +kernel
theorem dX7_isLetter_13 : decode cX7_isLetter 13 = .ok (.goto 4, 3) := by decide +kernel
theorem dX7_isLetter_16 : decode cX7_isLetter 16 = .ok (.iconst 0, 1) := by decide +kernel
theorem dX7_isLetter_17 : decode cX7_isLetter 17 = .ok (.ireturn, 1) := by decide +kernel
theorem dX7_isFigure_0 : decode cX7_isFigure 0 = .ok (.iload_n 0, 1) := by decide +kernel
theorem dX7_isFigure_1 : decode cX7_isFigure 1 = .ok (.bipush 48, 2) := by decide +kernel
theorem dX7_isFigure_3 : decode cX7_isFigure 3 = .ok (.if_icmp .lt 13, 3) := by decide +kernel
theorem dX7_isFigure_6 : decode cX7_isFigure 6 = .ok (.iload_n 0, 1) := by decide +kernel
theorem dX7_isFigure_7 : decode cX7_isFigure 7 = .ok (.bipush 57, 2) := by decide +kernel
theorem dX7_isFigure_9 : decode cX7_isFigure 9 = .ok (.if_icmp .gt 7, 3) := by decide +kernel
theorem dX7_isFigure_12 : decode cX7_isFigure 12 = .ok (.iconst 1, 1) := by decide +kernel
theorem dX7_isFigure_13 : decode cX7_isFigure 13 = .ok (.goto 4, 3) := by decide +kernel
theorem dX7_isFigure_16 : decode cX7_isFigure 16 = .ok (.iconst 0, 1) := by decide +kernel
theorem dX7_isFigure_17 : decode cX7_isFigure 17 = .ok (.ireturn, 1) := by decide +kernel
theorem dX7_next_0 : decode cX7_next 0 = .ok (.aload_n 0, 1) := by decide +kernel
theorem dX7_next_1 : decode cX7_next 1 = .ok (.aload_n 0, 1) := by decide +kernel
theorem dX7_next_2 : decode cX7_next 2 = .ok (.getfield 102, 3) := by decide +kernel
theorem dX7_next_5 : decode cX7_next 5 = .ok (.invokevirtual 105, 3) := by decide +kernel
theorem dX7_next_8 : decode cX7_next 8 = .ok (.bipush 32, 2) := by decide +kernel
theorem dX7_next_10 : decode cX7_next 10 = .ok (.if_icmp .eq 16, 3) := by decide +kernel
theorem dX7_next_13 : decode cX7_next 13 = .ok (.aload_n 0, 1) := by decide +kernel
theorem dX7_next_14 : decode cX7_next 14 = .ok (.aload_n 0, 1) := by decide +kernel
theorem dX7_next_15 : decode cX7_next 15 = .ok (.getfield 102, 3) := by decide +kernel
theorem dX7_next_18 : decode cX7_next 18 = .ok (.invokevirtual 105, 3) := by decide +kernel
theorem dX7_next_21 : decode cX7_next 21 = .ok (.bipush 10, 2) := by decide +kernel
theorem dX7_next_23 : decode cX7_next 23 = .ok (.if_icmp .ne 16, 3) := by decide +kernel
theorem dX7_next_26 : decode cX7_next 26 = .ok (.aload_n 0, 1) := by decide +kernel
theorem dX7_next_27 : decode cX7_next 27 = .ok (.dup, 1) := by decide +kernel
theorem dX7_next_28 : decode cX7_next 28 = .ok (.getfield 102, 3) := by decide +kernel
theorem dX7_next_31 : decode cX7_next 31 = .ok (.iconst 1, 1) := by decide +kernel
theorem dX7_next_32 : decode cX7_next 32 = .ok (.iadd, 1) := by decide +kernel
theorem dX7_next_33 : decode cX7_next 33 = .ok (.putfield 102, 3) := by decide +kernel
theorem dX7_next_36 : decode cX7_next 36 = .ok (.goto (-36), 3) := by decide +kernel
theorem dX7_next_39 : decode cX7_next 39 = .ok (.aload_n 0, 1) := by decide +kernel
theorem dX7_next_40 : decode cX7_next 40 = .ok (.aload_n 0, 1) := by decide +kernel
theorem dX7_next_41 : decode cX7_next 41 = .ok (.getfield 102, 3) := by decide +kernel
theorem dX7_next_44 : decode cX7_next 44 = .ok (.putfield 109, 3) := by decide +kernel
theorem dX7_next_47 : decode cX7_next 47 = .ok (.aload_n 0, 1) := by decide +kernel
theorem dX7_next_48 : decode cX7_next 48 = .ok (.aload_n 0, 1) := by decide +kernel
theorem dX7_next_49 : decode cX7_next 49 = .ok (.getfield 102, 3) := by decide +kernel
theorem dX7_next_52 : decode cX7_next 52 = .ok (.invokevirtual 105, 3) := by decide +kernel
theorem dX7_next_55 : decode cX7_next 55 = .ok (.istore_n 1, 1) := by decide +kernel
theorem dX7_next_56 : decode cX7_next 56 = .ok (.iload_n 1, 1) := by decide +kernel
theorem dX7_next_57 : decode cX7_next 57 = .ok (.ldc 101, 2) := by decide +kernel
theorem dX7_next_59 : decode cX7_next 59 = .ok (.if_icmp .ne 11, 3) := by decide +kernel
theorem dX7_next_62 : decode cX7_next 62 = .ok (.aload_n 0, 1) := by decide +kernel
theorem dX7_next_63 : decode cX7_next 63 = .ok (.iconst 1, 1) := by decide +kernel
theorem dX7_next_64 : decode cX7_next 64 = .ok (.putfield 112, 3) := by decide +kernel
theorem dX7_next_67 : decode cX7_next 67 = .ok (.goto 129, 3) := by decide +kernel
theorem dX7_next_70 : decode cX7_next 70 = .ok (.iload_n 1, 1) := by decide +kernel
theorem dX7_next_71 : decode cX7_next 71 = .ok (.invokestatic 115, 3) := by decide +kernel
theorem dX7_next_74 : decode cX7_next 74 = .ok (.ifCond .eq 38, 3) := by decide +kernel
theorem dX7_next_77 : decode cX7_next 77 = .ok (.aload_n 0, 1) := by decide +kernel
theorem dX7_next_78 : decode cX7_next 78 = .ok (.aload_n 0, 1) := by decide +kernel
theorem dX7_next_79 : decode cX7_next 79 = .ok (.getfield 102, 3) := by decide +kernel
theorem dX7_next_82 : decode cX7_next 82 = .ok (.invokevirtual 105, 3) := by decide +kernel
theorem dX7_next_85 : decode cX7_next 85 = .ok (.invokestatic 115, 3) := by decide +kernel
theorem dX7_next_88 : decode cX7_next 88 = .ok (.ifCond .eq 16, 3) := by decide +kernel
theorem dX7_next_91 : decode cX7_next 91 = .ok (.aload_n 0, 1) := by decide +kernel
theorem dX7_next_92 : decode cX7_next 92 = .ok (.dup, 1) := by decide +kernel
theorem dX7_next_93 : decode cX7_next 93 = .ok (.getfield 102, 3) := by decide +kernel
theorem dX7_next_96 : decode cX7_next 96 = .ok (.iconst 1, 1) := by decide +kernel
theorem dX7_next_97 : decode cX7_next 97 = .ok (.iadd, 1) := by decide +kernel
theorem dX7_next_98 : decode cX7_next 98 = .ok (.putfield 102, 3) := by decide +kernel
theorem dX7_next_101 : decode cX7_next 101 = .ok (.goto (-24), 3) := by decide +kernel
theorem dX7_next_104 : decode cX7_next 104 = .ok (.aload_n 0, 1) := by decide +kernel
theorem dX7_next_105 : decode cX7_next 105 = .ok (.iconst 2, 1) := by decide +kernel
theorem dX7_next_106 : decode cX7_next 106 = .ok (.putfield 112, 3) := by decide +kernel
theorem dX7_next_109 : decode cX7_next 109 = .ok (.goto 87, 3) := by decide +kernel
theorem dX7_next_112 : decode cX7_next 112 = .ok (.iload_n 1, 1) := by decide +kernel
theorem dX7_next_113 : decode cX7_next 113 = .ok (.invokestatic 118, 3) := by decide +kernel
theorem dX7_next_116 : decode cX7_next 116 = .ok (.ifCond .eq 55, 3) := by decide +kernel
theorem dX7_next_119 : decode cX7_next 119 = .ok (.aload_n 0, 1) := by decide +kernel
theorem dX7_next_120 : decode cX7_next 120 = .ok (.aload_n 0, 1) := by decide +kernel
theorem dX7_next_121 : decode cX7_next 121 = .ok (.getfield 102, 3) := by decide +kernel
theorem dX7_next_124 : decode cX7_next 124 = .ok (.invokevirtual 105, 3) := by decide +kernel
theorem dX7_next_127 : decode cX7_next 127 = .ok (.invokestatic 118, 3) := by decide +kernel
theorem dX7_next_130 : decode cX7_next 130 = .ok (.ifCond .eq 16, 3) := by decide +kernel
theorem dX7_next_133 : decode cX7_next 133 = .ok (.aload_n 0, 1) := by decide +kernel
theorem dX7_next_134 : decode cX7_next 134 = .ok (.dup, 1) := by decide +kernel
theorem dX7_next_135 : decode cX7_next 135 = .ok (.getfield 102, 3) := by decide +kernel
theorem dX7_next_138 : decode cX7_next 138 = .ok (.iconst 1, 1) := by decide +kernel
theorem dX7_next_139 : decode cX7_next 139 = .ok (.iadd, 1) := by decide +kernel
theorem dX7_next_140 : decode cX7_next 140 = .ok (.putfield 102, 3) := by decide +kernel
theorem dX7_next_143 : decode cX7_next 143 = .ok (.goto (-24), 3) := by decide +kernel
theorem dX7_next_146 : decode cX7_next 146 = .ok (.aload_n 0, 1) := by decide +kernel
theorem dX7_next_147 : decode cX7_next 147 = .ok (.aload_n 0, 1) := by decide +kernel
theorem dX7_next_148 : decode cX7_next 148 = .ok (.getfield 102, 3) := by decide +kernel
theorem dX7_next_151 : decode cX7_next 151 = .ok (.aload_n 0, 1) := by decide +kernel
theorem dX7_next_152 : decode cX7_next 152 = .ok (.getfield 109, 3) := by decide +kernel
theorem dX7_next_155 : decode cX7_next 155 = .ok (.isub, 1) := by decide +kernel
theorem dX7_next_156 : decode cX7_next 156 = .ok (.iconst 2, 1) := by decide +kernel
theorem dX7_next_157 : decode cX7_next 157 = .ok (.if_icmp .le 7, 3) := by decide +kernel
theorem dX7_next_160 : decode cX7_next 160 = .ok (.iconst 0, 1) := by decide +kernel
theorem dX7_next_161 : decode cX7_next 161 = .ok (.goto 4, 3) := by decide +kernel
theorem dX7_next_164 : decode cX7_next 164 = .ok (.iconst 3, 1) := by decide +kernel
theorem dX7_next_165 : decode cX7_next 165 = .ok (.putfield 112, 3) := by decide +kernel
theorem dX7_next_168 : decode cX7_next 168 = .ok (.goto 28, 3) := by decide +kernel
theorem dX7_next_171 : decode cX7_next 171 = .ok (.aload_n 0, 1) := by decide +kernel
theorem dX7_next_172 : decode cX7_next 172 = .ok (.dup, 1) := by decide +kernel
theorem dX7_next_173 : decode cX7_next 173 = .ok (.getfield 102, 3) := by decide +kernel
theorem dX7_next_176 : decode cX7_next 176 = .ok (.iconst 1, 1) := by decide +kernel
theorem dX7_next_177 : decode cX7_next 177 = .ok (.iadd, 1) := by decide +kernel
theorem dX7_next_178 : decode cX7_next 178 = .ok (.putfield 102, 3) := by decide +kernel
theorem dX7_next_181 : decode cX7_next 181 = .ok (.aload_n 0, 1) := by decide +kernel
theorem dX7_next_182 : decode cX7_next 182 = .ok (.iload_n 1, 1) := by decide +kernel
theorem dX7_next_183 : decode cX7_next 183 = .ok (.bipush 59, 2) := by decide +kernel
theorem dX7_next_185 : decode cX7_next 185 = .ok (.if_icmp .ne 7, 3) := by decide +kernel
theorem dX7_next_188 : decode cX7_next 188 = .ok (.iconst 4, 1) := by decide +kernel
theorem dX7_next_189 : decode cX7_next 189 = .ok (.goto 4, 3) := by decide +kernel
theorem dX7_next_192 : decode cX7_next 192 = .ok (.iconst 0, 1) := by decide +kernel
theorem dX7_next_193 : decode cX7_next 193 = .ok (.putfield 112, 3) := by decide +kernel
theorem dX7_next_196 : decode cX7_next 196 = .ok (.aload_n 0, 1) := by decide +kernel
theorem dX7_next_197 : decode cX7_next 197 = .ok (.aload_n 0, 1) := by decide +kernel
theorem dX7_next_198 : decode cX7_next 198 = .ok (.getfield 102, 3) := by decide +kernel
theorem dX7_next_201 : decode cX7_next 201 = .ok (.putfield 121, 3) := by decide +kernel
theorem dX7_next_204 : decode cX7_next 204 = .ok (.return_, 1) := by decide +kernel
theorem dX7_bad_0 : decode cX7_bad 0 = .ok (.aload_n 0, 1) := by decide +kernel
theorem dX7_bad_1 : decode cX7_bad 1 = .ok (.getfield 124, 3) := by decide +kernel
theorem dX7_bad_4 : decode cX7_bad 4 = .ok (.ifCond .ne 16, 3) := by decide +kernel
theorem dX7_bad_7 : decode cX7_bad 7 = .ok (.aload_n 0, 1) := by decide +kernel
theorem dX7_bad_8 : decode cX7_bad 8 = .ok (.iload_n 1, 1) := by decide +kernel
theorem dX7_bad_9 : decode cX7_bad 9 = .ok (.putfield 124, 3) := by decide +kernel
theorem dX7_bad_12 : decode cX7_bad 12 = .ok (.aload_n 0, 1) := by decide +kernel
theorem dX7_bad_13 : decode cX7_bad 13 = .ok (.aload_n 0, 1) := by decide +kernel
theorem dX7_bad_14 : decode cX7_bad 14 = .ok (.getfield 109, 3) := by decide +kernel
theorem dX7_bad_17 : decode cX7_bad 17 = .ok (.putfield 127, 3) := by decide +kernel
theorem dX7_bad_20 : decode cX7_bad 20 = .ok (.return_, 1) := by decide +kernel
theorem dX7_must_0 : decode cX7_must 0 = .ok (.iload_n 1, 1) := by decide +kernel
theorem dX7_must_1 : decode cX7_must 1 = .ok (.ifCond .ne 8, 3) := by decide +kernel
theorem dX7_must_4 : decode cX7_must 4 = .ok (.aload_n 0, 1) := by decide +kernel
theorem dX7_must_5 : decode cX7_must 5 = .ok (.iconst 1, 1) := by decide +kernel
theorem dX7_must_6 : decode cX7_must 6 = .ok (.invokevirtual 130, 3) := by decide +kernel
theorem dX7_must_9 : decode cX7_must 9 = .ok (.aload_n 0, 1) := by decide +kernel
theorem dX7_must_10 : decode cX7_must 10 = .ok (.getfield 124, 3) := by decide +kernel
theorem dX7_must_13 : decode cX7_must 13 = .ok (.ifCond .ne 7, 3) := by decide +kernel
theorem dX7_must_16 : decode cX7_must 16 = .ok (.aload_n 0, 1) := by decide +kernel
theorem dX7_must_17 : decode cX7_must 17 = .ok (.invokevirtual 134, 3) := by decide +kernel
theorem dX7_must_20 : decode cX7_must 20 = .ok (.return_, 1) := by decide +kernel
theorem dX7_word_0 : decode cX7_word 0 = .ok (.lconst 0, 1) := by decide +kernel
theorem dX7_word_1 : decode cX7_word 1 = .ok (.lstore_n 1, 1) := by decide +kernel
theorem dX7_word_2 : decode cX7_word 2 = .ok (.aload_n 0, 1) := by decide +kernel
theorem dX7_word_3 : decode cX7_word 3 = .ok (.getfield 109, 3) := by decide +kernel
theorem dX7_word_6 : decode cX7_word 6 = .ok (.istore_n 3, 1) := by decide +kernel
theorem dX7_word_7 : decode cX7_word 7 = .ok (.iload_n 3, 1) := by decide +kernel
theorem dX7_word_8 : decode cX7_word 8 = .ok (.aload_n 0, 1) := by decide +kernel
theorem dX7_word_9 : decode cX7_word 9 = .ok (.getfield 121, 3) := by decide +kernel
theorem dX7_word_12 : decode cX7_word 12 = .ok (.if_icmp .ge 44, 3) := by decide +kernel
theorem dX7_word_15 : decode cX7_word 15 = .ok (.aload_n 0, 1) := by decide +kernel
theorem dX7_word_16 : decode cX7_word 16 = .ok (.getfield 112, 3) := by decide +kernel
theorem dX7_word_19 : decode cX7_word 19 = .ok (.iconst 2, 1) := by decide +kernel
theorem dX7_word_20 : decode cX7_word 20 = .ok (.if_icmp .ne 36, 3) := by decide +kernel
theorem dX7_word_23 : decode cX7_word 23 = .ok (.aload_n 0, 1) := by decide +kernel
theorem dX7_word_24 : decode cX7_word 24 = .ok (.getfield 121, 3) := by decide +kernel
theorem dX7_word_27 : decode cX7_word 27 = .ok (.aload_n 0, 1) := by decide +kernel
theorem dX7_word_28 : decode cX7_word 28 = .ok (.getfield 109, 3) := by decide +kernel
theorem dX7_word_31 : decode cX7_word 31 = .ok (.isub, 1) := by decide +kernel
theorem dX7_word_32 : decode cX7_word 32 = .ok (.bipush 8, 2) := by decide +kernel
theorem dX7_word_34 : decode cX7_word 34 = .ok (.if_icmp .ge 22, 3) := by decide +kernel
theorem dX7_word_37 : decode cX7_word 37 = .ok (.lload_n 1, 1) := by decide +kernel
theorem dX7_word_38 : decode cX7_word 38 = .ok (.bipush 8, 2) := by decide +kernel
theorem dX7_word_40 : decode cX7_word 40 = .ok (.lshl, 1) := by decide +kernel
theorem dX7_word_41 : decode cX7_word 41 = .ok (.aload_n 0, 1) := by decide +kernel
theorem dX7_word_42 : decode cX7_word 42 = .ok (.getfield 37, 3) := by decide +kernel
theorem dX7_word_45 : decode cX7_word 45 = .ok (.iload_n 3, 1) := by decide +kernel
theorem dX7_word_46 : decode cX7_word 46 = .ok (.iaload, 1) := by decide +kernel
theorem dX7_word_47 : decode cX7_word 47 = .ok (.i2l, 1) := by decide +kernel
theorem dX7_word_48 : decode cX7_word 48 = .ok (.lor, 1) := by decide +kernel
theorem dX7_word_49 : decode cX7_word 49 = .ok (.lstore_n 1, 1) := by decide +kernel
theorem dX7_word_50 : decode cX7_word 50 = .ok (.iinc 3 1, 3) := by decide +kernel
theorem dX7_word_53 : decode cX7_word 53 = .ok (.goto (-46), 3) := by decide +kernel
theorem dX7_word_56 : decode cX7_word 56 = .ok (.lload_n 1, 1) := by decide +kernel
theorem dX7_word_57 : decode cX7_word 57 = .ok (.lreturn, 1) := by decide +kernel
theorem dX7_numberTo_0 : decode cX7_numberTo 0 = .ok (.aload_n 0, 1) := by decide +kernel
theorem dX7_numberTo_1 : decode cX7_numberTo 1 = .ok (.getfield 124, 3) := by decide +kernel
theorem dX7_numberTo_4 : decode cX7_numberTo 4 = .ok (.ifCond .le 5, 3) := by decide +kernel
theorem dX7_numberTo_7 : decode cX7_numberTo 7 = .ok (.iconst 0, 1) := by decide +kernel
theorem dX7_numberTo_8 : decode cX7_numberTo 8 = .ok (.ireturn, 1) := by decide +kernel
theorem dX7_numberTo_9 : decode cX7_numberTo 9 = .ok (.iconst 0, 1) := by decide +kernel
theorem dX7_numberTo_10 : decode cX7_numberTo 10 = .ok (.istore_n 2, 1) := by decide +kernel
theorem dX7_numberTo_11 : decode cX7_numberTo 11 = .ok (.aload_n 0, 1) := by decide +kernel
theorem dX7_numberTo_12 : decode cX7_numberTo 12 = .ok (.getfield 109, 3) := by decide +kernel
theorem dX7_numberTo_15 : decode cX7_numberTo 15 = .ok (.istore_n 3, 1) := by decide +kernel
theorem dX7_numberTo_16 : decode cX7_numberTo 16 = .ok (.iload_n 3, 1) := by decide +kernel
theorem dX7_numberTo_17 : decode cX7_numberTo 17 = .ok (.aload_n 0, 1) := by decide +kernel
theorem dX7_numberTo_18 : decode cX7_numberTo 18 = .ok (.getfield 121, 3) := by decide +kernel
theorem dX7_numberTo_21 : decode cX7_numberTo 21 = .ok (.if_icmp .ge 32, 3) := by decide +kernel
theorem dX7_numberTo_24 : decode cX7_numberTo 24 = .ok (.aload_n 0, 1) := by decide +kernel
theorem dX7_numberTo_25 : decode cX7_numberTo 25 = .ok (.getfield 112, 3) := by decide +kernel
theorem dX7_numberTo_28 : decode cX7_numberTo 28 = .ok (.iconst 3, 1) := by decide +kernel
theorem dX7_numberTo_29 : decode cX7_numberTo 29 = .ok (.if_icmp .ne 24, 3) := by decide +kernel
theorem dX7_numberTo_32 : decode cX7_numberTo 32 = .ok (.bipush 10, 2) := by decide +kernel
theorem dX7_numberTo_34 : decode cX7_numberTo 34 = .ok (.iload_n 2, 1) := by decide +kernel
theorem dX7_numberTo_35 : decode cX7_numberTo 35 = .ok (.imul, 1) := by decide +kernel
theorem dX7_numberTo_36 : decode cX7_numberTo 36 = .ok (.aload_n 0, 1) := by decide +kernel
theorem dX7_numberTo_37 : decode cX7_numberTo 37 = .ok (.getfield 37, 3) := by decide +kernel
theorem dX7_numberTo_40 : decode cX7_numberTo 40 = .ok (.iload_n 3, 1) := by decide +kernel
theorem dX7_numberTo_41 : decode cX7_numberTo 41 = .ok (.iaload, 1) := by decide +kernel
theorem dX7_numberTo_42 : decode cX7_numberTo 42 = .ok (.iadd, 1) := by decide +kernel
theorem dX7_numberTo_43 : decode cX7_numberTo 43 = .ok (.bipush 48, 2) := by decide +kernel
theorem dX7_numberTo_45 : decode cX7_numberTo 45 = .ok (.isub, 1) := by decide +kernel
theorem dX7_numberTo_46 : decode cX7_numberTo 46 = .ok (.istore_n 2, 1) := by decide +kernel
theorem dX7_numberTo_47 : decode cX7_numberTo 47 = .ok (.iinc 3 1, 3) := by decide +kernel
theorem dX7_numberTo_50 : decode cX7_numberTo 50 = .ok (.goto (-34), 3) := by decide +kernel
theorem dX7_numberTo_53 : decode cX7_numberTo 53 = .ok (.aload_n 0, 1) := by decide +kernel
theorem dX7_numberTo_54 : decode cX7_numberTo 54 = .ok (.getfield 112, 3) := by decide +kernel
theorem dX7_numberTo_57 : decode cX7_numberTo 57 = .ok (.iconst 3, 1) := by decide +kernel
theorem dX7_numberTo_58 : decode cX7_numberTo 58 = .ok (.if_icmp .ne 19, 3) := by decide +kernel
theorem dX7_numberTo_61 : decode cX7_numberTo 61 = .ok (.iload_n 2, 1) := by decide +kernel
theorem dX7_numberTo_62 : decode cX7_numberTo 62 = .ok (.i2l, 1) := by decide +kernel
theorem dX7_numberTo_63 : decode cX7_numberTo 63 = .ok (.lconst 1, 1) := by decide +kernel
theorem dX7_numberTo_64 : decode cX7_numberTo 64 = .ok (.iload_n 1, 1) := by decide +kernel
theorem dX7_numberTo_65 : decode cX7_numberTo 65 = .ok (.i2l, 1) := by decide +kernel
theorem dX7_numberTo_66 : decode cX7_numberTo 66 = .ok (.invokestatic 73, 3) := by decide +kernel
theorem dX7_numberTo_69 : decode cX7_numberTo 69 = .ok (.ifCond .ne 8, 3) := by decide +kernel
theorem dX7_numberTo_72 : decode cX7_numberTo 72 = .ok (.aload_n 0, 1) := by decide +kernel
theorem dX7_numberTo_73 : decode cX7_numberTo 73 = .ok (.iconst 2, 1) := by decide +kernel
theorem dX7_numberTo_74 : decode cX7_numberTo 74 = .ok (.invokevirtual 130, 3) := by decide +kernel
theorem dX7_numberTo_77 : decode cX7_numberTo 77 = .ok (.aload_n 0, 1) := by decide +kernel
theorem dX7_numberTo_78 : decode cX7_numberTo 78 = .ok (.aload_n 0, 1) := by decide +kernel
theorem dX7_numberTo_79 : decode cX7_numberTo 79 = .ok (.getfield 112, 3) := by decide +kernel
theorem dX7_numberTo_82 : decode cX7_numberTo 82 = .ok (.iconst 3, 1) := by decide +kernel
theorem dX7_numberTo_83 : decode cX7_numberTo 83 = .ok (.if_icmp .ne 7, 3) := by decide +kernel
theorem dX7_numberTo_86 : decode cX7_numberTo 86 = .ok (.iconst 1, 1) := by decide +kernel
theorem dX7_numberTo_87 : decode cX7_numberTo 87 = .ok (.goto 4, 3) := by decide +kernel
theorem dX7_numberTo_90 : decode cX7_numberTo 90 = .ok (.iconst 0, 1) := by decide +kernel
theorem dX7_numberTo_91 : decode cX7_numberTo 91 = .ok (.invokevirtual 137, 3) := by decide +kernel
theorem dX7_numberTo_94 : decode cX7_numberTo 94 = .ok (.iload_n 2, 1) := by decide +kernel
theorem dX7_numberTo_95 : decode cX7_numberTo 95 = .ok (.ireturn, 1) := by decide +kernel
theorem dX7_isWord_0 : decode cX7_isWord 0 = .ok (.aload_n 0, 1) := by decide +kernel
theorem dX7_isWord_1 : decode cX7_isWord 1 = .ok (.getfield 124, 3) := by decide +kernel
theorem dX7_isWord_4 : decode cX7_isWord 4 = .ok (.ifCond .ne 16, 3) := by decide +kernel
theorem dX7_isWord_7 : decode cX7_isWord 7 = .ok (.aload_n 0, 1) := by decide +kernel
theorem dX7_isWord_8 : decode cX7_isWord 8 = .ok (.invokevirtual 141, 3) := by decide +kernel
theorem dX7_isWord_11 : decode cX7_isWord 11 = .ok (.lload_n 1, 1) := by decide +kernel
theorem dX7_isWord_12 : decode cX7_isWord 12 = .ok (.lcmp, 1) := by decide +kernel
theorem dX7_isWord_13 : decode cX7_isWord 13 = .ok (.ifCond .ne 7, 3) := by decide +kernel
theorem dX7_isWord_16 : decode cX7_isWord 16 = .ok (.iconst 1, 1) := by decide +kernel
theorem dX7_isWord_17 : decode cX7_isWord 17 = .ok (.goto 4, 3) := by decide +kernel
theorem dX7_isWord_20 : decode cX7_isWord 20 = .ok (.iconst 0, 1) := by decide +kernel
theorem dX7_isWord_21 : decode cX7_isWord 21 = .ok (.ireturn, 1) := by decide +kernel
theorem dX7_mustEnd_0 : decode cX7_mustEnd 0 = .ok (.aload_n 0, 1) := by decide +kernel
theorem dX7_mustEnd_1 : decode cX7_mustEnd 1 = .ok (.getfield 124, 3) := by decide +kernel
theorem dX7_mustEnd_4 : decode cX7_mustEnd 4 = .ok (.ifCond .ne 20, 3) := by decide +kernel
theorem dX7_mustEnd_7 : decode cX7_mustEnd 7 = .ok (.aload_n 0, 1) := by decide +kernel
theorem dX7_mustEnd_8 : decode cX7_mustEnd 8 = .ok (.aload_n 0, 1) := by decide +kernel
theorem dX7_mustEnd_9 : decode cX7_mustEnd 9 = .ok (.getfield 112, 3) := by decide +kernel
theorem dX7_mustEnd_12 : decode cX7_mustEnd 12 = .ok (.iconst 4, 1) := by decide +kernel
theorem dX7_mustEnd_13 : decode cX7_mustEnd 13 = .ok (.if_icmp .ne 7, 3) := by decide +kernel
theorem dX7_mustEnd_16 : decode cX7_mustEnd 16 = .ok (.iconst 1, 1) := by decide +kernel
theorem dX7_mustEnd_17 : decode cX7_mustEnd 17 = .ok (.goto 4, 3) := by decide +kernel
theorem dX7_mustEnd_20 : decode cX7_mustEnd 20 = .ok (.iconst 0, 1) := by decide +kernel
theorem dX7_mustEnd_21 : decode cX7_mustEnd 21 = .ok (.invokevirtual 137, 3) := by decide +kernel
theorem dX7_mustEnd_24 : decode cX7_mustEnd 24 = .ok (.return_, 1) := by decide +kernel
theorem dX7_readGood_0 : decode cX7_readGood 0 = .ok (.aload_n 0, 1) := by decide +kernel
theorem dX7_readGood_1 : decode cX7_readGood 1 = .ok (.ldc2_w 145, 3) := by decide +kernel
theorem dX7_readGood_4 : decode cX7_readGood 4 = .ok (.invokevirtual 147, 3) := by decide +kernel
theorem dX7_readGood_7 : decode cX7_readGood 7 = .ok (.ifCond .eq 17, 3) := by decide +kernel
theorem dX7_readGood_10 : decode cX7_readGood 10 = .ok (.aload_n 0, 1) := by decide +kernel
theorem dX7_readGood_11 : decode cX7_readGood 11 = .ok (.getfield 151, 3) := by decide +kernel
theorem dX7_readGood_14 : decode cX7_readGood 14 = .ok (.bipush 6, 2) := by decide +kernel
theorem dX7_readGood_16 : decode cX7_readGood 16 = .ok (.if_icmp .ne 8, 3) := by decide +kernel
theorem dX7_readGood_19 : decode cX7_readGood 19 = .ok (.aload_n 0, 1) := by decide +kernel
theorem dX7_readGood_20 : decode cX7_readGood 20 = .ok (.iconst 3, 1) := by decide +kernel
theorem dX7_readGood_21 : decode cX7_readGood 21 = .ok (.invokevirtual 130, 3) := by decide +kernel
theorem dX7_readGood_24 : decode cX7_readGood 24 = .ok (.aload_n 0, 1) := by decide +kernel
theorem dX7_readGood_25 : decode cX7_readGood 25 = .ok (.aload_n 0, 1) := by decide +kernel
theorem dX7_readGood_26 : decode cX7_readGood 26 = .ok (.ldc2_w 145, 3) := by decide +kernel
theorem dX7_readGood_29 : decode cX7_readGood 29 = .ok (.invokevirtual 147, 3) := by decide +kernel
theorem dX7_readGood_32 : decode cX7_readGood 32 = .ok (.invokevirtual 137, 3) := by decide +kernel
theorem dX7_readGood_35 : decode cX7_readGood 35 = .ok (.aload_n 0, 1) := by decide +kernel
theorem dX7_readGood_36 : decode cX7_readGood 36 = .ok (.bipush 20, 2) := by decide +kernel
theorem dX7_readGood_38 : decode cX7_readGood 38 = .ok (.invokevirtual 154, 3) := by decide +kernel
theorem dX7_readGood_41 : decode cX7_readGood 41 = .ok (.istore_n 1, 1) := by decide +kernel
theorem dX7_readGood_42 : decode cX7_readGood 42 = .ok (.aload_n 0, 1) := by decide +kernel
theorem dX7_readGood_43 : decode cX7_readGood 43 = .ok (.getfield 124, 3) := by decide +kernel
theorem dX7_readGood_46 : decode cX7_readGood 46 = .ok (.ifCond .ne 23, 3) := by decide +kernel
theorem dX7_readGood_49 : decode cX7_readGood 49 = .ok (.aload_n 0, 1) := by decide +kernel
theorem dX7_readGood_50 : decode cX7_readGood 50 = .ok (.getfield 28, 3) := by decide +kernel
theorem dX7_readGood_53 : decode cX7_readGood 53 = .ok (.aload_n 0, 1) := by decide +kernel
theorem dX7_readGood_54 : decode cX7_readGood 54 = .ok (.getfield 151, 3) := by decide +kernel
theorem dX7_readGood_57 : decode cX7_readGood 57 = .ok (.iload_n 1, 1) := by decide +kernel
theorem dX7_readGood_58 : decode cX7_readGood 58 = .ok (.iastore, 1) := by decide +kernel
theorem dX7_readGood_59 : decode cX7_readGood 59 = .ok (.aload_n 0, 1) := by decide +kernel
theorem dX7_readGood_60 : decode cX7_readGood 60 = .ok (.dup, 1) := by decide +kernel
theorem dX7_readGood_61 : decode cX7_readGood 61 = .ok (.getfield 151, 3) := by decide +kernel
theorem dX7_readGood_64 : decode cX7_readGood 64 = .ok (.iconst 1, 1) := by decide +kernel
theorem dX7_readGood_65 : decode cX7_readGood 65 = .ok (.iadd, 1) := by decide +kernel
theorem dX7_readGood_66 : decode cX7_readGood 66 = .ok (.putfield 151, 3) := by decide +kernel
theorem dX7_readGood_69 : decode cX7_readGood 69 = .ok (.aload_n 0, 1) := by decide +kernel
theorem dX7_readGood_70 : decode cX7_readGood 70 = .ok (.invokevirtual 157, 3) := by decide +kernel
theorem dX7_readGood_73 : decode cX7_readGood 73 = .ok (.return_, 1) := by decide +kernel
theorem dX7_readLand_0 : decode cX7_readLand 0 = .ok (.aload_n 0, 1) := by decide +kernel
theorem dX7_readLand_1 : decode cX7_readLand 1 = .ok (.ldc2_w 160, 3) := by decide +kernel
theorem dX7_readLand_4 : decode cX7_readLand 4 = .ok (.invokevirtual 147, 3) := by decide +kernel
theorem dX7_readLand_7 : decode cX7_readLand 7 = .ok (.ifCond .eq 16, 3) := by decide +kernel
theorem dX7_readLand_10 : decode cX7_readLand 10 = .ok (.aload_n 0, 1) := by decide +kernel
theorem dX7_readLand_11 : decode cX7_readLand 11 = .ok (.getfield 162, 3) := by decide +kernel
theorem dX7_readLand_14 : decode cX7_readLand 14 = .ok (.iconst 3, 1) := by decide +kernel
theorem dX7_readLand_15 : decode cX7_readLand 15 = .ok (.if_icmp .ne 8, 3) := by decide +kernel
theorem dX7_readLand_18 : decode cX7_readLand 18 = .ok (.aload_n 0, 1) := by decide +kernel
theorem dX7_readLand_19 : decode cX7_readLand 19 = .ok (.iconst 3, 1) := by decide +kernel
theorem dX7_readLand_20 : decode cX7_readLand 20 = .ok (.invokevirtual 130, 3) := by decide +kernel
theorem dX7_readLand_23 : decode cX7_readLand 23 = .ok (.aload_n 0, 1) := by decide +kernel
theorem dX7_readLand_24 : decode cX7_readLand 24 = .ok (.aload_n 0, 1) := by decide +kernel
theorem dX7_readLand_25 : decode cX7_readLand 25 = .ok (.ldc2_w 160, 3) := by decide +kernel
theorem dX7_readLand_28 : decode cX7_readLand 28 = .ok (.invokevirtual 147, 3) := by decide +kernel
theorem dX7_readLand_31 : decode cX7_readLand 31 = .ok (.invokevirtual 137, 3) := by decide +kernel
theorem dX7_readLand_34 : decode cX7_readLand 34 = .ok (.aload_n 0, 1) := by decide +kernel
theorem dX7_readLand_35 : decode cX7_readLand 35 = .ok (.bipush 99, 2) := by decide +kernel
theorem dX7_readLand_37 : decode cX7_readLand 37 = .ok (.invokevirtual 154, 3) := by decide +kernel
theorem dX7_readLand_40 : decode cX7_readLand 40 = .ok (.istore_n 1, 1) := by decide +kernel
theorem dX7_readLand_41 : decode cX7_readLand 41 = .ok (.iconst 0, 1) := by decide +kernel
theorem dX7_readLand_42 : decode cX7_readLand 42 = .ok (.istore_n 2, 1) := by decide +kernel
theorem dX7_readLand_43 : decode cX7_readLand 43 = .ok (.iload_n 2, 1) := by decide +kernel
theorem dX7_readLand_44 : decode cX7_readLand 44 = .ok (.aload_n 0, 1) := by decide +kernel
theorem dX7_readLand_45 : decode cX7_readLand 45 = .ok (.getfield 151, 3) := by decide +kernel
theorem dX7_readLand_48 : decode cX7_readLand 48 = .ok (.if_icmp .ge 38, 3) := by decide +kernel
theorem dX7_readLand_51 : decode cX7_readLand 51 = .ok (.aload_n 0, 1) := by decide +kernel
theorem dX7_readLand_52 : decode cX7_readLand 52 = .ok (.bipush 20, 2) := by decide +kernel
theorem dX7_readLand_54 : decode cX7_readLand 54 = .ok (.invokevirtual 154, 3) := by decide +kernel
theorem dX7_readLand_57 : decode cX7_readLand 57 = .ok (.istore_n 3, 1) := by decide +kernel
theorem dX7_readLand_58 : decode cX7_readLand 58 = .ok (.aload_n 0, 1) := by decide +kernel
theorem dX7_readLand_59 : decode cX7_readLand 59 = .ok (.getfield 124, 3) := by decide +kernel
theorem dX7_readLand_62 : decode cX7_readLand 62 = .ok (.ifCond .ne 18, 3) := by decide +kernel
theorem dX7_readLand_65 : decode cX7_readLand 65 = .ok (.aload_n 0, 1) := by decide +kernel
theorem dX7_readLand_66 : decode cX7_readLand 66 = .ok (.getfield 34, 3) := by decide +kernel
theorem dX7_readLand_69 : decode cX7_readLand 69 = .ok (.bipush 6, 2) := by decide +kernel
theorem dX7_readLand_71 : decode cX7_readLand 71 = .ok (.aload_n 0, 1) := by decide +kernel
theorem dX7_readLand_72 : decode cX7_readLand 72 = .ok (.getfield 162, 3) := by decide +kernel
theorem dX7_readLand_75 : decode cX7_readLand 75 = .ok (.imul, 1) := by decide +kernel
theorem dX7_readLand_76 : decode cX7_readLand 76 = .ok (.iload_n 2, 1) := by decide +kernel
theorem dX7_readLand_77 : decode cX7_readLand 77 = .ok (.iadd, 1) := by decide +kernel
theorem dX7_readLand_78 : decode cX7_readLand 78 = .ok (.iload_n 3, 1) := by decide +kernel
theorem dX7_readLand_79 : decode cX7_readLand 79 = .ok (.iastore, 1) := by decide +kernel
theorem dX7_readLand_80 : decode cX7_readLand 80 = .ok (.iinc 2 1, 3) := by decide +kernel
theorem dX7_readLand_83 : decode cX7_readLand 83 = .ok (.goto (-40), 3) := by decide +kernel
theorem dX7_readLand_86 : decode cX7_readLand 86 = .ok (.aload_n 0, 1) := by decide +kernel
theorem dX7_readLand_87 : decode cX7_readLand 87 = .ok (.getfield 124, 3) := by decide +kernel
theorem dX7_readLand_90 : decode cX7_readLand 90 = .ok (.ifCond .ne 23, 3) := by decide +kernel
theorem dX7_readLand_93 : decode cX7_readLand 93 = .ok (.aload_n 0, 1) := by decide +kernel
theorem dX7_readLand_94 : decode cX7_readLand 94 = .ok (.getfield 31, 3) := by decide +kernel
theorem dX7_readLand_97 : decode cX7_readLand 97 = .ok (.aload_n 0, 1) := by decide +kernel
theorem dX7_readLand_98 : decode cX7_readLand 98 = .ok (.getfield 162, 3) := by decide +kernel
theorem dX7_readLand_101 : decode cX7_readLand 101 = .ok (.iload_n 1, 1) := by decide +kernel
theorem dX7_readLand_102 : decode cX7_readLand 102 = .ok (.iastore, 1) := by decide +kernel
theorem dX7_readLand_103 : decode cX7_readLand 103 = .ok (.aload_n 0, 1) := by decide +kernel
theorem dX7_readLand_104 : decode cX7_readLand 104 = .ok (.dup, 1) := by decide +kernel
theorem dX7_readLand_105 : decode cX7_readLand 105 = .ok (.getfield 162, 3) := by decide +kernel
theorem dX7_readLand_108 : decode cX7_readLand 108 = .ok (.iconst 1, 1) := by decide +kernel
theorem dX7_readLand_109 : decode cX7_readLand 109 = .ok (.iadd, 1) := by decide +kernel
theorem dX7_readLand_110 : decode cX7_readLand 110 = .ok (.putfield 162, 3) := by decide +kernel
theorem dX7_readLand_113 : decode cX7_readLand 113 = .ok (.aload_n 0, 1) := by decide +kernel
theorem dX7_readLand_114 : decode cX7_readLand 114 = .ok (.invokevirtual 157, 3) := by decide +kernel
theorem dX7_readLand_117 : decode cX7_readLand 117 = .ok (.return_, 1) := by decide +kernel
theorem dX7_world_0 : decode cX7_world 0 = .ok (.aload_n 0, 1) := by decide +kernel
theorem dX7_world_1 : decode cX7_world 1 = .ok (.iconst 0, 1) := by decide +kernel
theorem dX7_world_2 : decode cX7_world 2 = .ok (.putfield 62, 3) := by decide +kernel
theorem dX7_world_5 : decode cX7_world 5 = .ok (.aload_n 0, 1) := by decide +kernel
theorem dX7_world_6 : decode cX7_world 6 = .ok (.aload_n 0, 1) := by decide +kernel
theorem dX7_world_7 : decode cX7_world 7 = .ok (.getfield 91, 3) := by decide +kernel
theorem dX7_world_10 : decode cX7_world 10 = .ok (.putfield 98, 3) := by decide +kernel
theorem dX7_world_13 : decode cX7_world 13 = .ok (.aload_n 0, 1) := by decide +kernel
theorem dX7_world_14 : decode cX7_world 14 = .ok (.iconst 0, 1) := by decide +kernel
theorem dX7_world_15 : decode cX7_world 15 = .ok (.putfield 91, 3) := by decide +kernel
theorem dX7_world_18 : decode cX7_world 18 = .ok (.aload_n 0, 1) := by decide +kernel
theorem dX7_world_19 : decode cX7_world 19 = .ok (.iconst 0, 1) := by decide +kernel
theorem dX7_world_20 : decode cX7_world 20 = .ok (.putfield 102, 3) := by decide +kernel
theorem dX7_world_23 : decode cX7_world 23 = .ok (.aload_n 0, 1) := by decide +kernel
theorem dX7_world_24 : decode cX7_world 24 = .ok (.iconst 0, 1) := by decide +kernel
theorem dX7_world_25 : decode cX7_world 25 = .ok (.putfield 124, 3) := by decide +kernel
theorem dX7_world_28 : decode cX7_world 28 = .ok (.aload_n 0, 1) := by decide +kernel
theorem dX7_world_29 : decode cX7_world 29 = .ok (.iconst 0, 1) := by decide +kernel
theorem dX7_world_30 : decode cX7_world 30 = .ok (.putfield 162, 3) := by decide +kernel
theorem dX7_world_33 : decode cX7_world 33 = .ok (.aload_n 0, 1) := by decide +kernel
theorem dX7_world_34 : decode cX7_world 34 = .ok (.iconst 0, 1) := by decide +kernel
theorem dX7_world_35 : decode cX7_world 35 = .ok (.putfield 151, 3) := by decide +kernel
theorem dX7_world_38 : decode cX7_world 38 = .ok (.aload_n 0, 1) := by decide +kernel
theorem dX7_world_39 : decode cX7_world 39 = .ok (.invokevirtual 134, 3) := by decide +kernel
theorem dX7_world_42 : decode cX7_world 42 = .ok (.aload_n 0, 1) := by decide +kernel
theorem dX7_world_43 : decode cX7_world 43 = .ok (.invokevirtual 165, 3) := by decide +kernel
theorem dX7_world_46 : decode cX7_world 46 = .ok (.aload_n 0, 1) := by decide +kernel
theorem dX7_world_47 : decode cX7_world 47 = .ok (.ldc2_w 145, 3) := by decide +kernel
theorem dX7_world_50 : decode cX7_world 50 = .ok (.invokevirtual 147, 3) := by decide +kernel
theorem dX7_world_53 : decode cX7_world 53 = .ok (.ifCond .eq 10, 3) := by decide +kernel
theorem dX7_world_56 : decode cX7_world 56 = .ok (.aload_n 0, 1) := by decide +kernel
theorem dX7_world_57 : decode cX7_world 57 = .ok (.invokevirtual 165, 3) := by decide +kernel
theorem dX7_world_60 : decode cX7_world 60 = .ok (.goto (-14), 3) := by decide +kernel
theorem dX7_world_63 : decode cX7_world 63 = .ok (.aload_n 0, 1) := by decide +kernel
theorem dX7_world_64 : decode cX7_world 64 = .ok (.getfield 124, 3) := by decide +kernel
theorem dX7_world_67 : decode cX7_world 67 = .ok (.ifCond .ne 7, 3) := by decide +kernel
theorem dX7_world_70 : decode cX7_world 70 = .ok (.aload_n 0, 1) := by decide +kernel
theorem dX7_world_71 : decode cX7_world 71 = .ok (.invokevirtual 168, 3) := by decide +kernel
theorem dX7_world_74 : decode cX7_world 74 = .ok (.aload_n 0, 1) := by decide +kernel
theorem dX7_world_75 : decode cX7_world 75 = .ok (.getfield 124, 3) := by decide +kernel
theorem dX7_world_78 : decode cX7_world 78 = .ok (.ifCond .ne 18, 3) := by decide +kernel
theorem dX7_world_81 : decode cX7_world 81 = .ok (.aload_n 0, 1) := by decide +kernel
theorem dX7_world_82 : decode cX7_world 82 = .ok (.getfield 112, 3) := by decide +kernel
theorem dX7_world_85 : decode cX7_world 85 = .ok (.iconst 1, 1) := by decide +kernel
theorem dX7_world_86 : decode cX7_world 86 = .ok (.if_icmp .eq 10, 3) := by decide +kernel
theorem dX7_world_89 : decode cX7_world 89 = .ok (.aload_n 0, 1) := by decide +kernel
theorem dX7_world_90 : decode cX7_world 90 = .ok (.invokevirtual 168, 3) := by decide +kernel
theorem dX7_world_93 : decode cX7_world 93 = .ok (.goto (-19), 3) := by decide +kernel
theorem dX7_world_96 : decode cX7_world 96 = .ok (.aload_n 0, 1) := by decide +kernel
theorem dX7_world_97 : decode cX7_world 97 = .ok (.getfield 124, 3) := by decide +kernel
theorem dX7_world_100 : decode cX7_world 100 = .ok (.ifCond .le 21, 3) := by decide +kernel
theorem dX7_world_103 : decode cX7_world 103 = .ok (.aload_n 0, 1) := by decide +kernel
theorem dX7_world_104 : decode cX7_world 104 = .ok (.aload_n 0, 1) := by decide +kernel
theorem dX7_world_105 : decode cX7_world 105 = .ok (.getfield 124, 3) := by decide +kernel
theorem dX7_world_108 : decode cX7_world 108 = .ok (.putfield 171, 3) := by decide +kernel
theorem dX7_world_111 : decode cX7_world 111 = .ok (.ldc2_w 174, 3) := by decide +kernel
theorem dX7_world_114 : decode cX7_world 114 = .ok (.aload_n 0, 1) := by decide +kernel
theorem dX7_world_115 : decode cX7_world 115 = .ok (.getfield 127, 3) := by decide +kernel
theorem dX7_world_118 : decode cX7_world 118 = .ok (.i2l, 1) := by decide +kernel
theorem dX7_world_119 : decode cX7_world 119 = .ok (.lsub, 1) := by decide +kernel
theorem dX7_world_120 : decode cX7_world 120 = .ok (.lreturn, 1) := by decide +kernel
theorem dX7_world_121 : decode cX7_world 121 = .ok (.aload_n 0, 1) := by decide +kernel
theorem dX7_world_122 : decode cX7_world 122 = .ok (.aload_n 0, 1) := by decide +kernel
theorem dX7_world_123 : decode cX7_world 123 = .ok (.getfield 162, 3) := by decide +kernel
theorem dX7_world_126 : decode cX7_world 126 = .ok (.putfield 176, 3) := by decide +kernel
theorem dX7_world_129 : decode cX7_world 129 = .ok (.aload_n 0, 1) := by decide +kernel
theorem dX7_world_130 : decode cX7_world 130 = .ok (.aload_n 0, 1) := by decide +kernel
theorem dX7_world_131 : decode cX7_world 131 = .ok (.getfield 151, 3) := by decide +kernel
theorem dX7_world_134 : decode cX7_world 134 = .ok (.putfield 179, 3) := by decide +kernel
theorem dX7_world_137 : decode cX7_world 137 = .ok (.iconst 0, 1) := by decide +kernel
theorem dX7_world_138 : decode cX7_world 138 = .ok (.istore_n 1, 1) := by decide +kernel
theorem dX7_world_139 : decode cX7_world 139 = .ok (.iload_n 1, 1) := by decide +kernel
theorem dX7_world_140 : decode cX7_world 140 = .ok (.bipush 18, 2) := by decide +kernel
theorem dX7_world_142 : decode cX7_world 142 = .ok (.if_icmp .ge 55, 3) := by decide +kernel
theorem dX7_world_145 : decode cX7_world 145 = .ok (.aload_n 0, 1) := by decide +kernel
theorem dX7_world_146 : decode cX7_world 146 = .ok (.getfield 25, 3) := by decide +kernel
theorem dX7_world_149 : decode cX7_world 149 = .ok (.iload_n 1, 1) := by decide +kernel
theorem dX7_world_150 : decode cX7_world 150 = .ok (.aload_n 0, 1) := by decide +kernel
theorem dX7_world_151 : decode cX7_world 151 = .ok (.getfield 34, 3) := by decide +kernel
theorem dX7_world_154 : decode cX7_world 154 = .ok (.iload_n 1, 1) := by decide +kernel
theorem dX7_world_155 : decode cX7_world 155 = .ok (.iaload, 1) := by decide +kernel
theorem dX7_world_156 : decode cX7_world 156 = .ok (.iastore, 1) := by decide +kernel
theorem dX7_world_157 : decode cX7_world 157 = .ok (.aload_n 0, 1) := by decide +kernel
theorem dX7_world_158 : decode cX7_world 158 = .ok (.getfield 19, 3) := by decide +kernel
theorem dX7_world_161 : decode cX7_world 161 = .ok (.iload_n 1, 1) := by decide +kernel
theorem dX7_world_162 : decode cX7_world 162 = .ok (.bipush 6, 2) := by decide +kernel
theorem dX7_world_164 : decode cX7_world 164 = .ok (.irem, 1) := by decide +kernel
theorem dX7_world_165 : decode cX7_world 165 = .ok (.aload_n 0, 1) := by decide +kernel
theorem dX7_world_166 : decode cX7_world 166 = .ok (.getfield 28, 3) := by decide +kernel
theorem dX7_world_169 : decode cX7_world 169 = .ok (.iload_n 1, 1) := by decide +kernel
theorem dX7_world_170 : decode cX7_world 170 = .ok (.bipush 6, 2) := by decide +kernel
theorem dX7_world_172 : decode cX7_world 172 = .ok (.irem, 1) := by decide +kernel
theorem dX7_world_173 : decode cX7_world 173 = .ok (.iaload, 1) := by decide +kernel
theorem dX7_world_174 : decode cX7_world 174 = .ok (.iastore, 1) := by decide +kernel
theorem dX7_world_175 : decode cX7_world 175 = .ok (.aload_n 0, 1) := by decide +kernel
theorem dX7_world_176 : decode cX7_world 176 = .ok (.getfield 22, 3) := by decide +kernel
theorem dX7_world_179 : decode cX7_world 179 = .ok (.iload_n 1, 1) := by decide +kernel
theorem dX7_world_180 : decode cX7_world 180 = .ok (.iconst 3, 1) := by decide +kernel
theorem dX7_world_181 : decode cX7_world 181 = .ok (.irem, 1) := by decide +kernel
theorem dX7_world_182 : decode cX7_world 182 = .ok (.aload_n 0, 1) := by decide +kernel
theorem dX7_world_183 : decode cX7_world 183 = .ok (.getfield 31, 3) := by decide +kernel
theorem dX7_world_186 : decode cX7_world 186 = .ok (.iload_n 1, 1) := by decide +kernel
theorem dX7_world_187 : decode cX7_world 187 = .ok (.iconst 3, 1) := by decide +kernel
theorem dX7_world_188 : decode cX7_world 188 = .ok (.irem, 1) := by decide +kernel
theorem dX7_world_189 : decode cX7_world 189 = .ok (.iaload, 1) := by decide +kernel
theorem dX7_world_190 : decode cX7_world 190 = .ok (.iastore, 1) := by decide +kernel
theorem dX7_world_191 : decode cX7_world 191 = .ok (.iinc 1 1, 3) := by decide +kernel
theorem dX7_world_194 : decode cX7_world 194 = .ok (.goto (-55), 3) := by decide +kernel
theorem dX7_world_197 : decode cX7_world 197 = .ok (.aload_n 0, 1) := by decide +kernel
theorem dX7_world_198 : decode cX7_world 198 = .ok (.iconst 0, 1) := by decide +kernel
theorem dX7_world_199 : decode cX7_world 199 = .ok (.putfield 182, 3) := by decide +kernel
theorem dX7_world_202 : decode cX7_world 202 = .ok (.aload_n 0, 1) := by decide +kernel
theorem dX7_world_203 : decode cX7_world 203 = .ok (.iconst 0, 1) := by decide +kernel
theorem dX7_world_204 : decode cX7_world 204 = .ok (.putfield 186, 3) := by decide +kernel
theorem dX7_world_207 : decode cX7_world 207 = .ok (.aload_n 0, 1) := by decide +kernel
theorem dX7_world_208 : decode cX7_world 208 = .ok (.getfield 176, 3) := by decide +kernel
theorem dX7_world_211 : decode cX7_world 211 = .ok (.i2l, 1) := by decide +kernel
theorem dX7_world_212 : decode cX7_world 212 = .ok (.lreturn, 1) := by decide +kernel
theorem dX7_fault_0 : decode cX7_fault 0 = .ok (.aload_n 0, 1) := by decide +kernel
theorem dX7_fault_1 : decode cX7_fault 1 = .ok (.iconst 0, 1) := by decide +kernel
theorem dX7_fault_2 : decode cX7_fault 2 = .ok (.putfield 62, 3) := by decide +kernel
theorem dX7_fault_5 : decode cX7_fault 5 = .ok (.aload_n 0, 1) := by decide +kernel
theorem dX7_fault_6 : decode cX7_fault 6 = .ok (.getfield 171, 3) := by decide +kernel
theorem dX7_fault_9 : decode cX7_fault 9 = .ok (.ireturn, 1) := by decide +kernel
theorem dX7_isLand_0 : decode cX7_isLand 0 = .ok (.iload_n 1, 1) := by decide +kernel
theorem dX7_isLand_1 : decode cX7_isLand 1 = .ok (.i2l, 1) := by decide +kernel
theorem dX7_isLand_2 : decode cX7_isLand 2 = .ok (.lconst 0, 1) := by decide +kernel
theorem dX7_isLand_3 : decode cX7_isLand 3 = .ok (.aload_n 0, 1) := by decide +kernel
theorem dX7_isLand_4 : decode cX7_isLand 4 = .ok (.getfield 176, 3) := by decide +kernel
theorem dX7_isLand_7 : decode cX7_isLand 7 = .ok (.iconst 1, 1) := by decide +kernel
theorem dX7_isLand_8 : decode cX7_isLand 8 = .ok (.isub, 1) := by decide +kernel
theorem dX7_isLand_9 : decode cX7_isLand 9 = .ok (.i2l, 1) := by decide +kernel
theorem dX7_isLand_10 : decode cX7_isLand 10 = .ok (.invokestatic 73, 3) := by decide +kernel
theorem dX7_isLand_13 : decode cX7_isLand 13 = .ok (.ireturn, 1) := by decide +kernel
theorem dX7_isGood_0 : decode cX7_isGood 0 = .ok (.iload_n 1, 1) := by decide +kernel
theorem dX7_isGood_1 : decode cX7_isGood 1 = .ok (.i2l, 1) := by decide +kernel
theorem dX7_isGood_2 : decode cX7_isGood 2 = .ok (.lconst 0, 1) := by decide +kernel
theorem dX7_isGood_3 : decode cX7_isGood 3 = .ok (.aload_n 0, 1) := by decide +kernel
theorem dX7_isGood_4 : decode cX7_isGood 4 = .ok (.getfield 179, 3) := by decide +kernel
theorem dX7_isGood_7 : decode cX7_isGood 7 = .ok (.iconst 1, 1) := by decide +kernel
theorem dX7_isGood_8 : decode cX7_isGood 8 = .ok (.isub, 1) := by decide +kernel
theorem dX7_isGood_9 : decode cX7_isGood 9 = .ok (.i2l, 1) := by decide +kernel
theorem dX7_isGood_10 : decode cX7_isGood 10 = .ok (.invokestatic 73, 3) := by decide +kernel
theorem dX7_isGood_13 : decode cX7_isGood 13 = .ok (.ireturn, 1) := by decide +kernel
theorem dX7_told_0 : decode cX7_told 0 = .ok (.aload_n 0, 1) := by decide +kernel
theorem dX7_told_1 : decode cX7_told 1 = .ok (.iconst 0, 1) := by decide +kernel
theorem dX7_told_2 : decode cX7_told 2 = .ok (.putfield 62, 3) := by decide +kernel
theorem dX7_told_5 : decode cX7_told 5 = .ok (.aload_n 0, 1) := by decide +kernel
theorem dX7_told_6 : decode cX7_told 6 = .ok (.iload_n 1, 1) := by decide +kernel
theorem dX7_told_7 : decode cX7_told 7 = .ok (.invokevirtual 189, 3) := by decide +kernel
theorem dX7_told_10 : decode cX7_told 10 = .ok (.ifCond .eq 23, 3) := by decide +kernel
theorem dX7_told_13 : decode cX7_told 13 = .ok (.aload_n 0, 1) := by decide +kernel
theorem dX7_told_14 : decode cX7_told 14 = .ok (.iload_n 2, 1) := by decide +kernel
theorem dX7_told_15 : decode cX7_told 15 = .ok (.invokevirtual 192, 3) := by decide +kernel
theorem dX7_told_18 : decode cX7_told 18 = .ok (.ifCond .eq 15, 3) := by decide +kernel
theorem dX7_told_21 : decode cX7_told 21 = .ok (.iload_n 3, 1) := by decide +kernel
theorem dX7_told_22 : decode cX7_told 22 = .ok (.i2l, 1) := by decide +kernel
theorem dX7_told_23 : decode cX7_told 23 = .ok (.lconst 0, 1) := by decide +kernel
theorem dX7_told_24 : decode cX7_told 24 = .ok (.ldc2_w 81, 3) := by decide +kernel
theorem dX7_told_27 : decode cX7_told 27 = .ok (.invokestatic 73, 3) := by decide +kernel
theorem dX7_told_30 : decode cX7_told 30 = .ok (.ifCond .ne 9, 3) := by decide +kernel
theorem dX7_told_33 : decode cX7_told 33 = .ok (.ldc2_w 83, 3) := by decide +kernel
theorem dX7_told_36 : decode cX7_told 36 = .ok (.goto 44, 3) := by decide +kernel
theorem dX7_told_39 : decode cX7_told 39 = .ok (.iload_n 3, 1) := by decide +kernel
theorem dX7_told_40 : decode cX7_told 40 = .ok (.ifCond .ne 18, 3) := by decide +kernel
theorem dX7_told_43 : decode cX7_told 43 = .ok (.aload_n 0, 1) := by decide +kernel
theorem dX7_told_44 : decode cX7_told 44 = .ok (.getfield 25, 3) := by decide +kernel
theorem dX7_told_47 : decode cX7_told 47 = .ok (.bipush 6, 2) := by decide +kernel
theorem dX7_told_49 : decode cX7_told 49 = .ok (.iload_n 1, 1) := by decide +kernel
theorem dX7_told_50 : decode cX7_told 50 = .ok (.imul, 1) := by decide +kernel
theorem dX7_told_51 : decode cX7_told 51 = .ok (.iload_n 2, 1) := by decide +kernel
theorem dX7_told_52 : decode cX7_told 52 = .ok (.iadd, 1) := by decide +kernel
theorem dX7_told_53 : decode cX7_told 53 = .ok (.iaload, 1) := by decide +kernel
theorem dX7_told_54 : decode cX7_told 54 = .ok (.i2l, 1) := by decide +kernel
theorem dX7_told_55 : decode cX7_told 55 = .ok (.goto 25, 3) := by decide +kernel
theorem dX7_told_58 : decode cX7_told 58 = .ok (.iload_n 3, 1) := by decide +kernel
theorem dX7_told_59 : decode cX7_told 59 = .ok (.iconst 1, 1) := by decide +kernel
theorem dX7_told_60 : decode cX7_told 60 = .ok (.if_icmp .ne 13, 3) := by decide +kernel
theorem dX7_told_63 : decode cX7_told 63 = .ok (.aload_n 0, 1) := by decide +kernel
theorem dX7_told_64 : decode cX7_told 64 = .ok (.getfield 22, 3) := by decide +kernel
theorem dX7_told_67 : decode cX7_told 67 = .ok (.iload_n 1, 1) := by decide +kernel
theorem dX7_told_68 : decode cX7_told 68 = .ok (.iaload, 1) := by decide +kernel
theorem dX7_told_69 : decode cX7_told 69 = .ok (.i2l, 1) := by decide +kernel
theorem dX7_told_70 : decode cX7_told 70 = .ok (.goto 10, 3) := by decide +kernel
theorem dX7_told_73 : decode cX7_told 73 = .ok (.aload_n 0, 1) := by decide +kernel
theorem dX7_told_74 : decode cX7_told 74 = .ok (.getfield 19, 3) := by decide +kernel
theorem dX7_told_77 : decode cX7_told 77 = .ok (.iload_n 2, 1) := by decide +kernel
theorem dX7_told_78 : decode cX7_told 78 = .ok (.iaload, 1) := by decide +kernel
theorem dX7_told_79 : decode cX7_told 79 = .ok (.i2l, 1) := by decide +kernel
theorem dX7_told_80 : decode cX7_told 80 = .ok (.lreturn, 1) := by decide +kernel
theorem dX7_counts_0 : decode cX7_counts 0 = .ok (.iload_n 1, 1) := by decide +kernel
theorem dX7_counts_1 : decode cX7_counts 1 = .ok (.iload_n 2, 1) := by decide +kernel
theorem dX7_counts_2 : decode cX7_counts 2 = .ok (.ishr, 1) := by decide +kernel
theorem dX7_counts_3 : decode cX7_counts 3 = .ok (.iconst 1, 1) := by decide +kernel
theorem dX7_counts_4 : decode cX7_counts 4 = .ok (.iand, 1) := by decide +kernel
theorem dX7_counts_5 : decode cX7_counts 5 = .ok (.iconst 1, 1) := by decide +kernel
theorem dX7_counts_6 : decode cX7_counts 6 = .ok (.if_icmp .ne 7, 3) := by decide +kernel
theorem dX7_counts_9 : decode cX7_counts 9 = .ok (.iconst 1, 1) := by decide +kernel
theorem dX7_counts_10 : decode cX7_counts 10 = .ok (.goto 4, 3) := by decide +kernel
theorem dX7_counts_13 : decode cX7_counts 13 = .ok (.iconst 0, 1) := by decide +kernel
theorem dX7_counts_14 : decode cX7_counts 14 = .ok (.ireturn, 1) := by decide +kernel
theorem dX7_costOf_0 : decode cX7_costOf 0 = .ok (.aload_n 0, 1) := by decide +kernel
theorem dX7_costOf_1 : decode cX7_costOf 1 = .ok (.getfield 25, 3) := by decide +kernel
theorem dX7_costOf_4 : decode cX7_costOf 4 = .ok (.bipush 6, 2) := by decide +kernel
theorem dX7_costOf_6 : decode cX7_costOf 6 = .ok (.iload_n 1, 1) := by decide +kernel
theorem dX7_costOf_7 : decode cX7_costOf 7 = .ok (.imul, 1) := by decide +kernel
theorem dX7_costOf_8 : decode cX7_costOf 8 = .ok (.iload_n 2, 1) := by decide +kernel
theorem dX7_costOf_9 : decode cX7_costOf 9 = .ok (.iadd, 1) := by decide +kernel
theorem dX7_costOf_10 : decode cX7_costOf 10 = .ok (.iaload, 1) := by decide +kernel
theorem dX7_costOf_11 : decode cX7_costOf 11 = .ok (.i2l, 1) := by decide +kernel
theorem dX7_costOf_12 : decode cX7_costOf 12 = .ok (.aload_n 0, 1) := by decide +kernel
theorem dX7_costOf_13 : decode cX7_costOf 13 = .ok (.getfield 40, 3) := by decide +kernel
theorem dX7_costOf_16 : decode cX7_costOf 16 = .ok (.iload_n 1, 1) := by decide +kernel
theorem dX7_costOf_17 : decode cX7_costOf 17 = .ok (.laload, 1) := by decide +kernel
theorem dX7_costOf_18 : decode cX7_costOf 18 = .ok (.lmul, 1) := by decide +kernel
theorem dX7_costOf_19 : decode cX7_costOf 19 = .ok (.lreturn, 1) := by decide +kernel
theorem dX7_priceOf_0 : decode cX7_priceOf 0 = .ok (.ldc2_w 195, 3) := by decide +kernel
theorem dX7_priceOf_3 : decode cX7_priceOf 3 = .ok (.lstore_n 3, 1) := by decide +kernel
theorem dX7_priceOf_4 : decode cX7_priceOf 4 = .ok (.iconst 0, 1) := by decide +kernel
theorem dX7_priceOf_5 : decode cX7_priceOf 5 = .ok (.istore 5, 2) := by decide +kernel
theorem dX7_priceOf_7 : decode cX7_priceOf 7 = .ok (.iload 5, 2) := by decide +kernel
theorem dX7_priceOf_9 : decode cX7_priceOf 9 = .ok (.aload_n 0, 1) := by decide +kernel
theorem dX7_priceOf_10 : decode cX7_priceOf 10 = .ok (.getfield 176, 3) := by decide +kernel
theorem dX7_priceOf_13 : decode cX7_priceOf 13 = .ok (.if_icmp .ge 49, 3) := by decide +kernel
theorem dX7_priceOf_16 : decode cX7_priceOf 16 = .ok (.aload_n 0, 1) := by decide +kernel
theorem dX7_priceOf_17 : decode cX7_priceOf 17 = .ok (.iload_n 1, 1) := by decide +kernel
theorem dX7_priceOf_18 : decode cX7_priceOf 18 = .ok (.iload 5, 2) := by decide +kernel
theorem dX7_priceOf_20 : decode cX7_priceOf 20 = .ok (.invokevirtual 197, 3) := by decide +kernel
theorem dX7_priceOf_23 : decode cX7_priceOf 23 = .ok (.ifCond .eq 31, 3) := by decide +kernel
theorem dX7_priceOf_26 : decode cX7_priceOf 26 = .ok (.lload_n 3, 1) := by decide +kernel
theorem dX7_priceOf_27 : decode cX7_priceOf 27 = .ok (.lconst 0, 1) := by decide +kernel
theorem dX7_priceOf_28 : decode cX7_priceOf 28 = .ok (.lcmp, 1) := by decide +kernel
theorem dX7_priceOf_29 : decode cX7_priceOf 29 = .ok (.ifCond .lt 15, 3) := by decide +kernel
theorem dX7_priceOf_32 : decode cX7_priceOf 32 = .ok (.aload_n 0, 1) := by decide +kernel
theorem dX7_priceOf_33 : decode cX7_priceOf 33 = .ok (.iload 5, 2) := by decide +kernel
theorem dX7_priceOf_35 : decode cX7_priceOf 35 = .ok (.iload_n 2, 1) := by decide +kernel
theorem dX7_priceOf_36 : decode cX7_priceOf 36 = .ok (.invokevirtual 201, 3) := by decide +kernel
theorem dX7_priceOf_39 : decode cX7_priceOf 39 = .ok (.lload_n 3, 1) := by decide +kernel
theorem dX7_priceOf_40 : decode cX7_priceOf 40 = .ok (.lcmp, 1) := by decide +kernel
theorem dX7_priceOf_41 : decode cX7_priceOf 41 = .ok (.ifCond .ge 13, 3) := by decide +kernel
theorem dX7_priceOf_44 : decode cX7_priceOf 44 = .ok (.aload_n 0, 1) := by decide +kernel
theorem dX7_priceOf_45 : decode cX7_priceOf 45 = .ok (.iload 5, 2) := by decide +kernel
theorem dX7_priceOf_47 : decode cX7_priceOf 47 = .ok (.iload_n 2, 1) := by decide +kernel
theorem dX7_priceOf_48 : decode cX7_priceOf 48 = .ok (.invokevirtual 201, 3) := by decide +kernel
theorem dX7_priceOf_51 : decode cX7_priceOf 51 = .ok (.goto 4, 3) := by decide +kernel
theorem dX7_priceOf_54 : decode cX7_priceOf 54 = .ok (.lload_n 3, 1) := by decide +kernel
theorem dX7_priceOf_55 : decode cX7_priceOf 55 = .ok (.lstore_n 3, 1) := by decide +kernel
theorem dX7_priceOf_56 : decode cX7_priceOf 56 = .ok (.iinc 5 1, 3) := by decide +kernel
theorem dX7_priceOf_59 : decode cX7_priceOf 59 = .ok (.goto (-52), 3) := by decide +kernel
theorem dX7_priceOf_62 : decode cX7_priceOf 62 = .ok (.lload_n 3, 1) := by decide +kernel
theorem dX7_priceOf_63 : decode cX7_priceOf 63 = .ok (.lreturn, 1) := by decide +kernel
theorem dX7_makersOf_0 : decode cX7_makersOf 0 = .ok (.aload_n 0, 1) := by decide +kernel
theorem dX7_makersOf_1 : decode cX7_makersOf 1 = .ok (.iload_n 1, 1) := by decide +kernel
theorem dX7_makersOf_2 : decode cX7_makersOf 2 = .ok (.iload_n 2, 1) := by decide +kernel
theorem dX7_makersOf_3 : decode cX7_makersOf 3 = .ok (.invokevirtual 205, 3) := by decide +kernel
theorem dX7_makersOf_6 : decode cX7_makersOf 6 = .ok (.lstore_n 3, 1) := by decide +kernel
theorem dX7_makersOf_7 : decode cX7_makersOf 7 = .ok (.iconst 0, 1) := by decide +kernel
theorem dX7_makersOf_8 : decode cX7_makersOf 8 = .ok (.istore 5, 2) := by decide +kernel
theorem dX7_makersOf_10 : decode cX7_makersOf 10 = .ok (.iconst 0, 1) := by decide +kernel
theorem dX7_makersOf_11 : decode cX7_makersOf 11 = .ok (.istore 6, 2) := by decide +kernel
theorem dX7_makersOf_13 : decode cX7_makersOf 13 = .ok (.iload 6, 2) := by decide +kernel
theorem dX7_makersOf_15 : decode cX7_makersOf 15 = .ok (.aload_n 0, 1) := by decide +kernel
theorem dX7_makersOf_16 : decode cX7_makersOf 16 = .ok (.getfield 176, 3) := by decide +kernel
theorem dX7_makersOf_19 : decode cX7_makersOf 19 = .ok (.if_icmp .ge 44, 3) := by decide +kernel
theorem dX7_makersOf_22 : decode cX7_makersOf 22 = .ok (.iload 5, 2) := by decide +kernel
theorem dX7_makersOf_24 : decode cX7_makersOf 24 = .ok (.aload_n 0, 1) := by decide +kernel
theorem dX7_makersOf_25 : decode cX7_makersOf 25 = .ok (.iload_n 1, 1) := by decide +kernel
theorem dX7_makersOf_26 : decode cX7_makersOf 26 = .ok (.iload 6, 2) := by decide +kernel
theorem dX7_makersOf_28 : decode cX7_makersOf 28 = .ok (.invokevirtual 197, 3) := by decide +kernel
theorem dX7_makersOf_31 : decode cX7_makersOf 31 = .ok (.ifCond .eq 22, 3) := by decide +kernel
theorem dX7_makersOf_34 : decode cX7_makersOf 34 = .ok (.aload_n 0, 1) := by decide +kernel
theorem dX7_makersOf_35 : decode cX7_makersOf 35 = .ok (.iload 6, 2) := by decide +kernel
theorem dX7_makersOf_37 : decode cX7_makersOf 37 = .ok (.iload_n 2, 1) := by decide +kernel
theorem dX7_makersOf_38 : decode cX7_makersOf 38 = .ok (.invokevirtual 201, 3) := by decide +kernel
theorem dX7_makersOf_41 : decode cX7_makersOf 41 = .ok (.lload_n 3, 1) := by decide +kernel
theorem dX7_makersOf_42 : decode cX7_makersOf 42 = .ok (.lcmp, 1) := by decide +kernel
theorem dX7_makersOf_43 : decode cX7_makersOf 43 = .ok (.ifCond .ne 10, 3) := by decide +kernel
theorem dX7_makersOf_46 : decode cX7_makersOf 46 = .ok (.iconst 1, 1) := by decide +kernel
theorem dX7_makersOf_47 : decode cX7_makersOf 47 = .ok (.iload 6, 2) := by decide +kernel
theorem dX7_makersOf_49 : decode cX7_makersOf 49 = .ok (.ishl, 1) := by decide +kernel
theorem dX7_makersOf_50 : decode cX7_makersOf 50 = .ok (.goto 4, 3) := by decide +kernel
theorem dX7_makersOf_53 : decode cX7_makersOf 53 = .ok (.iconst 0, 1) := by decide +kernel
theorem dX7_makersOf_54 : decode cX7_makersOf 54 = .ok (.ior, 1) := by decide +kernel
theorem dX7_makersOf_55 : decode cX7_makersOf 55 = .ok (.istore 5, 2) := by decide +kernel
theorem dX7_makersOf_57 : decode cX7_makersOf 57 = .ok (.iinc 6 1, 3) := by decide +kernel
theorem dX7_makersOf_60 : decode cX7_makersOf 60 = .ok (.goto (-47), 3) := by decide +kernel
theorem dX7_makersOf_63 : decode cX7_makersOf 63 = .ok (.iload 5, 2) := by decide +kernel
theorem dX7_makersOf_65 : decode cX7_makersOf 65 = .ok (.ireturn, 1) := by decide +kernel
theorem dX7_allShares_0 : decode cX7_allShares 0 = .ok (.iconst 0, 1) := by decide +kernel
theorem dX7_allShares_1 : decode cX7_allShares 1 = .ok (.istore_n 1, 1) := by decide +kernel
theorem dX7_allShares_2 : decode cX7_allShares 2 = .ok (.iconst 0, 1) := by decide +kernel
theorem dX7_allShares_3 : decode cX7_allShares 3 = .ok (.istore_n 2, 1) := by decide +kernel
theorem dX7_allShares_4 : decode cX7_allShares 4 = .ok (.iload_n 2, 1) := by decide +kernel
theorem dX7_allShares_5 : decode cX7_allShares 5 = .ok (.aload_n 0, 1) := by decide +kernel
theorem dX7_allShares_6 : decode cX7_allShares 6 = .ok (.getfield 179, 3) := by decide +kernel
theorem dX7_allShares_9 : decode cX7_allShares 9 = .ok (.if_icmp .ge 18, 3) := by decide +kernel
theorem dX7_allShares_12 : decode cX7_allShares 12 = .ok (.iload_n 1, 1) := by decide +kernel
theorem dX7_allShares_13 : decode cX7_allShares 13 = .ok (.aload_n 0, 1) := by decide +kernel
theorem dX7_allShares_14 : decode cX7_allShares 14 = .ok (.getfield 19, 3) := by decide +kernel
theorem dX7_allShares_17 : decode cX7_allShares 17 = .ok (.iload_n 2, 1) := by decide +kernel
theorem dX7_allShares_18 : decode cX7_allShares 18 = .ok (.iaload, 1) := by decide +kernel
theorem dX7_allShares_19 : decode cX7_allShares 19 = .ok (.iadd, 1) := by decide +kernel
theorem dX7_allShares_20 : decode cX7_allShares 20 = .ok (.istore_n 1, 1) := by decide +kernel
theorem dX7_allShares_21 : decode cX7_allShares 21 = .ok (.iinc 2 1, 3) := by decide +kernel
theorem dX7_allShares_24 : decode cX7_allShares 24 = .ok (.goto (-20), 3) := by decide +kernel
theorem dX7_allShares_27 : decode cX7_allShares 27 = .ok (.iload_n 1, 1) := by decide +kernel
theorem dX7_allShares_28 : decode cX7_allShares 28 = .ok (.ireturn, 1) := by decide +kernel
theorem dX7_incomeOf_0 : decode cX7_incomeOf 0 = .ok (.lconst 0, 1) := by decide +kernel
theorem dX7_incomeOf_1 : decode cX7_incomeOf 1 = .ok (.lstore_n 2, 1) := by decide +kernel
theorem dX7_incomeOf_2 : decode cX7_incomeOf 2 = .ok (.iconst 0, 1) := by decide +kernel
theorem dX7_incomeOf_3 : decode cX7_incomeOf 3 = .ok (.istore 4, 2) := by decide +kernel
theorem dX7_incomeOf_5 : decode cX7_incomeOf 5 = .ok (.iload 4, 2) := by decide +kernel
theorem dX7_incomeOf_7 : decode cX7_incomeOf 7 = .ok (.aload_n 0, 1) := by decide +kernel
theorem dX7_incomeOf_8 : decode cX7_incomeOf 8 = .ok (.getfield 176, 3) := by decide +kernel
theorem dX7_incomeOf_11 : decode cX7_incomeOf 11 = .ok (.if_icmp .ge 42, 3) := by decide +kernel
theorem dX7_incomeOf_14 : decode cX7_incomeOf 14 = .ok (.lload_n 2, 1) := by decide +kernel
theorem dX7_incomeOf_15 : decode cX7_incomeOf 15 = .ok (.aload_n 0, 1) := by decide +kernel
theorem dX7_incomeOf_16 : decode cX7_incomeOf 16 = .ok (.iload_n 1, 1) := by decide +kernel
theorem dX7_incomeOf_17 : decode cX7_incomeOf 17 = .ok (.iload 4, 2) := by decide +kernel
theorem dX7_incomeOf_19 : decode cX7_incomeOf 19 = .ok (.invokevirtual 197, 3) := by decide +kernel
theorem dX7_incomeOf_22 : decode cX7_incomeOf 22 = .ok (.ifCond .eq 22, 3) := by decide +kernel
theorem dX7_incomeOf_25 : decode cX7_incomeOf 25 = .ok (.aload_n 0, 1) := by decide +kernel
theorem dX7_incomeOf_26 : decode cX7_incomeOf 26 = .ok (.getfield 22, 3) := by decide +kernel
theorem dX7_incomeOf_29 : decode cX7_incomeOf 29 = .ok (.iload 4, 2) := by decide +kernel
theorem dX7_incomeOf_31 : decode cX7_incomeOf 31 = .ok (.iaload, 1) := by decide +kernel
theorem dX7_incomeOf_32 : decode cX7_incomeOf 32 = .ok (.i2l, 1) := by decide +kernel
theorem dX7_incomeOf_33 : decode cX7_incomeOf 33 = .ok (.aload_n 0, 1) := by decide +kernel
theorem dX7_incomeOf_34 : decode cX7_incomeOf 34 = .ok (.getfield 40, 3) := by decide +kernel
theorem dX7_incomeOf_37 : decode cX7_incomeOf 37 = .ok (.iload 4, 2) := by decide +kernel
theorem dX7_incomeOf_39 : decode cX7_incomeOf 39 = .ok (.laload, 1) := by decide +kernel
theorem dX7_incomeOf_40 : decode cX7_incomeOf 40 = .ok (.lmul, 1) := by decide +kernel
theorem dX7_incomeOf_41 : decode cX7_incomeOf 41 = .ok (.goto 4, 3) := by decide +kernel
theorem dX7_incomeOf_44 : decode cX7_incomeOf 44 = .ok (.lconst 0, 1) := by decide +kernel
theorem dX7_incomeOf_45 : decode cX7_incomeOf 45 = .ok (.ladd, 1) := by decide +kernel
theorem dX7_incomeOf_46 : decode cX7_incomeOf 46 = .ok (.lstore_n 2, 1) := by decide +kernel
theorem dX7_incomeOf_47 : decode cX7_incomeOf 47 = .ok (.iinc 4 1, 3) := by decide +kernel
theorem dX7_incomeOf_50 : decode cX7_incomeOf 50 = .ok (.goto (-45), 3) := by decide +kernel
theorem dX7_incomeOf_53 : decode cX7_incomeOf 53 = .ok (.lload_n 2, 1) := by decide +kernel
theorem dX7_incomeOf_54 : decode cX7_incomeOf 54 = .ok (.lreturn, 1) := by decide +kernel
theorem dX7_idleOf_0 : decode cX7_idleOf 0 = .ok (.aload_n 0, 1) := by decide +kernel
theorem dX7_idleOf_1 : decode cX7_idleOf 1 = .ok (.iload_n 1, 1) := by decide +kernel
theorem dX7_idleOf_2 : decode cX7_idleOf 2 = .ok (.invokevirtual 208, 3) := by decide +kernel
theorem dX7_idleOf_5 : decode cX7_idleOf 5 = .ok (.lstore_n 2, 1) := by decide +kernel
theorem dX7_idleOf_6 : decode cX7_idleOf 6 = .ok (.iconst 0, 1) := by decide +kernel
theorem dX7_idleOf_7 : decode cX7_idleOf 7 = .ok (.istore 4, 2) := by decide +kernel
theorem dX7_idleOf_9 : decode cX7_idleOf 9 = .ok (.iload 4, 2) := by decide +kernel
theorem dX7_idleOf_11 : decode cX7_idleOf 11 = .ok (.aload_n 0, 1) := by decide +kernel
theorem dX7_idleOf_12 : decode cX7_idleOf 12 = .ok (.getfield 179, 3) := by decide +kernel
theorem dX7_idleOf_15 : decode cX7_idleOf 15 = .ok (.if_icmp .ge 23, 3) := by decide +kernel
theorem dX7_idleOf_18 : decode cX7_idleOf 18 = .ok (.aload_n 0, 1) := by decide +kernel
theorem dX7_idleOf_19 : decode cX7_idleOf 19 = .ok (.getfield 44, 3) := by decide +kernel
theorem dX7_idleOf_22 : decode cX7_idleOf 22 = .ok (.iload 4, 2) := by decide +kernel
theorem dX7_idleOf_24 : decode cX7_idleOf 24 = .ok (.aload_n 0, 1) := by decide +kernel
theorem dX7_idleOf_25 : decode cX7_idleOf 25 = .ok (.iload_n 1, 1) := by decide +kernel
theorem dX7_idleOf_26 : decode cX7_idleOf 26 = .ok (.iload 4, 2) := by decide +kernel
theorem dX7_idleOf_28 : decode cX7_idleOf 28 = .ok (.invokevirtual 211, 3) := by decide +kernel
theorem dX7_idleOf_31 : decode cX7_idleOf 31 = .ok (.iastore, 1) := by decide +kernel
theorem dX7_idleOf_32 : decode cX7_idleOf 32 = .ok (.iinc 4 1, 3) := by decide +kernel
theorem dX7_idleOf_35 : decode cX7_idleOf 35 = .ok (.goto (-26), 3) := by decide +kernel
theorem dX7_idleOf_38 : decode cX7_idleOf 38 = .ok (.iconst 1, 1) := by decide +kernel
theorem dX7_idleOf_39 : decode cX7_idleOf 39 = .ok (.istore 4, 2) := by decide +kernel
theorem dX7_idleOf_41 : decode cX7_idleOf 41 = .ok (.iload 4, 2) := by decide +kernel
theorem dX7_idleOf_43 : decode cX7_idleOf 43 = .ok (.iload_n 1, 1) := by decide +kernel
theorem dX7_idleOf_44 : decode cX7_idleOf 44 = .ok (.if_icmp .gt 92, 3) := by decide +kernel
theorem dX7_idleOf_47 : decode cX7_idleOf 47 = .ok (.iload 4, 2) := by decide +kernel
theorem dX7_idleOf_49 : decode cX7_idleOf 49 = .ok (.iload_n 1, 1) := by decide +kernel
theorem dX7_idleOf_50 : decode cX7_idleOf 50 = .ok (.iconst (-1), 1) := by decide +kernel
theorem dX7_idleOf_51 : decode cX7_idleOf 51 = .ok (.ixor, 1) := by decide +kernel
theorem dX7_idleOf_52 : decode cX7_idleOf 52 = .ok (.iand, 1) := by decide +kernel
theorem dX7_idleOf_53 : decode cX7_idleOf 53 = .ok (.ifCond .ne 77, 3) := by decide +kernel
theorem dX7_idleOf_56 : decode cX7_idleOf 56 = .ok (.iconst 0, 1) := by decide +kernel
theorem dX7_idleOf_57 : decode cX7_idleOf 57 = .ok (.istore 5, 2) := by decide +kernel
theorem dX7_idleOf_59 : decode cX7_idleOf 59 = .ok (.iconst 0, 1) := by decide +kernel
theorem dX7_idleOf_60 : decode cX7_idleOf 60 = .ok (.istore 6, 2) := by decide +kernel
theorem dX7_idleOf_62 : decode cX7_idleOf 62 = .ok (.iload 6, 2) := by decide +kernel
theorem dX7_idleOf_64 : decode cX7_idleOf 64 = .ok (.aload_n 0, 1) := by decide +kernel
theorem dX7_idleOf_65 : decode cX7_idleOf 65 = .ok (.getfield 179, 3) := by decide +kernel
theorem dX7_idleOf_68 : decode cX7_idleOf 68 = .ok (.if_icmp .ge 38, 3) := by decide +kernel
theorem dX7_idleOf_71 : decode cX7_idleOf 71 = .ok (.iload 5, 2) := by decide +kernel
theorem dX7_idleOf_73 : decode cX7_idleOf 73 = .ok (.aload_n 0, 1) := by decide +kernel
theorem dX7_idleOf_74 : decode cX7_idleOf 74 = .ok (.getfield 44, 3) := by decide +kernel
theorem dX7_idleOf_77 : decode cX7_idleOf 77 = .ok (.iload 6, 2) := by decide +kernel
theorem dX7_idleOf_79 : decode cX7_idleOf 79 = .ok (.iaload, 1) := by decide +kernel
theorem dX7_idleOf_80 : decode cX7_idleOf 80 = .ok (.iload 4, 2) := by decide +kernel
theorem dX7_idleOf_82 : decode cX7_idleOf 82 = .ok (.iand, 1) := by decide +kernel
theorem dX7_idleOf_83 : decode cX7_idleOf 83 = .ok (.ifCond .ne 7, 3) := by decide +kernel
theorem dX7_idleOf_86 : decode cX7_idleOf 86 = .ok (.iconst 0, 1) := by decide +kernel
theorem dX7_idleOf_87 : decode cX7_idleOf 87 = .ok (.goto 10, 3) := by decide +kernel
theorem dX7_idleOf_90 : decode cX7_idleOf 90 = .ok (.aload_n 0, 1) := by decide +kernel
theorem dX7_idleOf_91 : decode cX7_idleOf 91 = .ok (.getfield 19, 3) := by decide +kernel
theorem dX7_idleOf_94 : decode cX7_idleOf 94 = .ok (.iload 6, 2) := by decide +kernel
theorem dX7_idleOf_96 : decode cX7_idleOf 96 = .ok (.iaload, 1) := by decide +kernel
theorem dX7_idleOf_97 : decode cX7_idleOf 97 = .ok (.iadd, 1) := by decide +kernel
theorem dX7_idleOf_98 : decode cX7_idleOf 98 = .ok (.istore 5, 2) := by decide +kernel
theorem dX7_idleOf_100 : decode cX7_idleOf 100 = .ok (.iinc 6 1, 3) := by decide +kernel
theorem dX7_idleOf_103 : decode cX7_idleOf 103 = .ok (.goto (-41), 3) := by decide +kernel
theorem dX7_idleOf_106 : decode cX7_idleOf 106 = .ok (.aload_n 0, 1) := by decide +kernel
theorem dX7_idleOf_107 : decode cX7_idleOf 107 = .ok (.iload 4, 2) := by decide +kernel
theorem dX7_idleOf_109 : decode cX7_idleOf 109 = .ok (.invokevirtual 208, 3) := by decide +kernel
theorem dX7_idleOf_112 : decode cX7_idleOf 112 = .ok (.aload_n 0, 1) := by decide +kernel
theorem dX7_idleOf_113 : decode cX7_idleOf 113 = .ok (.invokevirtual 215, 3) := by decide +kernel
theorem dX7_idleOf_116 : decode cX7_idleOf 116 = .ok (.i2l, 1) := by decide +kernel
theorem dX7_idleOf_117 : decode cX7_idleOf 117 = .ok (.lmul, 1) := by decide +kernel
theorem dX7_idleOf_118 : decode cX7_idleOf 118 = .ok (.lload_n 2, 1) := by decide +kernel
theorem dX7_idleOf_119 : decode cX7_idleOf 119 = .ok (.iload 5, 2) := by decide +kernel
theorem dX7_idleOf_121 : decode cX7_idleOf 121 = .ok (.i2l, 1) := by decide +kernel
theorem dX7_idleOf_122 : decode cX7_idleOf 122 = .ok (.lmul, 1) := by decide +kernel
theorem dX7_idleOf_123 : decode cX7_idleOf 123 = .ok (.lcmp, 1) := by decide +kernel
theorem dX7_idleOf_124 : decode cX7_idleOf 124 = .ok (.ifCond .le 6, 3) := by decide +kernel
theorem dX7_idleOf_127 : decode cX7_idleOf 127 = .ok (.iload 4, 2) := by decide +kernel
theorem dX7_idleOf_129 : decode cX7_idleOf 129 = .ok (.ireturn, 1) := by decide +kernel
theorem dX7_idleOf_130 : decode cX7_idleOf 130 = .ok (.iinc 4 1, 3) := by decide +kernel
theorem dX7_idleOf_133 : decode cX7_idleOf 133 = .ok (.goto (-92), 3) := by decide +kernel
theorem dX7_idleOf_136 : decode cX7_idleOf 136 = .ok (.iconst 0, 1) := by decide +kernel
theorem dX7_idleOf_137 : decode cX7_idleOf 137 = .ok (.ireturn, 1) := by decide +kernel
theorem dX7_isRest_0 : decode cX7_isRest 0 = .ok (.aload_n 0, 1) := by decide +kernel
theorem dX7_isRest_1 : decode cX7_isRest 1 = .ok (.getfield 40, 3) := by decide +kernel
theorem dX7_isRest_4 : decode cX7_isRest 4 = .ok (.iconst 0, 1) := by decide +kernel
theorem dX7_isRest_5 : decode cX7_isRest 5 = .ok (.lload_n 2, 1) := by decide +kernel
theorem dX7_isRest_6 : decode cX7_isRest 6 = .ok (.lastore, 1) := by decide +kernel
theorem dX7_isRest_7 : decode cX7_isRest 7 = .ok (.aload_n 0, 1) := by decide +kernel
theorem dX7_isRest_8 : decode cX7_isRest 8 = .ok (.getfield 40, 3) := by decide +kernel
theorem dX7_isRest_11 : decode cX7_isRest 11 = .ok (.iconst 1, 1) := by decide +kernel
theorem dX7_isRest_12 : decode cX7_isRest 12 = .ok (.lload 4, 2) := by decide +kernel
theorem dX7_isRest_14 : decode cX7_isRest 14 = .ok (.lastore, 1) := by decide +kernel
theorem dX7_isRest_15 : decode cX7_isRest 15 = .ok (.aload_n 0, 1) := by decide +kernel
theorem dX7_isRest_16 : decode cX7_isRest 16 = .ok (.getfield 40, 3) := by decide +kernel
theorem dX7_isRest_19 : decode cX7_isRest 19 = .ok (.iconst 2, 1) := by decide +kernel
theorem dX7_isRest_20 : decode cX7_isRest 20 = .ok (.lload 6, 2) := by decide +kernel
theorem dX7_isRest_22 : decode cX7_isRest 22 = .ok (.lastore, 1) := by decide +kernel
theorem dX7_isRest_23 : decode cX7_isRest 23 = .ok (.lload_n 2, 1) := by decide +kernel
theorem dX7_isRest_24 : decode cX7_isRest 24 = .ok (.lconst 0, 1) := by decide +kernel
theorem dX7_isRest_25 : decode cX7_isRest 25 = .ok (.lcmp, 1) := by decide +kernel
theorem dX7_isRest_26 : decode cX7_isRest 26 = .ok (.ifCond .le 29, 3) := by decide +kernel
theorem dX7_isRest_29 : decode cX7_isRest 29 = .ok (.lload 4, 2) := by decide +kernel
theorem dX7_isRest_31 : decode cX7_isRest 31 = .ok (.lconst 0, 1) := by decide +kernel
theorem dX7_isRest_32 : decode cX7_isRest 32 = .ok (.lcmp, 1) := by decide +kernel
theorem dX7_isRest_33 : decode cX7_isRest 33 = .ok (.ifCond .le 22, 3) := by decide +kernel
theorem dX7_isRest_36 : decode cX7_isRest 36 = .ok (.lload 6, 2) := by decide +kernel
theorem dX7_isRest_38 : decode cX7_isRest 38 = .ok (.lconst 0, 1) := by decide +kernel
theorem dX7_isRest_39 : decode cX7_isRest 39 = .ok (.lcmp, 1) := by decide +kernel
theorem dX7_isRest_40 : decode cX7_isRest 40 = .ok (.ifCond .le 15, 3) := by decide +kernel
theorem dX7_isRest_43 : decode cX7_isRest 43 = .ok (.aload_n 0, 1) := by decide +kernel
theorem dX7_isRest_44 : decode cX7_isRest 44 = .ok (.iload_n 1, 1) := by decide +kernel
theorem dX7_isRest_45 : decode cX7_isRest 45 = .ok (.invokevirtual 219, 3) := by decide +kernel
theorem dX7_isRest_48 : decode cX7_isRest 48 = .ok (.ifCond .ne 7, 3) := by decide +kernel
theorem dX7_isRest_51 : decode cX7_isRest 51 = .ok (.iconst 1, 1) := by decide +kernel
theorem dX7_isRest_52 : decode cX7_isRest 52 = .ok (.goto 4, 3) := by decide +kernel
theorem dX7_isRest_55 : decode cX7_isRest 55 = .ok (.iconst 0, 1) := by decide +kernel
theorem dX7_isRest_56 : decode cX7_isRest 56 = .ok (.ireturn, 1) := by decide +kernel
theorem dX7_isRowAtRest_0 : decode cX7_isRowAtRest 0 = .ok (.aload_n 0, 1) := by decide +kernel
theorem dX7_isRowAtRest_1 : decode cX7_isRowAtRest 1 = .ok (.iload_n 1, 1) := by decide +kernel
theorem dX7_isRowAtRest_2 : decode cX7_isRowAtRest 2 = .ok (.aload_n 0, 1) := by decide +kernel
theorem dX7_isRowAtRest_3 : decode cX7_isRowAtRest 3 = .ok (.getfield 47, 3) := by decide +kernel
theorem dX7_isRowAtRest_6 : decode cX7_isRowAtRest 6 = .ok (.iconst 0, 1) := by decide +kernel
theorem dX7_isRowAtRest_7 : decode cX7_isRowAtRest 7 = .ok (.laload, 1) := by decide +kernel
theorem dX7_isRowAtRest_8 : decode cX7_isRowAtRest 8 = .ok (.aload_n 0, 1) := by decide +kernel
theorem dX7_isRowAtRest_9 : decode cX7_isRowAtRest 9 = .ok (.getfield 47, 3) := by decide +kernel
theorem dX7_isRowAtRest_12 : decode cX7_isRowAtRest 12 = .ok (.iconst 1, 1) := by decide +kernel
theorem dX7_isRowAtRest_13 : decode cX7_isRowAtRest 13 = .ok (.laload, 1) := by decide +kernel
theorem dX7_isRowAtRest_14 : decode cX7_isRowAtRest 14 = .ok (.aload_n 0, 1) := by decide +kernel
theorem dX7_isRowAtRest_15 : decode cX7_isRowAtRest 15 = .ok (.getfield 47, 3) := by decide +kernel
theorem dX7_isRowAtRest_18 : decode cX7_isRowAtRest 18 = .ok (.iconst 2, 1) := by decide +kernel
theorem dX7_isRowAtRest_19 : decode cX7_isRowAtRest 19 = .ok (.laload, 1) := by decide +kernel
theorem dX7_isRowAtRest_20 : decode cX7_isRowAtRest 20 = .ok (.invokevirtual 222, 3) := by decide +kernel
theorem dX7_isRowAtRest_23 : decode cX7_isRowAtRest 23 = .ok (.ireturn, 1) := by decide +kernel
theorem dX7_bind_0 : decode cX7_bind 0 = .ok (.aload_n 0, 1) := by decide +kernel
theorem dX7_bind_1 : decode cX7_bind 1 = .ok (.getfield 47, 3) := by decide +kernel
theorem dX7_bind_4 : decode cX7_bind 4 = .ok (.iload_n 1, 1) := by decide +kernel
theorem dX7_bind_5 : decode cX7_bind 5 = .ok (.aload_n 0, 1) := by decide +kernel
theorem dX7_bind_6 : decode cX7_bind 6 = .ok (.getfield 25, 3) := by decide +kernel
theorem dX7_bind_9 : decode cX7_bind 9 = .ok (.bipush 6, 2) := by decide +kernel
theorem dX7_bind_11 : decode cX7_bind 11 = .ok (.iload_n 2, 1) := by decide +kernel
theorem dX7_bind_12 : decode cX7_bind 12 = .ok (.imul, 1) := by decide +kernel
theorem dX7_bind_13 : decode cX7_bind 13 = .ok (.iload_n 3, 1) := by decide +kernel
theorem dX7_bind_14 : decode cX7_bind 14 = .ok (.iadd, 1) := by decide +kernel
theorem dX7_bind_15 : decode cX7_bind 15 = .ok (.iaload, 1) := by decide +kernel
theorem dX7_bind_16 : decode cX7_bind 16 = .ok (.i2l, 1) := by decide +kernel
theorem dX7_bind_17 : decode cX7_bind 17 = .ok (.lload 4, 2) := by decide +kernel
theorem dX7_bind_19 : decode cX7_bind 19 = .ok (.lmul, 1) := by decide +kernel
theorem dX7_bind_20 : decode cX7_bind 20 = .ok (.lastore, 1) := by decide +kernel
theorem dX7_bind_21 : decode cX7_bind 21 = .ok (.aload_n 0, 1) := by decide +kernel
theorem dX7_bind_22 : decode cX7_bind 22 = .ok (.getfield 47, 3) := by decide +kernel
theorem dX7_bind_25 : decode cX7_bind 25 = .ok (.iload_n 2, 1) := by decide +kernel
theorem dX7_bind_26 : decode cX7_bind 26 = .ok (.aload_n 0, 1) := by decide +kernel
theorem dX7_bind_27 : decode cX7_bind 27 = .ok (.getfield 25, 3) := by decide +kernel
theorem dX7_bind_30 : decode cX7_bind 30 = .ok (.bipush 6, 2) := by decide +kernel
theorem dX7_bind_32 : decode cX7_bind 32 = .ok (.iload_n 1, 1) := by decide +kernel
theorem dX7_bind_33 : decode cX7_bind 33 = .ok (.imul, 1) := by decide +kernel
theorem dX7_bind_34 : decode cX7_bind 34 = .ok (.iload_n 3, 1) := by decide +kernel
theorem dX7_bind_35 : decode cX7_bind 35 = .ok (.iadd, 1) := by decide +kernel
theorem dX7_bind_36 : decode cX7_bind 36 = .ok (.iaload, 1) := by decide +kernel
theorem dX7_bind_37 : decode cX7_bind 37 = .ok (.i2l, 1) := by decide +kernel
theorem dX7_bind_38 : decode cX7_bind 38 = .ok (.lload 4, 2) := by decide +kernel
theorem dX7_bind_40 : decode cX7_bind 40 = .ok (.lmul, 1) := by decide +kernel
theorem dX7_bind_41 : decode cX7_bind 41 = .ok (.lastore, 1) := by decide +kernel
theorem dX7_bind_42 : decode cX7_bind 42 = .ok (.return_, 1) := by decide +kernel
theorem dX7_isPairBound_0 : decode cX7_isPairBound 0 = .ok (.aload_n 0, 1) := by decide +kernel
theorem dX7_isPairBound_1 : decode cX7_isPairBound 1 = .ok (.getfield 47, 3) := by decide +kernel
theorem dX7_isPairBound_4 : decode cX7_isPairBound 4 = .ok (.iconst 3, 1) := by decide +kernel
theorem dX7_isPairBound_5 : decode cX7_isPairBound 5 = .ok (.iload_n 2, 1) := by decide +kernel
theorem dX7_isPairBound_6 : decode cX7_isPairBound 6 = .ok (.isub, 1) := by decide +kernel
theorem dX7_isPairBound_7 : decode cX7_isPairBound 7 = .ok (.iload_n 3, 1) := by decide +kernel
theorem dX7_isPairBound_8 : decode cX7_isPairBound 8 = .ok (.isub, 1) := by decide +kernel
theorem dX7_isPairBound_9 : decode cX7_isPairBound 9 = .ok (.lconst 1, 1) := by decide +kernel
theorem dX7_isPairBound_10 : decode cX7_isPairBound 10 = .ok (.lastore, 1) := by decide +kernel
theorem dX7_isPairBound_11 : decode cX7_isPairBound 11 = .ok (.iconst 0, 1) := by decide +kernel
theorem dX7_isPairBound_12 : decode cX7_isPairBound 12 = .ok (.istore 4, 2) := by decide +kernel
theorem dX7_isPairBound_14 : decode cX7_isPairBound 14 = .ok (.iload 4, 2) := by decide +kernel
theorem dX7_isPairBound_16 : decode cX7_isPairBound 16 = .ok (.aload_n 0, 1) := by decide +kernel
theorem dX7_isPairBound_17 : decode cX7_isPairBound 17 = .ok (.getfield 179, 3) := by decide +kernel
theorem dX7_isPairBound_20 : decode cX7_isPairBound 20 = .ok (.if_icmp .ge 28, 3) := by decide +kernel
theorem dX7_isPairBound_23 : decode cX7_isPairBound 23 = .ok (.aload_n 0, 1) := by decide +kernel
theorem dX7_isPairBound_24 : decode cX7_isPairBound 24 = .ok (.iload_n 2, 1) := by decide +kernel
theorem dX7_isPairBound_25 : decode cX7_isPairBound 25 = .ok (.iload_n 3, 1) := by decide +kernel
theorem dX7_isPairBound_26 : decode cX7_isPairBound 26 = .ok (.iload 4, 2) := by decide +kernel
theorem dX7_isPairBound_28 : decode cX7_isPairBound 28 = .ok (.lconst 1, 1) := by decide +kernel
theorem dX7_isPairBound_29 : decode cX7_isPairBound 29 = .ok (.invokevirtual 226, 3) := by decide +kernel
theorem dX7_isPairBound_32 : decode cX7_isPairBound 32 = .ok (.aload_n 0, 1) := by decide +kernel
theorem dX7_isPairBound_33 : decode cX7_isPairBound 33 = .ok (.iload_n 1, 1) := by decide +kernel
theorem dX7_isPairBound_34 : decode cX7_isPairBound 34 = .ok (.invokevirtual 230, 3) := by decide +kernel
theorem dX7_isPairBound_37 : decode cX7_isPairBound 37 = .ok (.ifCond .eq 5, 3) := by decide +kernel
theorem dX7_isPairBound_40 : decode cX7_isPairBound 40 = .ok (.iconst 1, 1) := by decide +kernel
theorem dX7_isPairBound_41 : decode cX7_isPairBound 41 = .ok (.ireturn, 1) := by decide +kernel
theorem dX7_isPairBound_42 : decode cX7_isPairBound 42 = .ok (.iinc 4 1, 3) := by decide +kernel
theorem dX7_isPairBound_45 : decode cX7_isPairBound 45 = .ok (.goto (-31), 3) := by decide +kernel
theorem dX7_isPairBound_48 : decode cX7_isPairBound 48 = .ok (.iconst 0, 1) := by decide +kernel
theorem dX7_isPairBound_49 : decode cX7_isPairBound 49 = .ok (.ireturn, 1) := by decide +kernel
theorem dX7_isParted_0 : decode cX7_isParted 0 = .ok (.iconst 1, 1) := by decide +kernel
theorem dX7_isParted_1 : decode cX7_isParted 1 = .ok (.istore 5, 2) := by decide +kernel
theorem dX7_isParted_3 : decode cX7_isParted 3 = .ok (.iload 4, 2) := by decide +kernel
theorem dX7_isParted_5 : decode cX7_isParted 5 = .ok (.ifCond .ge 7, 3) := by decide +kernel
theorem dX7_isParted_8 : decode cX7_isParted 8 = .ok (.iconst 2, 1) := by decide +kernel
theorem dX7_isParted_9 : decode cX7_isParted 9 = .ok (.goto 4, 3) := by decide +kernel
theorem dX7_isParted_12 : decode cX7_isParted 12 = .ok (.iconst 3, 1) := by decide +kernel
theorem dX7_isParted_13 : decode cX7_isParted 13 = .ok (.istore 6, 2) := by decide +kernel
theorem dX7_isParted_15 : decode cX7_isParted 15 = .ok (.iconst 0, 1) := by decide +kernel
theorem dX7_isParted_16 : decode cX7_isParted 16 = .ok (.istore 7, 2) := by decide +kernel
theorem dX7_isParted_18 : decode cX7_isParted 18 = .ok (.iload 7, 2) := by decide +kernel
theorem dX7_isParted_20 : decode cX7_isParted 20 = .ok (.aload_n 0, 1) := by decide +kernel
theorem dX7_isParted_21 : decode cX7_isParted 21 = .ok (.getfield 179, 3) := by decide +kernel
theorem dX7_isParted_24 : decode cX7_isParted 24 = .ok (.if_icmp .ge 16, 3) := by decide +kernel
theorem dX7_isParted_27 : decode cX7_isParted 27 = .ok (.iload 5, 2) := by decide +kernel
theorem dX7_isParted_29 : decode cX7_isParted 29 = .ok (.iload 6, 2) := by decide +kernel
theorem dX7_isParted_31 : decode cX7_isParted 31 = .ok (.imul, 1) := by decide +kernel
theorem dX7_isParted_32 : decode cX7_isParted 32 = .ok (.istore 5, 2) := by decide +kernel
theorem dX7_isParted_34 : decode cX7_isParted 34 = .ok (.iinc 7 1, 3) := by decide +kernel
theorem dX7_isParted_37 : decode cX7_isParted 37 = .ok (.goto (-19), 3) := by decide +kernel
theorem dX7_isParted_40 : decode cX7_isParted 40 = .ok (.iconst 0, 1) := by decide +kernel
theorem dX7_isParted_41 : decode cX7_isParted 41 = .ok (.istore 7, 2) := by decide +kernel
theorem dX7_isParted_43 : decode cX7_isParted 43 = .ok (.iload 7, 2) := by decide +kernel
theorem dX7_isParted_45 : decode cX7_isParted 45 = .ok (.iload 5, 2) := by decide +kernel
theorem dX7_isParted_47 : decode cX7_isParted 47 = .ok (.if_icmp .ge 238, 3) := by decide +kernel
theorem dX7_isParted_50 : decode cX7_isParted 50 = .ok (.aload_n 0, 1) := by decide +kernel
theorem dX7_isParted_51 : decode cX7_isParted 51 = .ok (.getfield 47, 3) := by decide +kernel
theorem dX7_isParted_54 : decode cX7_isParted 54 = .ok (.iconst 0, 1) := by decide +kernel
theorem dX7_isParted_55 : decode cX7_isParted 55 = .ok (.lconst 0, 1) := by decide +kernel
theorem dX7_isParted_56 : decode cX7_isParted 56 = .ok (.lastore, 1) := by decide +kernel
theorem dX7_isParted_57 : decode cX7_isParted 57 = .ok (.aload_n 0, 1) := by decide +kernel
theorem dX7_isParted_58 : decode cX7_isParted 58 = .ok (.getfield 47, 3) := by decide +kernel
theorem dX7_isParted_61 : decode cX7_isParted 61 = .ok (.iconst 1, 1) := by decide +kernel
theorem dX7_isParted_62 : decode cX7_isParted 62 = .ok (.lconst 0, 1) := by decide +kernel
theorem dX7_isParted_63 : decode cX7_isParted 63 = .ok (.lastore, 1) := by decide +kernel
theorem dX7_isParted_64 : decode cX7_isParted 64 = .ok (.aload_n 0, 1) := by decide +kernel
theorem dX7_isParted_65 : decode cX7_isParted 65 = .ok (.getfield 47, 3) := by decide +kernel
theorem dX7_isParted_68 : decode cX7_isParted 68 = .ok (.iconst 2, 1) := by decide +kernel
theorem dX7_isParted_69 : decode cX7_isParted 69 = .ok (.lconst 0, 1) := by decide +kernel
theorem dX7_isParted_70 : decode cX7_isParted 70 = .ok (.lastore, 1) := by decide +kernel
theorem dX7_isParted_71 : decode cX7_isParted 71 = .ok (.iload 7, 2) := by decide +kernel
theorem dX7_isParted_73 : decode cX7_isParted 73 = .ok (.istore 8, 2) := by decide +kernel
theorem dX7_isParted_75 : decode cX7_isParted 75 = .ok (.iconst 0, 1) := by decide +kernel
theorem dX7_isParted_76 : decode cX7_isParted 76 = .ok (.istore 9, 2) := by decide +kernel
theorem dX7_isParted_78 : decode cX7_isParted 78 = .ok (.iload 9, 2) := by decide +kernel
theorem dX7_isParted_80 : decode cX7_isParted 80 = .ok (.aload_n 0, 1) := by decide +kernel
theorem dX7_isParted_81 : decode cX7_isParted 81 = .ok (.getfield 179, 3) := by decide +kernel
theorem dX7_isParted_84 : decode cX7_isParted 84 = .ok (.if_icmp .ge 59, 3) := by decide +kernel
theorem dX7_isParted_87 : decode cX7_isParted 87 = .ok (.aload_n 0, 1) := by decide +kernel
theorem dX7_isParted_88 : decode cX7_isParted 88 = .ok (.getfield 47, 3) := by decide +kernel
theorem dX7_isParted_91 : decode cX7_isParted 91 = .ok (.iload 8, 2) := by decide +kernel
theorem dX7_isParted_93 : decode cX7_isParted 93 = .ok (.iload 6, 2) := by decide +kernel
theorem dX7_isParted_95 : decode cX7_isParted 95 = .ok (.irem, 1) := by decide +kernel
theorem dX7_isParted_96 : decode cX7_isParted 96 = .ok (.ifCond .ne 7, 3) := by decide +kernel
theorem dX7_isParted_99 : decode cX7_isParted 99 = .ok (.iload_n 2, 1) := by decide +kernel
theorem dX7_isParted_100 : decode cX7_isParted 100 = .ok (.goto 18, 3) := by decide +kernel
theorem dX7_isParted_103 : decode cX7_isParted 103 = .ok (.iload 8, 2) := by decide +kernel
theorem dX7_isParted_105 : decode cX7_isParted 105 = .ok (.iload 6, 2) := by decide +kernel
theorem dX7_isParted_107 : decode cX7_isParted 107 = .ok (.irem, 1) := by decide +kernel
theorem dX7_isParted_108 : decode cX7_isParted 108 = .ok (.iconst 1, 1) := by decide +kernel
theorem dX7_isParted_109 : decode cX7_isParted 109 = .ok (.if_icmp .ne 7, 3) := by decide +kernel
theorem dX7_isParted_112 : decode cX7_isParted 112 = .ok (.iload_n 3, 1) := by decide +kernel
theorem dX7_isParted_113 : decode cX7_isParted 113 = .ok (.goto 5, 3) := by decide +kernel
theorem dX7_isParted_116 : decode cX7_isParted 116 = .ok (.iload 4, 2) := by decide +kernel
theorem dX7_isParted_118 : decode cX7_isParted 118 = .ok (.dup2, 1) := by decide +kernel
theorem dX7_isParted_119 : decode cX7_isParted 119 = .ok (.laload, 1) := by decide +kernel
theorem dX7_isParted_120 : decode cX7_isParted 120 = .ok (.aload_n 0, 1) := by decide +kernel
theorem dX7_isParted_121 : decode cX7_isParted 121 = .ok (.getfield 19, 3) := by decide +kernel
theorem dX7_isParted_124 : decode cX7_isParted 124 = .ok (.iload 9, 2) := by decide +kernel
theorem dX7_isParted_126 : decode cX7_isParted 126 = .ok (.iaload, 1) := by decide +kernel
theorem dX7_isParted_127 : decode cX7_isParted 127 = .ok (.i2l, 1) := by decide +kernel
theorem dX7_isParted_128 : decode cX7_isParted 128 = .ok (.ladd, 1) := by decide +kernel
theorem dX7_isParted_129 : decode cX7_isParted 129 = .ok (.lastore, 1) := by decide +kernel
theorem dX7_isParted_130 : decode cX7_isParted 130 = .ok (.iload 8, 2) := by decide +kernel
theorem dX7_isParted_132 : decode cX7_isParted 132 = .ok (.iload 6, 2) := by decide +kernel
theorem dX7_isParted_134 : decode cX7_isParted 134 = .ok (.idiv, 1) := by decide +kernel
theorem dX7_isParted_135 : decode cX7_isParted 135 = .ok (.istore 8, 2) := by decide +kernel
theorem dX7_isParted_137 : decode cX7_isParted 137 = .ok (.iinc 9 1, 3) := by decide +kernel
theorem dX7_isParted_140 : decode cX7_isParted 140 = .ok (.goto (-62), 3) := by decide +kernel
theorem dX7_isParted_143 : decode cX7_isParted 143 = .ok (.aload_n 0, 1) := by decide +kernel
theorem dX7_isParted_144 : decode cX7_isParted 144 = .ok (.getfield 22, 3) := by decide +kernel
theorem dX7_isParted_147 : decode cX7_isParted 147 = .ok (.iload_n 2, 1) := by decide +kernel
theorem dX7_isParted_148 : decode cX7_isParted 148 = .ok (.iaload, 1) := by decide +kernel
theorem dX7_isParted_149 : decode cX7_isParted 149 = .ok (.i2l, 1) := by decide +kernel
theorem dX7_isParted_150 : decode cX7_isParted 150 = .ok (.aload_n 0, 1) := by decide +kernel
theorem dX7_isParted_151 : decode cX7_isParted 151 = .ok (.getfield 22, 3) := by decide +kernel
theorem dX7_isParted_154 : decode cX7_isParted 154 = .ok (.iload_n 3, 1) := by decide +kernel
theorem dX7_isParted_155 : decode cX7_isParted 155 = .ok (.iaload, 1) := by decide +kernel
theorem dX7_isParted_156 : decode cX7_isParted 156 = .ok (.i2l, 1) := by decide +kernel
theorem dX7_isParted_157 : decode cX7_isParted 157 = .ok (.lmul, 1) := by decide +kernel
theorem dX7_isParted_158 : decode cX7_isParted 158 = .ok (.iload 4, 2) := by decide +kernel
theorem dX7_isParted_160 : decode cX7_isParted 160 = .ok (.ifCond .ge 7, 3) := by decide +kernel
theorem dX7_isParted_163 : decode cX7_isParted 163 = .ok (.iconst 1, 1) := by decide +kernel
theorem dX7_isParted_164 : decode cX7_isParted 164 = .ok (.goto 10, 3) := by decide +kernel
theorem dX7_isParted_167 : decode cX7_isParted 167 = .ok (.aload_n 0, 1) := by decide +kernel
theorem dX7_isParted_168 : decode cX7_isParted 168 = .ok (.getfield 22, 3) := by decide +kernel
theorem dX7_isParted_171 : decode cX7_isParted 171 = .ok (.iload 4, 2) := by decide +kernel
theorem dX7_isParted_173 : decode cX7_isParted 173 = .ok (.iaload, 1) := by decide +kernel
theorem dX7_isParted_174 : decode cX7_isParted 174 = .ok (.i2l, 1) := by decide +kernel
theorem dX7_isParted_175 : decode cX7_isParted 175 = .ok (.lmul, 1) := by decide +kernel
theorem dX7_isParted_176 : decode cX7_isParted 176 = .ok (.lstore 9, 2) := by decide +kernel
theorem dX7_isParted_178 : decode cX7_isParted 178 = .ok (.aload_n 0, 1) := by decide +kernel
theorem dX7_isParted_179 : decode cX7_isParted 179 = .ok (.getfield 47, 3) := by decide +kernel
theorem dX7_isParted_182 : decode cX7_isParted 182 = .ok (.iload_n 2, 1) := by decide +kernel
theorem dX7_isParted_183 : decode cX7_isParted 183 = .ok (.aload_n 0, 1) := by decide +kernel
theorem dX7_isParted_184 : decode cX7_isParted 184 = .ok (.getfield 47, 3) := by decide +kernel
theorem dX7_isParted_187 : decode cX7_isParted 187 = .ok (.iload_n 2, 1) := by decide +kernel
theorem dX7_isParted_188 : decode cX7_isParted 188 = .ok (.laload, 1) := by decide +kernel
theorem dX7_isParted_189 : decode cX7_isParted 189 = .ok (.lload 9, 2) := by decide +kernel
theorem dX7_isParted_191 : decode cX7_isParted 191 = .ok (.aload_n 0, 1) := by decide +kernel
theorem dX7_isParted_192 : decode cX7_isParted 192 = .ok (.getfield 22, 3) := by decide +kernel
theorem dX7_isParted_195 : decode cX7_isParted 195 = .ok (.iload_n 2, 1) := by decide +kernel
theorem dX7_isParted_196 : decode cX7_isParted 196 = .ok (.iaload, 1) := by decide +kernel
theorem dX7_isParted_197 : decode cX7_isParted 197 = .ok (.i2l, 1) := by decide +kernel
theorem dX7_isParted_198 : decode cX7_isParted 198 = .ok (.ldiv, 1) := by decide +kernel
theorem dX7_isParted_199 : decode cX7_isParted 199 = .ok (.lmul, 1) := by decide +kernel
theorem dX7_isParted_200 : decode cX7_isParted 200 = .ok (.lastore, 1) := by decide +kernel
theorem dX7_isParted_201 : decode cX7_isParted 201 = .ok (.aload_n 0, 1) := by decide +kernel
theorem dX7_isParted_202 : decode cX7_isParted 202 = .ok (.getfield 47, 3) := by decide +kernel
theorem dX7_isParted_205 : decode cX7_isParted 205 = .ok (.iload_n 3, 1) := by decide +kernel
theorem dX7_isParted_206 : decode cX7_isParted 206 = .ok (.aload_n 0, 1) := by decide +kernel
theorem dX7_isParted_207 : decode cX7_isParted 207 = .ok (.getfield 47, 3) := by decide +kernel
theorem dX7_isParted_210 : decode cX7_isParted 210 = .ok (.iload_n 3, 1) := by decide +kernel
theorem dX7_isParted_211 : decode cX7_isParted 211 = .ok (.laload, 1) := by decide +kernel
theorem dX7_isParted_212 : decode cX7_isParted 212 = .ok (.lload 9, 2) := by decide +kernel
theorem dX7_isParted_214 : decode cX7_isParted 214 = .ok (.aload_n 0, 1) := by decide +kernel
theorem dX7_isParted_215 : decode cX7_isParted 215 = .ok (.getfield 22, 3) := by decide +kernel
theorem dX7_isParted_218 : decode cX7_isParted 218 = .ok (.iload_n 3, 1) := by decide +kernel
theorem dX7_isParted_219 : decode cX7_isParted 219 = .ok (.iaload, 1) := by decide +kernel
theorem dX7_isParted_220 : decode cX7_isParted 220 = .ok (.i2l, 1) := by decide +kernel
theorem dX7_isParted_221 : decode cX7_isParted 221 = .ok (.ldiv, 1) := by decide +kernel
theorem dX7_isParted_222 : decode cX7_isParted 222 = .ok (.lmul, 1) := by decide +kernel
theorem dX7_isParted_223 : decode cX7_isParted 223 = .ok (.lastore, 1) := by decide +kernel
theorem dX7_isParted_224 : decode cX7_isParted 224 = .ok (.iload 4, 2) := by decide +kernel
theorem dX7_isParted_226 : decode cX7_isParted 226 = .ok (.ifCond .ge 17, 3) := by decide +kernel
theorem dX7_isParted_229 : decode cX7_isParted 229 = .ok (.aload_n 0, 1) := by decide +kernel
theorem dX7_isParted_230 : decode cX7_isParted 230 = .ok (.getfield 47, 3) := by decide +kernel
theorem dX7_isParted_233 : decode cX7_isParted 233 = .ok (.iconst 3, 1) := by decide +kernel
theorem dX7_isParted_234 : decode cX7_isParted 234 = .ok (.iload_n 2, 1) := by decide +kernel
theorem dX7_isParted_235 : decode cX7_isParted 235 = .ok (.isub, 1) := by decide +kernel
theorem dX7_isParted_236 : decode cX7_isParted 236 = .ok (.iload_n 3, 1) := by decide +kernel
theorem dX7_isParted_237 : decode cX7_isParted 237 = .ok (.isub, 1) := by decide +kernel
theorem dX7_isParted_238 : decode cX7_isParted 238 = .ok (.lconst 1, 1) := by decide +kernel
theorem dX7_isParted_239 : decode cX7_isParted 239 = .ok (.lastore, 1) := by decide +kernel
theorem dX7_isParted_240 : decode cX7_isParted 240 = .ok (.goto 29, 3) := by decide +kernel
theorem dX7_isParted_243 : decode cX7_isParted 243 = .ok (.aload_n 0, 1) := by decide +kernel
theorem dX7_isParted_244 : decode cX7_isParted 244 = .ok (.getfield 47, 3) := by decide +kernel
theorem dX7_isParted_247 : decode cX7_isParted 247 = .ok (.iload 4, 2) := by decide +kernel
theorem dX7_isParted_249 : decode cX7_isParted 249 = .ok (.aload_n 0, 1) := by decide +kernel
theorem dX7_isParted_250 : decode cX7_isParted 250 = .ok (.getfield 47, 3) := by decide +kernel
theorem dX7_isParted_253 : decode cX7_isParted 253 = .ok (.iload 4, 2) := by decide +kernel
theorem dX7_isParted_255 : decode cX7_isParted 255 = .ok (.laload, 1) := by decide +kernel
theorem dX7_isParted_256 : decode cX7_isParted 256 = .ok (.lload 9, 2) := by decide +kernel
theorem dX7_isParted_258 : decode cX7_isParted 258 = .ok (.aload_n 0, 1) := by decide +kernel
theorem dX7_isParted_259 : decode cX7_isParted 259 = .ok (.getfield 22, 3) := by decide +kernel
theorem dX7_isParted_262 : decode cX7_isParted 262 = .ok (.iload 4, 2) := by decide +kernel
theorem dX7_isParted_264 : decode cX7_isParted 264 = .ok (.iaload, 1) := by decide +kernel
theorem dX7_isParted_265 : decode cX7_isParted 265 = .ok (.i2l, 1) := by decide +kernel
theorem dX7_isParted_266 : decode cX7_isParted 266 = .ok (.ldiv, 1) := by decide +kernel
theorem dX7_isParted_267 : decode cX7_isParted 267 = .ok (.lmul, 1) := by decide +kernel
theorem dX7_isParted_268 : decode cX7_isParted 268 = .ok (.lastore, 1) := by decide +kernel
theorem dX7_isParted_269 : decode cX7_isParted 269 = .ok (.aload_n 0, 1) := by decide +kernel
theorem dX7_isParted_270 : decode cX7_isParted 270 = .ok (.iload_n 1, 1) := by decide +kernel
theorem dX7_isParted_271 : decode cX7_isParted 271 = .ok (.invokevirtual 230, 3) := by decide +kernel
theorem dX7_isParted_274 : decode cX7_isParted 274 = .ok (.ifCond .eq 5, 3) := by decide +kernel
theorem dX7_isParted_277 : decode cX7_isParted 277 = .ok (.iconst 1, 1) := by decide +kernel
theorem dX7_isParted_278 : decode cX7_isParted 278 = .ok (.ireturn, 1) := by decide +kernel
theorem dX7_isParted_279 : decode cX7_isParted 279 = .ok (.iinc 7 1, 3) := by decide +kernel
theorem dX7_isParted_282 : decode cX7_isParted 282 = .ok (.goto (-239), 3) := by decide +kernel
theorem dX7_isParted_285 : decode cX7_isParted 285 = .ok (.iconst 0, 1) := by decide +kernel
theorem dX7_isParted_286 : decode cX7_isParted 286 = .ok (.ireturn, 1) := by decide +kernel
theorem dX7_isPartBound_0 : decode cX7_isPartBound 0 = .ok (.iconst 0, 1) := by decide +kernel
theorem dX7_isPartBound_1 : decode cX7_isPartBound 1 = .ok (.istore 4, 2) := by decide +kernel
theorem dX7_isPartBound_3 : decode cX7_isPartBound 3 = .ok (.iload 4, 2) := by decide +kernel
theorem dX7_isPartBound_5 : decode cX7_isPartBound 5 = .ok (.aload_n 0, 1) := by decide +kernel
theorem dX7_isPartBound_6 : decode cX7_isPartBound 6 = .ok (.getfield 179, 3) := by decide +kernel
theorem dX7_isPartBound_9 : decode cX7_isPartBound 9 = .ok (.if_icmp .ge 286, 3) := by decide +kernel
theorem dX7_isPartBound_12 : decode cX7_isPartBound 12 = .ok (.iconst 1, 1) := by decide +kernel
theorem dX7_isPartBound_13 : decode cX7_isPartBound 13 = .ok (.istore 5, 2) := by decide +kernel
theorem dX7_isPartBound_15 : decode cX7_isPartBound 15 = .ok (.iload 5, 2) := by decide +kernel
theorem dX7_isPartBound_17 : decode cX7_isPartBound 17 = .ok (.iconst 1, 1) := by decide +kernel
theorem dX7_isPartBound_18 : decode cX7_isPartBound 18 = .ok (.aload_n 0, 1) := by decide +kernel
theorem dX7_isPartBound_19 : decode cX7_isPartBound 19 = .ok (.getfield 179, 3) := by decide +kernel
theorem dX7_isPartBound_22 : decode cX7_isPartBound 22 = .ok (.ishl, 1) := by decide +kernel
theorem dX7_isPartBound_23 : decode cX7_isPartBound 23 = .ok (.if_icmp .ge 138, 3) := by decide +kernel
theorem dX7_isPartBound_26 : decode cX7_isPartBound 26 = .ok (.iconst 0, 1) := by decide +kernel
theorem dX7_isPartBound_27 : decode cX7_isPartBound 27 = .ok (.istore 6, 2) := by decide +kernel
theorem dX7_isPartBound_29 : decode cX7_isPartBound 29 = .ok (.iconst 0, 1) := by decide +kernel
theorem dX7_isPartBound_30 : decode cX7_isPartBound 30 = .ok (.istore 7, 2) := by decide +kernel
theorem dX7_isPartBound_32 : decode cX7_isPartBound 32 = .ok (.iload 7, 2) := by decide +kernel
theorem dX7_isPartBound_34 : decode cX7_isPartBound 34 = .ok (.aload_n 0, 1) := by decide +kernel
theorem dX7_isPartBound_35 : decode cX7_isPartBound 35 = .ok (.getfield 179, 3) := by decide +kernel
theorem dX7_isPartBound_38 : decode cX7_isPartBound 38 = .ok (.if_icmp .ge 29, 3) := by decide +kernel
theorem dX7_isPartBound_41 : decode cX7_isPartBound 41 = .ok (.iload 6, 2) := by decide +kernel
theorem dX7_isPartBound_43 : decode cX7_isPartBound 43 = .ok (.iload 5, 2) := by decide +kernel
theorem dX7_isPartBound_45 : decode cX7_isPartBound 45 = .ok (.iload 7, 2) := by decide +kernel
theorem dX7_isPartBound_47 : decode cX7_isPartBound 47 = .ok (.ishr, 1) := by decide +kernel
theorem dX7_isPartBound_48 : decode cX7_isPartBound 48 = .ok (.iconst 1, 1) := by decide +kernel
theorem dX7_isPartBound_49 : decode cX7_isPartBound 49 = .ok (.iand, 1) := by decide +kernel
theorem dX7_isPartBound_50 : decode cX7_isPartBound 50 = .ok (.aload_n 0, 1) := by decide +kernel
theorem dX7_isPartBound_51 : decode cX7_isPartBound 51 = .ok (.getfield 19, 3) := by decide +kernel
theorem dX7_isPartBound_54 : decode cX7_isPartBound 54 = .ok (.iload 7, 2) := by decide +kernel
theorem dX7_isPartBound_56 : decode cX7_isPartBound 56 = .ok (.iaload, 1) := by decide +kernel
theorem dX7_isPartBound_57 : decode cX7_isPartBound 57 = .ok (.imul, 1) := by decide +kernel
theorem dX7_isPartBound_58 : decode cX7_isPartBound 58 = .ok (.iadd, 1) := by decide +kernel
theorem dX7_isPartBound_59 : decode cX7_isPartBound 59 = .ok (.istore 6, 2) := by decide +kernel
theorem dX7_isPartBound_61 : decode cX7_isPartBound 61 = .ok (.iinc 7 1, 3) := by decide +kernel
theorem dX7_isPartBound_64 : decode cX7_isPartBound 64 = .ok (.goto (-32), 3) := by decide +kernel
theorem dX7_isPartBound_67 : decode cX7_isPartBound 67 = .ok (.aload_n 0, 1) := by decide +kernel
theorem dX7_isPartBound_68 : decode cX7_isPartBound 68 = .ok (.iload_n 1, 1) := by decide +kernel
theorem dX7_isPartBound_69 : decode cX7_isPartBound 69 = .ok (.iload_n 2, 1) := by decide +kernel
theorem dX7_isPartBound_70 : decode cX7_isPartBound 70 = .ok (.iload 4, 2) := by decide +kernel
theorem dX7_isPartBound_72 : decode cX7_isPartBound 72 = .ok (.aload_n 0, 1) := by decide +kernel
theorem dX7_isPartBound_73 : decode cX7_isPartBound 73 = .ok (.invokevirtual 215, 3) := by decide +kernel
theorem dX7_isPartBound_76 : decode cX7_isPartBound 76 = .ok (.iload 6, 2) := by decide +kernel
theorem dX7_isPartBound_78 : decode cX7_isPartBound 78 = .ok (.isub, 1) := by decide +kernel
theorem dX7_isPartBound_79 : decode cX7_isPartBound 79 = .ok (.i2l, 1) := by decide +kernel
theorem dX7_isPartBound_80 : decode cX7_isPartBound 80 = .ok (.aload_n 0, 1) := by decide +kernel
theorem dX7_isPartBound_81 : decode cX7_isPartBound 81 = .ok (.getfield 22, 3) := by decide +kernel
theorem dX7_isPartBound_84 : decode cX7_isPartBound 84 = .ok (.iload_n 3, 1) := by decide +kernel
theorem dX7_isPartBound_85 : decode cX7_isPartBound 85 = .ok (.iaload, 1) := by decide +kernel
theorem dX7_isPartBound_86 : decode cX7_isPartBound 86 = .ok (.i2l, 1) := by decide +kernel
theorem dX7_isPartBound_87 : decode cX7_isPartBound 87 = .ok (.lmul, 1) := by decide +kernel
theorem dX7_isPartBound_88 : decode cX7_isPartBound 88 = .ok (.invokevirtual 226, 3) := by decide +kernel
theorem dX7_isPartBound_91 : decode cX7_isPartBound 91 = .ok (.aload_n 0, 1) := by decide +kernel
theorem dX7_isPartBound_92 : decode cX7_isPartBound 92 = .ok (.getfield 47, 3) := by decide +kernel
theorem dX7_isPartBound_95 : decode cX7_isPartBound 95 = .ok (.iload_n 3, 1) := by decide +kernel
theorem dX7_isPartBound_96 : decode cX7_isPartBound 96 = .ok (.aload_n 0, 1) := by decide +kernel
theorem dX7_isPartBound_97 : decode cX7_isPartBound 97 = .ok (.getfield 22, 3) := by decide +kernel
theorem dX7_isPartBound_100 : decode cX7_isPartBound 100 = .ok (.iload_n 1, 1) := by decide +kernel
theorem dX7_isPartBound_101 : decode cX7_isPartBound 101 = .ok (.iaload, 1) := by decide +kernel
theorem dX7_isPartBound_102 : decode cX7_isPartBound 102 = .ok (.i2l, 1) := by decide +kernel
theorem dX7_isPartBound_103 : decode cX7_isPartBound 103 = .ok (.aload_n 0, 1) := by decide +kernel
theorem dX7_isPartBound_104 : decode cX7_isPartBound 104 = .ok (.getfield 25, 3) := by decide +kernel
theorem dX7_isPartBound_107 : decode cX7_isPartBound 107 = .ok (.bipush 6, 2) := by decide +kernel
theorem dX7_isPartBound_109 : decode cX7_isPartBound 109 = .ok (.iload_n 2, 1) := by decide +kernel
theorem dX7_isPartBound_110 : decode cX7_isPartBound 110 = .ok (.imul, 1) := by decide +kernel
theorem dX7_isPartBound_111 : decode cX7_isPartBound 111 = .ok (.iload 4, 2) := by decide +kernel
theorem dX7_isPartBound_113 : decode cX7_isPartBound 113 = .ok (.iadd, 1) := by decide +kernel
theorem dX7_isPartBound_114 : decode cX7_isPartBound 114 = .ok (.iaload, 1) := by decide +kernel
theorem dX7_isPartBound_115 : decode cX7_isPartBound 115 = .ok (.i2l, 1) := by decide +kernel
theorem dX7_isPartBound_116 : decode cX7_isPartBound 116 = .ok (.lmul, 1) := by decide +kernel
theorem dX7_isPartBound_117 : decode cX7_isPartBound 117 = .ok (.aload_n 0, 1) := by decide +kernel
theorem dX7_isPartBound_118 : decode cX7_isPartBound 118 = .ok (.getfield 22, 3) := by decide +kernel
theorem dX7_isPartBound_121 : decode cX7_isPartBound 121 = .ok (.iload_n 2, 1) := by decide +kernel
theorem dX7_isPartBound_122 : decode cX7_isPartBound 122 = .ok (.iaload, 1) := by decide +kernel
theorem dX7_isPartBound_123 : decode cX7_isPartBound 123 = .ok (.i2l, 1) := by decide +kernel
theorem dX7_isPartBound_124 : decode cX7_isPartBound 124 = .ok (.aload_n 0, 1) := by decide +kernel
theorem dX7_isPartBound_125 : decode cX7_isPartBound 125 = .ok (.getfield 25, 3) := by decide +kernel
theorem dX7_isPartBound_128 : decode cX7_isPartBound 128 = .ok (.bipush 6, 2) := by decide +kernel
theorem dX7_isPartBound_130 : decode cX7_isPartBound 130 = .ok (.iload_n 1, 1) := by decide +kernel
theorem dX7_isPartBound_131 : decode cX7_isPartBound 131 = .ok (.imul, 1) := by decide +kernel
theorem dX7_isPartBound_132 : decode cX7_isPartBound 132 = .ok (.iload 4, 2) := by decide +kernel
theorem dX7_isPartBound_134 : decode cX7_isPartBound 134 = .ok (.iadd, 1) := by decide +kernel
theorem dX7_isPartBound_135 : decode cX7_isPartBound 135 = .ok (.iaload, 1) := by decide +kernel
theorem dX7_isPartBound_136 : decode cX7_isPartBound 136 = .ok (.i2l, 1) := by decide +kernel
theorem dX7_isPartBound_137 : decode cX7_isPartBound 137 = .ok (.lmul, 1) := by decide +kernel
theorem dX7_isPartBound_138 : decode cX7_isPartBound 138 = .ok (.ladd, 1) := by decide +kernel
theorem dX7_isPartBound_139 : decode cX7_isPartBound 139 = .ok (.iload 6, 2) := by decide +kernel
theorem dX7_isPartBound_141 : decode cX7_isPartBound 141 = .ok (.i2l, 1) := by decide +kernel
theorem dX7_isPartBound_142 : decode cX7_isPartBound 142 = .ok (.lmul, 1) := by decide +kernel
theorem dX7_isPartBound_143 : decode cX7_isPartBound 143 = .ok (.lastore, 1) := by decide +kernel
theorem dX7_isPartBound_144 : decode cX7_isPartBound 144 = .ok (.aload_n 0, 1) := by decide +kernel
theorem dX7_isPartBound_145 : decode cX7_isPartBound 145 = .ok (.bipush 7, 2) := by decide +kernel
theorem dX7_isPartBound_147 : decode cX7_isPartBound 147 = .ok (.invokevirtual 230, 3) := by decide +kernel
theorem dX7_isPartBound_150 : decode cX7_isPartBound 150 = .ok (.ifCond .eq 5, 3) := by decide +kernel
theorem dX7_isPartBound_153 : decode cX7_isPartBound 153 = .ok (.iconst 1, 1) := by decide +kernel
theorem dX7_isPartBound_154 : decode cX7_isPartBound 154 = .ok (.ireturn, 1) := by decide +kernel
theorem dX7_isPartBound_155 : decode cX7_isPartBound 155 = .ok (.iinc 5 1, 3) := by decide +kernel
theorem dX7_isPartBound_158 : decode cX7_isPartBound 158 = .ok (.goto (-143), 3) := by decide +kernel
theorem dX7_isPartBound_161 : decode cX7_isPartBound 161 = .ok (.iconst 0, 1) := by decide +kernel
theorem dX7_isPartBound_162 : decode cX7_isPartBound 162 = .ok (.istore 5, 2) := by decide +kernel
theorem dX7_isPartBound_164 : decode cX7_isPartBound 164 = .ok (.iload 5, 2) := by decide +kernel
theorem dX7_isPartBound_166 : decode cX7_isPartBound 166 = .ok (.aload_n 0, 1) := by decide +kernel
theorem dX7_isPartBound_167 : decode cX7_isPartBound 167 = .ok (.getfield 179, 3) := by decide +kernel
theorem dX7_isPartBound_170 : decode cX7_isPartBound 170 = .ok (.if_icmp .ge 119, 3) := by decide +kernel
theorem dX7_isPartBound_173 : decode cX7_isPartBound 173 = .ok (.aload_n 0, 1) := by decide +kernel
theorem dX7_isPartBound_174 : decode cX7_isPartBound 174 = .ok (.getfield 47, 3) := by decide +kernel
theorem dX7_isPartBound_177 : decode cX7_isPartBound 177 = .ok (.iload_n 1, 1) := by decide +kernel
theorem dX7_isPartBound_178 : decode cX7_isPartBound 178 = .ok (.aload_n 0, 1) := by decide +kernel
theorem dX7_isPartBound_179 : decode cX7_isPartBound 179 = .ok (.getfield 25, 3) := by decide +kernel
theorem dX7_isPartBound_182 : decode cX7_isPartBound 182 = .ok (.bipush 6, 2) := by decide +kernel
theorem dX7_isPartBound_184 : decode cX7_isPartBound 184 = .ok (.iload_n 2, 1) := by decide +kernel
theorem dX7_isPartBound_185 : decode cX7_isPartBound 185 = .ok (.imul, 1) := by decide +kernel
theorem dX7_isPartBound_186 : decode cX7_isPartBound 186 = .ok (.iload 4, 2) := by decide +kernel
theorem dX7_isPartBound_188 : decode cX7_isPartBound 188 = .ok (.iadd, 1) := by decide +kernel
theorem dX7_isPartBound_189 : decode cX7_isPartBound 189 = .ok (.iaload, 1) := by decide +kernel
theorem dX7_isPartBound_190 : decode cX7_isPartBound 190 = .ok (.i2l, 1) := by decide +kernel
theorem dX7_isPartBound_191 : decode cX7_isPartBound 191 = .ok (.aload_n 0, 1) := by decide +kernel
theorem dX7_isPartBound_192 : decode cX7_isPartBound 192 = .ok (.getfield 25, 3) := by decide +kernel
theorem dX7_isPartBound_195 : decode cX7_isPartBound 195 = .ok (.bipush 6, 2) := by decide +kernel
theorem dX7_isPartBound_197 : decode cX7_isPartBound 197 = .ok (.iload_n 3, 1) := by decide +kernel
theorem dX7_isPartBound_198 : decode cX7_isPartBound 198 = .ok (.imul, 1) := by decide +kernel
theorem dX7_isPartBound_199 : decode cX7_isPartBound 199 = .ok (.iload 5, 2) := by decide +kernel
theorem dX7_isPartBound_201 : decode cX7_isPartBound 201 = .ok (.iadd, 1) := by decide +kernel
theorem dX7_isPartBound_202 : decode cX7_isPartBound 202 = .ok (.iaload, 1) := by decide +kernel
theorem dX7_isPartBound_203 : decode cX7_isPartBound 203 = .ok (.i2l, 1) := by decide +kernel
theorem dX7_isPartBound_204 : decode cX7_isPartBound 204 = .ok (.lmul, 1) := by decide +kernel
theorem dX7_isPartBound_205 : decode cX7_isPartBound 205 = .ok (.lastore, 1) := by decide +kernel
theorem dX7_isPartBound_206 : decode cX7_isPartBound 206 = .ok (.aload_n 0, 1) := by decide +kernel
theorem dX7_isPartBound_207 : decode cX7_isPartBound 207 = .ok (.getfield 47, 3) := by decide +kernel
theorem dX7_isPartBound_210 : decode cX7_isPartBound 210 = .ok (.iload_n 2, 1) := by decide +kernel
theorem dX7_isPartBound_211 : decode cX7_isPartBound 211 = .ok (.aload_n 0, 1) := by decide +kernel
theorem dX7_isPartBound_212 : decode cX7_isPartBound 212 = .ok (.getfield 25, 3) := by decide +kernel
theorem dX7_isPartBound_215 : decode cX7_isPartBound 215 = .ok (.bipush 6, 2) := by decide +kernel
theorem dX7_isPartBound_217 : decode cX7_isPartBound 217 = .ok (.iload_n 1, 1) := by decide +kernel
theorem dX7_isPartBound_218 : decode cX7_isPartBound 218 = .ok (.imul, 1) := by decide +kernel
theorem dX7_isPartBound_219 : decode cX7_isPartBound 219 = .ok (.iload 4, 2) := by decide +kernel
theorem dX7_isPartBound_221 : decode cX7_isPartBound 221 = .ok (.iadd, 1) := by decide +kernel
theorem dX7_isPartBound_222 : decode cX7_isPartBound 222 = .ok (.iaload, 1) := by decide +kernel
theorem dX7_isPartBound_223 : decode cX7_isPartBound 223 = .ok (.i2l, 1) := by decide +kernel
theorem dX7_isPartBound_224 : decode cX7_isPartBound 224 = .ok (.aload_n 0, 1) := by decide +kernel
theorem dX7_isPartBound_225 : decode cX7_isPartBound 225 = .ok (.getfield 25, 3) := by decide +kernel
theorem dX7_isPartBound_228 : decode cX7_isPartBound 228 = .ok (.bipush 6, 2) := by decide +kernel
theorem dX7_isPartBound_230 : decode cX7_isPartBound 230 = .ok (.iload_n 3, 1) := by decide +kernel
theorem dX7_isPartBound_231 : decode cX7_isPartBound 231 = .ok (.imul, 1) := by decide +kernel
theorem dX7_isPartBound_232 : decode cX7_isPartBound 232 = .ok (.iload 5, 2) := by decide +kernel
theorem dX7_isPartBound_234 : decode cX7_isPartBound 234 = .ok (.iadd, 1) := by decide +kernel
theorem dX7_isPartBound_235 : decode cX7_isPartBound 235 = .ok (.iaload, 1) := by decide +kernel
theorem dX7_isPartBound_236 : decode cX7_isPartBound 236 = .ok (.i2l, 1) := by decide +kernel
theorem dX7_isPartBound_237 : decode cX7_isPartBound 237 = .ok (.lmul, 1) := by decide +kernel
theorem dX7_isPartBound_238 : decode cX7_isPartBound 238 = .ok (.lastore, 1) := by decide +kernel
theorem dX7_isPartBound_239 : decode cX7_isPartBound 239 = .ok (.aload_n 0, 1) := by decide +kernel
theorem dX7_isPartBound_240 : decode cX7_isPartBound 240 = .ok (.getfield 47, 3) := by decide +kernel
theorem dX7_isPartBound_243 : decode cX7_isPartBound 243 = .ok (.iload_n 3, 1) := by decide +kernel
theorem dX7_isPartBound_244 : decode cX7_isPartBound 244 = .ok (.aload_n 0, 1) := by decide +kernel
theorem dX7_isPartBound_245 : decode cX7_isPartBound 245 = .ok (.getfield 25, 3) := by decide +kernel
theorem dX7_isPartBound_248 : decode cX7_isPartBound 248 = .ok (.bipush 6, 2) := by decide +kernel
theorem dX7_isPartBound_250 : decode cX7_isPartBound 250 = .ok (.iload_n 1, 1) := by decide +kernel
theorem dX7_isPartBound_251 : decode cX7_isPartBound 251 = .ok (.imul, 1) := by decide +kernel
theorem dX7_isPartBound_252 : decode cX7_isPartBound 252 = .ok (.iload 4, 2) := by decide +kernel
theorem dX7_isPartBound_254 : decode cX7_isPartBound 254 = .ok (.iadd, 1) := by decide +kernel
theorem dX7_isPartBound_255 : decode cX7_isPartBound 255 = .ok (.iaload, 1) := by decide +kernel
theorem dX7_isPartBound_256 : decode cX7_isPartBound 256 = .ok (.i2l, 1) := by decide +kernel
theorem dX7_isPartBound_257 : decode cX7_isPartBound 257 = .ok (.aload_n 0, 1) := by decide +kernel
theorem dX7_isPartBound_258 : decode cX7_isPartBound 258 = .ok (.getfield 25, 3) := by decide +kernel
theorem dX7_isPartBound_261 : decode cX7_isPartBound 261 = .ok (.bipush 6, 2) := by decide +kernel
theorem dX7_isPartBound_263 : decode cX7_isPartBound 263 = .ok (.iload_n 2, 1) := by decide +kernel
theorem dX7_isPartBound_264 : decode cX7_isPartBound 264 = .ok (.imul, 1) := by decide +kernel
theorem dX7_isPartBound_265 : decode cX7_isPartBound 265 = .ok (.iload 5, 2) := by decide +kernel
theorem dX7_isPartBound_267 : decode cX7_isPartBound 267 = .ok (.iadd, 1) := by decide +kernel
theorem dX7_isPartBound_268 : decode cX7_isPartBound 268 = .ok (.iaload, 1) := by decide +kernel
theorem dX7_isPartBound_269 : decode cX7_isPartBound 269 = .ok (.i2l, 1) := by decide +kernel
theorem dX7_isPartBound_270 : decode cX7_isPartBound 270 = .ok (.lmul, 1) := by decide +kernel
theorem dX7_isPartBound_271 : decode cX7_isPartBound 271 = .ok (.lastore, 1) := by decide +kernel
theorem dX7_isPartBound_272 : decode cX7_isPartBound 272 = .ok (.aload_n 0, 1) := by decide +kernel
theorem dX7_isPartBound_273 : decode cX7_isPartBound 273 = .ok (.bipush 7, 2) := by decide +kernel
theorem dX7_isPartBound_275 : decode cX7_isPartBound 275 = .ok (.invokevirtual 230, 3) := by decide +kernel
theorem dX7_isPartBound_278 : decode cX7_isPartBound 278 = .ok (.ifCond .eq 5, 3) := by decide +kernel
theorem dX7_isPartBound_281 : decode cX7_isPartBound 281 = .ok (.iconst 1, 1) := by decide +kernel
theorem dX7_isPartBound_282 : decode cX7_isPartBound 282 = .ok (.ireturn, 1) := by decide +kernel
theorem dX7_isPartBound_283 : decode cX7_isPartBound 283 = .ok (.iinc 5 1, 3) := by decide +kernel
theorem dX7_isPartBound_286 : decode cX7_isPartBound 286 = .ok (.goto (-122), 3) := by decide +kernel
theorem dX7_isPartBound_289 : decode cX7_isPartBound 289 = .ok (.iinc 4 1, 3) := by decide +kernel
theorem dX7_isPartBound_292 : decode cX7_isPartBound 292 = .ok (.goto (-289), 3) := by decide +kernel
theorem dX7_isPartBound_295 : decode cX7_isPartBound 295 = .ok (.iconst 0, 1) := by decide +kernel
theorem dX7_isPartBound_296 : decode cX7_isPartBound 296 = .ok (.ireturn, 1) := by decide +kernel
theorem dX7_rest_0 : decode cX7_rest 0 = .ok (.iload_n 1, 1) := by decide +kernel
theorem dX7_rest_1 : decode cX7_rest 1 = .ok (.bipush 7, 2) := by decide +kernel
theorem dX7_rest_3 : decode cX7_rest 3 = .ok (.if_icmp .ne 54, 3) := by decide +kernel
theorem dX7_rest_6 : decode cX7_rest 6 = .ok (.aload_n 0, 1) := by decide +kernel
theorem dX7_rest_7 : decode cX7_rest 7 = .ok (.iconst 0, 1) := by decide +kernel
theorem dX7_rest_8 : decode cX7_rest 8 = .ok (.iconst 1, 1) := by decide +kernel
theorem dX7_rest_9 : decode cX7_rest 9 = .ok (.iconst 2, 1) := by decide +kernel
theorem dX7_rest_10 : decode cX7_rest 10 = .ok (.invokevirtual 233, 3) := by decide +kernel
theorem dX7_rest_13 : decode cX7_rest 13 = .ok (.ifCond .ne 35, 3) := by decide +kernel
theorem dX7_rest_16 : decode cX7_rest 16 = .ok (.aload_n 0, 1) := by decide +kernel
theorem dX7_rest_17 : decode cX7_rest 17 = .ok (.iconst 1, 1) := by decide +kernel
theorem dX7_rest_18 : decode cX7_rest 18 = .ok (.iconst 2, 1) := by decide +kernel
theorem dX7_rest_19 : decode cX7_rest 19 = .ok (.iconst 0, 1) := by decide +kernel
theorem dX7_rest_20 : decode cX7_rest 20 = .ok (.invokevirtual 233, 3) := by decide +kernel
theorem dX7_rest_23 : decode cX7_rest 23 = .ok (.ifCond .ne 25, 3) := by decide +kernel
theorem dX7_rest_26 : decode cX7_rest 26 = .ok (.aload_n 0, 1) := by decide +kernel
theorem dX7_rest_27 : decode cX7_rest 27 = .ok (.iconst 2, 1) := by decide +kernel
end
section
theorem dX7_rest_28 : decode cX7_rest 28 = .ok (.iconst 0, 1) := by decide +kernel
theorem dX7_rest_29 : decode cX7_rest 29 = .ok (.iconst 1, 1) := by decide +kernel
theorem dX7_rest_30 : decode cX7_rest 30 = .ok (.invokevirtual 233, 3) := by decide +kernel
theorem dX7_rest_33 : decode cX7_rest 33 = .ok (.ifCond .ne 15, 3) := by decide +kernel
theorem dX7_rest_36 : decode cX7_rest 36 = .ok (.aload_n 0, 1) := by decide +kernel
theorem dX7_rest_37 : decode cX7_rest 37 = .ok (.bipush 7, 2) := by decide +kernel
theorem dX7_rest_39 : decode cX7_rest 39 = .ok (.iconst 0, 1) := by decide +kernel
theorem dX7_rest_40 : decode cX7_rest 40 = .ok (.iconst 1, 1) := by decide +kernel
theorem dX7_rest_41 : decode cX7_rest 41 = .ok (.iconst 2, 1) := by decide +kernel
theorem dX7_rest_42 : decode cX7_rest 42 = .ok (.invokevirtual 237, 3) := by decide +kernel
theorem dX7_rest_45 : decode cX7_rest 45 = .ok (.ifCond .eq 7, 3) := by decide +kernel
theorem dX7_rest_48 : decode cX7_rest 48 = .ok (.iconst 1, 1) := by decide +kernel
theorem dX7_rest_49 : decode cX7_rest 49 = .ok (.goto 4, 3) := by decide +kernel
theorem dX7_rest_52 : decode cX7_rest 52 = .ok (.iconst 0, 1) := by decide +kernel
theorem dX7_rest_53 : decode cX7_rest 53 = .ok (.istore_n 2, 1) := by decide +kernel
theorem dX7_rest_54 : decode cX7_rest 54 = .ok (.goto 82, 3) := by decide +kernel
theorem dX7_rest_57 : decode cX7_rest 57 = .ok (.iload_n 1, 1) := by decide +kernel
theorem dX7_rest_58 : decode cX7_rest 58 = .ok (.iconst 3, 1) := by decide +kernel
theorem dX7_rest_59 : decode cX7_rest 59 = .ok (.if_icmp .eq 14, 3) := by decide +kernel
theorem dX7_rest_62 : decode cX7_rest 62 = .ok (.iload_n 1, 1) := by decide +kernel
theorem dX7_rest_63 : decode cX7_rest 63 = .ok (.iconst 5, 1) := by decide +kernel
theorem dX7_rest_64 : decode cX7_rest 64 = .ok (.if_icmp .eq 9, 3) := by decide +kernel
theorem dX7_rest_67 : decode cX7_rest 67 = .ok (.iload_n 1, 1) := by decide +kernel
theorem dX7_rest_68 : decode cX7_rest 68 = .ok (.bipush 6, 2) := by decide +kernel
theorem dX7_rest_70 : decode cX7_rest 70 = .ok (.if_icmp .ne 57, 3) := by decide +kernel
theorem dX7_rest_73 : decode cX7_rest 73 = .ok (.iload_n 1, 1) := by decide +kernel
theorem dX7_rest_74 : decode cX7_rest 74 = .ok (.bipush 6, 2) := by decide +kernel
theorem dX7_rest_76 : decode cX7_rest 76 = .ok (.if_icmp .ne 7, 3) := by decide +kernel
theorem dX7_rest_79 : decode cX7_rest 79 = .ok (.iconst 1, 1) := by decide +kernel
theorem dX7_rest_80 : decode cX7_rest 80 = .ok (.goto 4, 3) := by decide +kernel
theorem dX7_rest_83 : decode cX7_rest 83 = .ok (.iconst 0, 1) := by decide +kernel
theorem dX7_rest_84 : decode cX7_rest 84 = .ok (.istore_n 2, 1) := by decide +kernel
theorem dX7_rest_85 : decode cX7_rest 85 = .ok (.iload_n 1, 1) := by decide +kernel
theorem dX7_rest_86 : decode cX7_rest 86 = .ok (.iconst 3, 1) := by decide +kernel
theorem dX7_rest_87 : decode cX7_rest 87 = .ok (.if_icmp .ne 7, 3) := by decide +kernel
theorem dX7_rest_90 : decode cX7_rest 90 = .ok (.iconst 1, 1) := by decide +kernel
theorem dX7_rest_91 : decode cX7_rest 91 = .ok (.goto 4, 3) := by decide +kernel
theorem dX7_rest_94 : decode cX7_rest 94 = .ok (.iconst 2, 1) := by decide +kernel
theorem dX7_rest_95 : decode cX7_rest 95 = .ok (.istore_n 3, 1) := by decide +kernel
theorem dX7_rest_96 : decode cX7_rest 96 = .ok (.aload_n 0, 1) := by decide +kernel
theorem dX7_rest_97 : decode cX7_rest 97 = .ok (.iload_n 1, 1) := by decide +kernel
theorem dX7_rest_98 : decode cX7_rest 98 = .ok (.iload_n 2, 1) := by decide +kernel
theorem dX7_rest_99 : decode cX7_rest 99 = .ok (.iload_n 3, 1) := by decide +kernel
theorem dX7_rest_100 : decode cX7_rest 100 = .ok (.invokevirtual 241, 3) := by decide +kernel
theorem dX7_rest_103 : decode cX7_rest 103 = .ok (.ifCond .ne 14, 3) := by decide +kernel
theorem dX7_rest_106 : decode cX7_rest 106 = .ok (.aload_n 0, 1) := by decide +kernel
theorem dX7_rest_107 : decode cX7_rest 107 = .ok (.iload_n 1, 1) := by decide +kernel
theorem dX7_rest_108 : decode cX7_rest 108 = .ok (.iload_n 2, 1) := by decide +kernel
theorem dX7_rest_109 : decode cX7_rest 109 = .ok (.iload_n 3, 1) := by decide +kernel
theorem dX7_rest_110 : decode cX7_rest 110 = .ok (.iconst (-1), 1) := by decide +kernel
theorem dX7_rest_111 : decode cX7_rest 111 = .ok (.invokevirtual 237, 3) := by decide +kernel
theorem dX7_rest_114 : decode cX7_rest 114 = .ok (.ifCond .eq 7, 3) := by decide +kernel
theorem dX7_rest_117 : decode cX7_rest 117 = .ok (.iconst 1, 1) := by decide +kernel
theorem dX7_rest_118 : decode cX7_rest 118 = .ok (.goto 4, 3) := by decide +kernel
theorem dX7_rest_121 : decode cX7_rest 121 = .ok (.iconst 0, 1) := by decide +kernel
theorem dX7_rest_122 : decode cX7_rest 122 = .ok (.istore 4, 2) := by decide +kernel
theorem dX7_rest_124 : decode cX7_rest 124 = .ok (.goto 12, 3) := by decide +kernel
theorem dX7_rest_127 : decode cX7_rest 127 = .ok (.aload_n 0, 1) := by decide +kernel
theorem dX7_rest_128 : decode cX7_rest 128 = .ok (.iload_n 1, 1) := by decide +kernel
theorem dX7_rest_129 : decode cX7_rest 129 = .ok (.lconst 1, 1) := by decide +kernel
theorem dX7_rest_130 : decode cX7_rest 130 = .ok (.lconst 1, 1) := by decide +kernel
theorem dX7_rest_131 : decode cX7_rest 131 = .ok (.lconst 1, 1) := by decide +kernel
theorem dX7_rest_132 : decode cX7_rest 132 = .ok (.invokevirtual 222, 3) := by decide +kernel
theorem dX7_rest_135 : decode cX7_rest 135 = .ok (.pop, 1) := by decide +kernel
theorem dX7_rest_136 : decode cX7_rest 136 = .ok (.return_, 1) := by decide +kernel
theorem dX7_every_0 : decode cX7_every 0 = .ok (.iconst 1, 1) := by decide +kernel
theorem dX7_every_1 : decode cX7_every 1 = .ok (.aload_n 0, 1) := by decide +kernel
theorem dX7_every_2 : decode cX7_every 2 = .ok (.getfield 176, 3) := by decide +kernel
theorem dX7_every_5 : decode cX7_every 5 = .ok (.ishl, 1) := by decide +kernel
theorem dX7_every_6 : decode cX7_every 6 = .ok (.iconst 1, 1) := by decide +kernel
theorem dX7_every_7 : decode cX7_every 7 = .ok (.isub, 1) := by decide +kernel
theorem dX7_every_8 : decode cX7_every 8 = .ok (.ireturn, 1) := by decide +kernel
theorem dX7_restAll_0 : decode cX7_restAll 0 = .ok (.aload_n 0, 1) := by decide +kernel
theorem dX7_restAll_1 : decode cX7_restAll 1 = .ok (.getfield 186, 3) := by decide +kernel
theorem dX7_restAll_4 : decode cX7_restAll 4 = .ok (.ifCond .ne 11, 3) := by decide +kernel
theorem dX7_restAll_7 : decode cX7_restAll 7 = .ok (.aload_n 0, 1) := by decide +kernel
theorem dX7_restAll_8 : decode cX7_restAll 8 = .ok (.aload_n 0, 1) := by decide +kernel
theorem dX7_restAll_9 : decode cX7_restAll 9 = .ok (.invokevirtual 244, 3) := by decide +kernel
theorem dX7_restAll_12 : decode cX7_restAll 12 = .ok (.invokevirtual 247, 3) := by decide +kernel
theorem dX7_restAll_15 : decode cX7_restAll 15 = .ok (.iconst 0, 1) := by decide +kernel
theorem dX7_restAll_16 : decode cX7_restAll 16 = .ok (.istore_n 1, 1) := by decide +kernel
theorem dX7_restAll_17 : decode cX7_restAll 17 = .ok (.iload_n 1, 1) := by decide +kernel
theorem dX7_restAll_18 : decode cX7_restAll 18 = .ok (.iconst 3, 1) := by decide +kernel
theorem dX7_restAll_19 : decode cX7_restAll 19 = .ok (.if_icmp .ge 49, 3) := by decide +kernel
theorem dX7_restAll_22 : decode cX7_restAll 22 = .ok (.aload_n 0, 1) := by decide +kernel
theorem dX7_restAll_23 : decode cX7_restAll 23 = .ok (.getfield 40, 3) := by decide +kernel
theorem dX7_restAll_26 : decode cX7_restAll 26 = .ok (.iload_n 1, 1) := by decide +kernel
theorem dX7_restAll_27 : decode cX7_restAll 27 = .ok (.aload_n 0, 1) := by decide +kernel
theorem dX7_restAll_28 : decode cX7_restAll 28 = .ok (.getfield 186, 3) := by decide +kernel
theorem dX7_restAll_31 : decode cX7_restAll 31 = .ok (.ifCond .eq 12, 3) := by decide +kernel
theorem dX7_restAll_34 : decode cX7_restAll 34 = .ok (.aload_n 0, 1) := by decide +kernel
theorem dX7_restAll_35 : decode cX7_restAll 35 = .ok (.getfield 50, 3) := by decide +kernel
theorem dX7_restAll_38 : decode cX7_restAll 38 = .ok (.iload_n 1, 1) := by decide +kernel
theorem dX7_restAll_39 : decode cX7_restAll 39 = .ok (.laload, 1) := by decide +kernel
theorem dX7_restAll_40 : decode cX7_restAll 40 = .ok (.goto 9, 3) := by decide +kernel
theorem dX7_restAll_43 : decode cX7_restAll 43 = .ok (.aload_n 0, 1) := by decide +kernel
theorem dX7_restAll_44 : decode cX7_restAll 44 = .ok (.getfield 40, 3) := by decide +kernel
theorem dX7_restAll_47 : decode cX7_restAll 47 = .ok (.iload_n 1, 1) := by decide +kernel
theorem dX7_restAll_48 : decode cX7_restAll 48 = .ok (.laload, 1) := by decide +kernel
theorem dX7_restAll_49 : decode cX7_restAll 49 = .ok (.lastore, 1) := by decide +kernel
theorem dX7_restAll_50 : decode cX7_restAll 50 = .ok (.aload_n 0, 1) := by decide +kernel
theorem dX7_restAll_51 : decode cX7_restAll 51 = .ok (.getfield 50, 3) := by decide +kernel
theorem dX7_restAll_54 : decode cX7_restAll 54 = .ok (.iload_n 1, 1) := by decide +kernel
theorem dX7_restAll_55 : decode cX7_restAll 55 = .ok (.aload_n 0, 1) := by decide +kernel
theorem dX7_restAll_56 : decode cX7_restAll 56 = .ok (.getfield 40, 3) := by decide +kernel
theorem dX7_restAll_59 : decode cX7_restAll 59 = .ok (.iload_n 1, 1) := by decide +kernel
theorem dX7_restAll_60 : decode cX7_restAll 60 = .ok (.laload, 1) := by decide +kernel
theorem dX7_restAll_61 : decode cX7_restAll 61 = .ok (.lastore, 1) := by decide +kernel
theorem dX7_restAll_62 : decode cX7_restAll 62 = .ok (.iinc 1 1, 3) := by decide +kernel
theorem dX7_restAll_65 : decode cX7_restAll 65 = .ok (.goto (-48), 3) := by decide +kernel
theorem dX7_restAll_68 : decode cX7_restAll 68 = .ok (.aload_n 0, 1) := by decide +kernel
theorem dX7_restAll_69 : decode cX7_restAll 69 = .ok (.iconst 1, 1) := by decide +kernel
theorem dX7_restAll_70 : decode cX7_restAll 70 = .ok (.putfield 186, 3) := by decide +kernel
theorem dX7_restAll_73 : decode cX7_restAll 73 = .ok (.return_, 1) := by decide +kernel
theorem dX7_common_0 : decode cX7_common 0 = .ok (.lload_n 0, 1) := by decide +kernel
theorem dX7_common_1 : decode cX7_common 1 = .ok (.lstore 4, 2) := by decide +kernel
theorem dX7_common_3 : decode cX7_common 3 = .ok (.lload_n 2, 1) := by decide +kernel
theorem dX7_common_4 : decode cX7_common 4 = .ok (.lstore 6, 2) := by decide +kernel
theorem dX7_common_6 : decode cX7_common 6 = .ok (.lload 6, 2) := by decide +kernel
theorem dX7_common_8 : decode cX7_common 8 = .ok (.lconst 0, 1) := by decide +kernel
theorem dX7_common_9 : decode cX7_common 9 = .ok (.lcmp, 1) := by decide +kernel
theorem dX7_common_10 : decode cX7_common 10 = .ok (.ifCond .eq 21, 3) := by decide +kernel
theorem dX7_common_13 : decode cX7_common 13 = .ok (.lload 4, 2) := by decide +kernel
theorem dX7_common_15 : decode cX7_common 15 = .ok (.lload 6, 2) := by decide +kernel
theorem dX7_common_17 : decode cX7_common 17 = .ok (.lrem, 1) := by decide +kernel
theorem dX7_common_18 : decode cX7_common 18 = .ok (.lstore 8, 2) := by decide +kernel
theorem dX7_common_20 : decode cX7_common 20 = .ok (.lload 6, 2) := by decide +kernel
theorem dX7_common_22 : decode cX7_common 22 = .ok (.lstore 4, 2) := by decide +kernel
theorem dX7_common_24 : decode cX7_common 24 = .ok (.lload 8, 2) := by decide +kernel
theorem dX7_common_26 : decode cX7_common 26 = .ok (.lstore 6, 2) := by decide +kernel
theorem dX7_common_28 : decode cX7_common 28 = .ok (.goto (-22), 3) := by decide +kernel
theorem dX7_common_31 : decode cX7_common 31 = .ok (.lload 4, 2) := by decide +kernel
theorem dX7_common_33 : decode cX7_common 33 = .ok (.lreturn, 1) := by decide +kernel
theorem dX7_partOf_0 : decode cX7_partOf 0 = .ok (.iload 4, 2) := by decide +kernel
theorem dX7_partOf_2 : decode cX7_partOf 2 = .ok (.ifCond .ne 7, 3) := by decide +kernel
theorem dX7_partOf_5 : decode cX7_partOf 5 = .ok (.lload_n 0, 1) := by decide +kernel
theorem dX7_partOf_6 : decode cX7_partOf 6 = .ok (.goto 4, 3) := by decide +kernel
theorem dX7_partOf_9 : decode cX7_partOf 9 = .ok (.lload_n 2, 1) := by decide +kernel
theorem dX7_partOf_10 : decode cX7_partOf 10 = .ok (.lload_n 0, 1) := by decide +kernel
theorem dX7_partOf_11 : decode cX7_partOf 11 = .ok (.lload_n 2, 1) := by decide +kernel
theorem dX7_partOf_12 : decode cX7_partOf 12 = .ok (.invokestatic 250, 3) := by decide +kernel
theorem dX7_partOf_15 : decode cX7_partOf 15 = .ok (.ldiv, 1) := by decide +kernel
theorem dX7_partOf_16 : decode cX7_partOf 16 = .ok (.lreturn, 1) := by decide +kernel
theorem dX7_wage_0 : decode cX7_wage 0 = .ok (.aload_n 0, 1) := by decide +kernel
theorem dX7_wage_1 : decode cX7_wage 1 = .ok (.iconst 0, 1) := by decide +kernel
theorem dX7_wage_2 : decode cX7_wage 2 = .ok (.putfield 62, 3) := by decide +kernel
theorem dX7_wage_5 : decode cX7_wage 5 = .ok (.aload_n 0, 1) := by decide +kernel
theorem dX7_wage_6 : decode cX7_wage 6 = .ok (.iload_n 1, 1) := by decide +kernel
theorem dX7_wage_7 : decode cX7_wage 7 = .ok (.invokevirtual 189, 3) := by decide +kernel
theorem dX7_wage_10 : decode cX7_wage 10 = .ok (.ifCond .eq 13, 3) := by decide +kernel
theorem dX7_wage_13 : decode cX7_wage 13 = .ok (.iload_n 2, 1) := by decide +kernel
theorem dX7_wage_14 : decode cX7_wage 14 = .ok (.i2l, 1) := by decide +kernel
theorem dX7_wage_15 : decode cX7_wage 15 = .ok (.lconst 0, 1) := by decide +kernel
theorem dX7_wage_16 : decode cX7_wage 16 = .ok (.lconst 1, 1) := by decide +kernel
theorem dX7_wage_17 : decode cX7_wage 17 = .ok (.invokestatic 73, 3) := by decide +kernel
theorem dX7_wage_20 : decode cX7_wage 20 = .ok (.ifCond .ne 7, 3) := by decide +kernel
theorem dX7_wage_23 : decode cX7_wage 23 = .ok (.ldc2_w 83, 3) := by decide +kernel
theorem dX7_wage_26 : decode cX7_wage 26 = .ok (.lreturn, 1) := by decide +kernel
theorem dX7_wage_27 : decode cX7_wage 27 = .ok (.aload_n 0, 1) := by decide +kernel
theorem dX7_wage_28 : decode cX7_wage 28 = .ok (.invokevirtual 254, 3) := by decide +kernel
theorem dX7_wage_31 : decode cX7_wage 31 = .ok (.aload_n 0, 1) := by decide +kernel
theorem dX7_wage_32 : decode cX7_wage 32 = .ok (.getfield 40, 3) := by decide +kernel
theorem dX7_wage_35 : decode cX7_wage 35 = .ok (.iload_n 1, 1) := by decide +kernel
theorem dX7_wage_36 : decode cX7_wage 36 = .ok (.laload, 1) := by decide +kernel
theorem dX7_wage_37 : decode cX7_wage 37 = .ok (.aload_n 0, 1) := by decide +kernel
theorem dX7_wage_38 : decode cX7_wage 38 = .ok (.getfield 40, 3) := by decide +kernel
theorem dX7_wage_41 : decode cX7_wage 41 = .ok (.iconst 0, 1) := by decide +kernel
theorem dX7_wage_42 : decode cX7_wage 42 = .ok (.laload, 1) := by decide +kernel
theorem dX7_wage_43 : decode cX7_wage 43 = .ok (.iload_n 2, 1) := by decide +kernel
theorem dX7_wage_44 : decode cX7_wage 44 = .ok (.invokestatic 257, 3) := by decide +kernel
theorem dX7_wage_47 : decode cX7_wage 47 = .ok (.lreturn, 1) := by decide +kernel
theorem dX7_price_0 : decode cX7_price 0 = .ok (.aload_n 0, 1) := by decide +kernel
theorem dX7_price_1 : decode cX7_price 1 = .ok (.iconst 0, 1) := by decide +kernel
theorem dX7_price_2 : decode cX7_price 2 = .ok (.putfield 62, 3) := by decide +kernel
theorem dX7_price_5 : decode cX7_price 5 = .ok (.aload_n 0, 1) := by decide +kernel
theorem dX7_price_6 : decode cX7_price 6 = .ok (.iload_n 1, 1) := by decide +kernel
theorem dX7_price_7 : decode cX7_price 7 = .ok (.invokevirtual 192, 3) := by decide +kernel
theorem dX7_price_10 : decode cX7_price 10 = .ok (.ifCond .eq 15, 3) := by decide +kernel
theorem dX7_price_13 : decode cX7_price 13 = .ok (.iload_n 2, 1) := by decide +kernel
theorem dX7_price_14 : decode cX7_price 14 = .ok (.i2l, 1) := by decide +kernel
theorem dX7_price_15 : decode cX7_price 15 = .ok (.lconst 0, 1) := by decide +kernel
theorem dX7_price_16 : decode cX7_price 16 = .ok (.ldc2_w 81, 3) := by decide +kernel
theorem dX7_price_19 : decode cX7_price 19 = .ok (.invokestatic 73, 3) := by decide +kernel
theorem dX7_price_22 : decode cX7_price 22 = .ok (.ifCond .ne 7, 3) := by decide +kernel
theorem dX7_price_25 : decode cX7_price 25 = .ok (.ldc2_w 83, 3) := by decide +kernel
theorem dX7_price_28 : decode cX7_price 28 = .ok (.lreturn, 1) := by decide +kernel
theorem dX7_price_29 : decode cX7_price 29 = .ok (.aload_n 0, 1) := by decide +kernel
theorem dX7_price_30 : decode cX7_price 30 = .ok (.invokevirtual 254, 3) := by decide +kernel
theorem dX7_price_33 : decode cX7_price 33 = .ok (.iload_n 2, 1) := by decide +kernel
theorem dX7_price_34 : decode cX7_price 34 = .ok (.iconst 2, 1) := by decide +kernel
theorem dX7_price_35 : decode cX7_price 35 = .ok (.if_icmp .ne 16, 3) := by decide +kernel
theorem dX7_price_38 : decode cX7_price 38 = .ok (.aload_n 0, 1) := by decide +kernel
theorem dX7_price_39 : decode cX7_price 39 = .ok (.aload_n 0, 1) := by decide +kernel
theorem dX7_price_40 : decode cX7_price 40 = .ok (.invokevirtual 244, 3) := by decide +kernel
theorem dX7_price_43 : decode cX7_price 43 = .ok (.iload_n 1, 1) := by decide +kernel
theorem dX7_price_44 : decode cX7_price 44 = .ok (.invokevirtual 211, 3) := by decide +kernel
theorem dX7_price_47 : decode cX7_price 47 = .ok (.i2l, 1) := by decide +kernel
theorem dX7_price_48 : decode cX7_price 48 = .ok (.goto 22, 3) := by decide +kernel
theorem dX7_price_51 : decode cX7_price 51 = .ok (.aload_n 0, 1) := by decide +kernel
theorem dX7_price_52 : decode cX7_price 52 = .ok (.aload_n 0, 1) := by decide +kernel
theorem dX7_price_53 : decode cX7_price 53 = .ok (.invokevirtual 244, 3) := by decide +kernel
theorem dX7_price_56 : decode cX7_price 56 = .ok (.iload_n 1, 1) := by decide +kernel
theorem dX7_price_57 : decode cX7_price 57 = .ok (.invokevirtual 205, 3) := by decide +kernel
theorem dX7_price_60 : decode cX7_price 60 = .ok (.aload_n 0, 1) := by decide +kernel
theorem dX7_price_61 : decode cX7_price 61 = .ok (.getfield 40, 3) := by decide +kernel
theorem dX7_price_64 : decode cX7_price 64 = .ok (.iconst 0, 1) := by decide +kernel
theorem dX7_price_65 : decode cX7_price 65 = .ok (.laload, 1) := by decide +kernel
theorem dX7_price_66 : decode cX7_price 66 = .ok (.iload_n 2, 1) := by decide +kernel
theorem dX7_price_67 : decode cX7_price 67 = .ok (.invokestatic 257, 3) := by decide +kernel
theorem dX7_price_70 : decode cX7_price 70 = .ok (.lreturn, 1) := by decide +kernel
theorem dX7_gain_0 : decode cX7_gain 0 = .ok (.aload_n 0, 1) := by decide +kernel
theorem dX7_gain_1 : decode cX7_gain 1 = .ok (.iconst 0, 1) := by decide +kernel
theorem dX7_gain_2 : decode cX7_gain 2 = .ok (.putfield 62, 3) := by decide +kernel
theorem dX7_gain_5 : decode cX7_gain 5 = .ok (.aload_n 0, 1) := by decide +kernel
theorem dX7_gain_6 : decode cX7_gain 6 = .ok (.iload_n 1, 1) := by decide +kernel
theorem dX7_gain_7 : decode cX7_gain 7 = .ok (.invokevirtual 189, 3) := by decide +kernel
theorem dX7_gain_10 : decode cX7_gain 10 = .ok (.ifCond .eq 21, 3) := by decide +kernel
theorem dX7_gain_13 : decode cX7_gain 13 = .ok (.aload_n 0, 1) := by decide +kernel
theorem dX7_gain_14 : decode cX7_gain 14 = .ok (.iload_n 2, 1) := by decide +kernel
theorem dX7_gain_15 : decode cX7_gain 15 = .ok (.invokevirtual 192, 3) := by decide +kernel
theorem dX7_gain_18 : decode cX7_gain 18 = .ok (.ifCond .eq 13, 3) := by decide +kernel
theorem dX7_gain_21 : decode cX7_gain 21 = .ok (.iload_n 3, 1) := by decide +kernel
theorem dX7_gain_22 : decode cX7_gain 22 = .ok (.i2l, 1) := by decide +kernel
theorem dX7_gain_23 : decode cX7_gain 23 = .ok (.lconst 0, 1) := by decide +kernel
theorem dX7_gain_24 : decode cX7_gain 24 = .ok (.lconst 1, 1) := by decide +kernel
theorem dX7_gain_25 : decode cX7_gain 25 = .ok (.invokestatic 73, 3) := by decide +kernel
theorem dX7_gain_28 : decode cX7_gain 28 = .ok (.ifCond .ne 7, 3) := by decide +kernel
theorem dX7_gain_31 : decode cX7_gain 31 = .ok (.ldc2_w 83, 3) := by decide +kernel
theorem dX7_gain_34 : decode cX7_gain 34 = .ok (.lreturn, 1) := by decide +kernel
theorem dX7_gain_35 : decode cX7_gain 35 = .ok (.aload_n 0, 1) := by decide +kernel
theorem dX7_gain_36 : decode cX7_gain 36 = .ok (.invokevirtual 254, 3) := by decide +kernel
theorem dX7_gain_39 : decode cX7_gain 39 = .ok (.aload_n 0, 1) := by decide +kernel
theorem dX7_gain_40 : decode cX7_gain 40 = .ok (.iload_n 1, 1) := by decide +kernel
theorem dX7_gain_41 : decode cX7_gain 41 = .ok (.iload_n 2, 1) := by decide +kernel
theorem dX7_gain_42 : decode cX7_gain 42 = .ok (.invokevirtual 201, 3) := by decide +kernel
theorem dX7_gain_45 : decode cX7_gain 45 = .ok (.aload_n 0, 1) := by decide +kernel
theorem dX7_gain_46 : decode cX7_gain 46 = .ok (.aload_n 0, 1) := by decide +kernel
theorem dX7_gain_47 : decode cX7_gain 47 = .ok (.invokevirtual 244, 3) := by decide +kernel
theorem dX7_gain_50 : decode cX7_gain 50 = .ok (.iload_n 2, 1) := by decide +kernel
theorem dX7_gain_51 : decode cX7_gain 51 = .ok (.invokevirtual 205, 3) := by decide +kernel
theorem dX7_gain_54 : decode cX7_gain 54 = .ok (.iload_n 3, 1) := by decide +kernel
theorem dX7_gain_55 : decode cX7_gain 55 = .ok (.invokestatic 257, 3) := by decide +kernel
theorem dX7_gain_58 : decode cX7_gain 58 = .ok (.lreturn, 1) := by decide +kernel
theorem dX7_judge_0 : decode cX7_judge 0 = .ok (.aload_n 0, 1) := by decide +kernel
theorem dX7_judge_1 : decode cX7_judge 1 = .ok (.iconst 0, 1) := by decide +kernel
theorem dX7_judge_2 : decode cX7_judge 2 = .ok (.putfield 62, 3) := by decide +kernel
theorem dX7_judge_5 : decode cX7_judge 5 = .ok (.iload_n 1, 1) := by decide +kernel
theorem dX7_judge_6 : decode cX7_judge 6 = .ok (.invokestatic 77, 3) := by decide +kernel
theorem dX7_judge_9 : decode cX7_judge 9 = .ok (.ifCond .ne 7, 3) := by decide +kernel
theorem dX7_judge_12 : decode cX7_judge 12 = .ok (.ldc2_w 83, 3) := by decide +kernel
theorem dX7_judge_15 : decode cX7_judge 15 = .ok (.lreturn, 1) := by decide +kernel
theorem dX7_judge_16 : decode cX7_judge 16 = .ok (.aload_n 0, 1) := by decide +kernel
theorem dX7_judge_17 : decode cX7_judge 17 = .ok (.getfield 176, 3) := by decide +kernel
theorem dX7_judge_20 : decode cX7_judge 20 = .ok (.ifCond .ne 7, 3) := by decide +kernel
theorem dX7_judge_23 : decode cX7_judge 23 = .ok (.ldc2_w 261, 3) := by decide +kernel
theorem dX7_judge_26 : decode cX7_judge 26 = .ok (.lreturn, 1) := by decide +kernel
theorem dX7_judge_27 : decode cX7_judge 27 = .ok (.aload_n 0, 1) := by decide +kernel
theorem dX7_judge_28 : decode cX7_judge 28 = .ok (.iload_n 1, 1) := by decide +kernel
theorem dX7_judge_29 : decode cX7_judge 29 = .ok (.iload_n 2, 1) := by decide +kernel
theorem dX7_judge_30 : decode cX7_judge 30 = .ok (.aload_n 0, 1) := by decide +kernel
theorem dX7_judge_31 : decode cX7_judge 31 = .ok (.getfield 176, 3) := by decide +kernel
theorem dX7_judge_34 : decode cX7_judge 34 = .ok (.invokevirtual 263, 3) := by decide +kernel
theorem dX7_judge_37 : decode cX7_judge 37 = .ok (.lstore_n 3, 1) := by decide +kernel
theorem dX7_judge_38 : decode cX7_judge 38 = .ok (.lload_n 3, 1) := by decide +kernel
theorem dX7_judge_39 : decode cX7_judge 39 = .ok (.lconst 0, 1) := by decide +kernel
theorem dX7_judge_40 : decode cX7_judge 40 = .ok (.lcmp, 1) := by decide +kernel
theorem dX7_judge_41 : decode cX7_judge 41 = .ok (.ifCond .ge 5, 3) := by decide +kernel
theorem dX7_judge_44 : decode cX7_judge 44 = .ok (.lload_n 3, 1) := by decide +kernel
theorem dX7_judge_45 : decode cX7_judge 45 = .ok (.lreturn, 1) := by decide +kernel
theorem dX7_judge_46 : decode cX7_judge 46 = .ok (.iconst 0, 1) := by decide +kernel
theorem dX7_judge_47 : decode cX7_judge 47 = .ok (.istore 5, 2) := by decide +kernel
theorem dX7_judge_49 : decode cX7_judge 49 = .ok (.iload 5, 2) := by decide +kernel
theorem dX7_judge_51 : decode cX7_judge 51 = .ok (.aload_n 0, 1) := by decide +kernel
theorem dX7_judge_52 : decode cX7_judge 52 = .ok (.getfield 176, 3) := by decide +kernel
theorem dX7_judge_55 : decode cX7_judge 55 = .ok (.if_icmp .ge 38, 3) := by decide +kernel
theorem dX7_judge_58 : decode cX7_judge 58 = .ok (.aload_n 0, 1) := by decide +kernel
theorem dX7_judge_59 : decode cX7_judge 59 = .ok (.getfield 16, 3) := by decide +kernel
theorem dX7_judge_62 : decode cX7_judge 62 = .ok (.bipush 40, 2) := by decide +kernel
theorem dX7_judge_64 : decode cX7_judge 64 = .ok (.iload_n 1, 1) := by decide +kernel
theorem dX7_judge_65 : decode cX7_judge 65 = .ok (.imul, 1) := by decide +kernel
theorem dX7_judge_66 : decode cX7_judge 66 = .ok (.iload_n 2, 1) := by decide +kernel
theorem dX7_judge_67 : decode cX7_judge 67 = .ok (.iadd, 1) := by decide +kernel
theorem dX7_judge_68 : decode cX7_judge 68 = .ok (.iload 5, 2) := by decide +kernel
theorem dX7_judge_70 : decode cX7_judge 70 = .ok (.iadd, 1) := by decide +kernel
theorem dX7_judge_71 : decode cX7_judge 71 = .ok (.iaload, 1) := by decide +kernel
theorem dX7_judge_72 : decode cX7_judge 72 = .ok (.i2l, 1) := by decide +kernel
theorem dX7_judge_73 : decode cX7_judge 73 = .ok (.lconst 1, 1) := by decide +kernel
theorem dX7_judge_74 : decode cX7_judge 74 = .ok (.ldc2_w 267, 3) := by decide +kernel
theorem dX7_judge_77 : decode cX7_judge 77 = .ok (.invokestatic 73, 3) := by decide +kernel
theorem dX7_judge_80 : decode cX7_judge 80 = .ok (.ifCond .ne 7, 3) := by decide +kernel
theorem dX7_judge_83 : decode cX7_judge 83 = .ok (.ldc2_w 83, 3) := by decide +kernel
theorem dX7_judge_86 : decode cX7_judge 86 = .ok (.lreturn, 1) := by decide +kernel
theorem dX7_judge_87 : decode cX7_judge 87 = .ok (.iinc 5 1, 3) := by decide +kernel
theorem dX7_judge_90 : decode cX7_judge 90 = .ok (.goto (-41), 3) := by decide +kernel
theorem dX7_judge_93 : decode cX7_judge 93 = .ok (.aload_n 0, 1) := by decide +kernel
theorem dX7_judge_94 : decode cX7_judge 94 = .ok (.iconst 0, 1) := by decide +kernel
theorem dX7_judge_95 : decode cX7_judge 95 = .ok (.putfield 66, 3) := by decide +kernel
theorem dX7_judge_98 : decode cX7_judge 98 = .ok (.iconst 0, 1) := by decide +kernel
theorem dX7_judge_99 : decode cX7_judge 99 = .ok (.istore 5, 2) := by decide +kernel
theorem dX7_judge_101 : decode cX7_judge 101 = .ok (.iload 5, 2) := by decide +kernel
theorem dX7_judge_103 : decode cX7_judge 103 = .ok (.aload_n 0, 1) := by decide +kernel
theorem dX7_judge_104 : decode cX7_judge 104 = .ok (.getfield 176, 3) := by decide +kernel
theorem dX7_judge_107 : decode cX7_judge 107 = .ok (.if_icmp .ge 31, 3) := by decide +kernel
theorem dX7_judge_110 : decode cX7_judge 110 = .ok (.aload_n 0, 1) := by decide +kernel
theorem dX7_judge_111 : decode cX7_judge 111 = .ok (.getfield 40, 3) := by decide +kernel
theorem dX7_judge_114 : decode cX7_judge 114 = .ok (.iload 5, 2) := by decide +kernel
theorem dX7_judge_116 : decode cX7_judge 116 = .ok (.aload_n 0, 1) := by decide +kernel
theorem dX7_judge_117 : decode cX7_judge 117 = .ok (.getfield 16, 3) := by decide +kernel
theorem dX7_judge_120 : decode cX7_judge 120 = .ok (.bipush 40, 2) := by decide +kernel
theorem dX7_judge_122 : decode cX7_judge 122 = .ok (.iload_n 1, 1) := by decide +kernel
theorem dX7_judge_123 : decode cX7_judge 123 = .ok (.imul, 1) := by decide +kernel
theorem dX7_judge_124 : decode cX7_judge 124 = .ok (.iload_n 2, 1) := by decide +kernel
theorem dX7_judge_125 : decode cX7_judge 125 = .ok (.iadd, 1) := by decide +kernel
theorem dX7_judge_126 : decode cX7_judge 126 = .ok (.iload 5, 2) := by decide +kernel
theorem dX7_judge_128 : decode cX7_judge 128 = .ok (.iadd, 1) := by decide +kernel
theorem dX7_judge_129 : decode cX7_judge 129 = .ok (.iaload, 1) := by decide +kernel
theorem dX7_judge_130 : decode cX7_judge 130 = .ok (.i2l, 1) := by decide +kernel
theorem dX7_judge_131 : decode cX7_judge 131 = .ok (.lastore, 1) := by decide +kernel
theorem dX7_judge_132 : decode cX7_judge 132 = .ok (.iinc 5 1, 3) := by decide +kernel
theorem dX7_judge_135 : decode cX7_judge 135 = .ok (.goto (-34), 3) := by decide +kernel
theorem dX7_judge_138 : decode cX7_judge 138 = .ok (.aload_n 0, 1) := by decide +kernel
theorem dX7_judge_139 : decode cX7_judge 139 = .ok (.aload_n 0, 1) := by decide +kernel
theorem dX7_judge_140 : decode cX7_judge 140 = .ok (.invokevirtual 244, 3) := by decide +kernel
theorem dX7_judge_143 : decode cX7_judge 143 = .ok (.invokevirtual 219, 3) := by decide +kernel
theorem dX7_judge_146 : decode cX7_judge 146 = .ok (.i2l, 1) := by decide +kernel
theorem dX7_judge_147 : decode cX7_judge 147 = .ok (.lreturn, 1) := by decide +kernel
theorem dX7_isAhead_0 : decode cX7_isAhead 0 = .ok (.aload_n 0, 1) := by decide +kernel
theorem dX7_isAhead_1 : decode cX7_isAhead 1 = .ok (.getfield 25, 3) := by decide +kernel
theorem dX7_isAhead_4 : decode cX7_isAhead 4 = .ok (.bipush 6, 2) := by decide +kernel
theorem dX7_isAhead_6 : decode cX7_isAhead 6 = .ok (.iload_n 1, 1) := by decide +kernel
theorem dX7_isAhead_7 : decode cX7_isAhead 7 = .ok (.imul, 1) := by decide +kernel
theorem dX7_isAhead_8 : decode cX7_isAhead 8 = .ok (.iload_n 3, 1) := by decide +kernel
theorem dX7_isAhead_9 : decode cX7_isAhead 9 = .ok (.iadd, 1) := by decide +kernel
theorem dX7_isAhead_10 : decode cX7_isAhead 10 = .ok (.iaload, 1) := by decide +kernel
theorem dX7_isAhead_11 : decode cX7_isAhead 11 = .ok (.aload_n 0, 1) := by decide +kernel
theorem dX7_isAhead_12 : decode cX7_isAhead 12 = .ok (.getfield 25, 3) := by decide +kernel
theorem dX7_isAhead_15 : decode cX7_isAhead 15 = .ok (.bipush 6, 2) := by decide +kernel
theorem dX7_isAhead_17 : decode cX7_isAhead 17 = .ok (.iload_n 2, 1) := by decide +kernel
theorem dX7_isAhead_18 : decode cX7_isAhead 18 = .ok (.imul, 1) := by decide +kernel
theorem dX7_isAhead_19 : decode cX7_isAhead 19 = .ok (.iload 4, 2) := by decide +kernel
theorem dX7_isAhead_21 : decode cX7_isAhead 21 = .ok (.iadd, 1) := by decide +kernel
theorem dX7_isAhead_22 : decode cX7_isAhead 22 = .ok (.iaload, 1) := by decide +kernel
theorem dX7_isAhead_23 : decode cX7_isAhead 23 = .ok (.imul, 1) := by decide +kernel
theorem dX7_isAhead_24 : decode cX7_isAhead 24 = .ok (.istore 5, 2) := by decide +kernel
theorem dX7_isAhead_26 : decode cX7_isAhead 26 = .ok (.aload_n 0, 1) := by decide +kernel
theorem dX7_isAhead_27 : decode cX7_isAhead 27 = .ok (.getfield 25, 3) := by decide +kernel
theorem dX7_isAhead_30 : decode cX7_isAhead 30 = .ok (.bipush 6, 2) := by decide +kernel
theorem dX7_isAhead_32 : decode cX7_isAhead 32 = .ok (.iload_n 1, 1) := by decide +kernel
theorem dX7_isAhead_33 : decode cX7_isAhead 33 = .ok (.imul, 1) := by decide +kernel
theorem dX7_isAhead_34 : decode cX7_isAhead 34 = .ok (.iload 4, 2) := by decide +kernel
theorem dX7_isAhead_36 : decode cX7_isAhead 36 = .ok (.iadd, 1) := by decide +kernel
theorem dX7_isAhead_37 : decode cX7_isAhead 37 = .ok (.iaload, 1) := by decide +kernel
theorem dX7_isAhead_38 : decode cX7_isAhead 38 = .ok (.aload_n 0, 1) := by decide +kernel
theorem dX7_isAhead_39 : decode cX7_isAhead 39 = .ok (.getfield 25, 3) := by decide +kernel
theorem dX7_isAhead_42 : decode cX7_isAhead 42 = .ok (.bipush 6, 2) := by decide +kernel
theorem dX7_isAhead_44 : decode cX7_isAhead 44 = .ok (.iload_n 2, 1) := by decide +kernel
theorem dX7_isAhead_45 : decode cX7_isAhead 45 = .ok (.imul, 1) := by decide +kernel
theorem dX7_isAhead_46 : decode cX7_isAhead 46 = .ok (.iload_n 3, 1) := by decide +kernel
theorem dX7_isAhead_47 : decode cX7_isAhead 47 = .ok (.iadd, 1) := by decide +kernel
theorem dX7_isAhead_48 : decode cX7_isAhead 48 = .ok (.iaload, 1) := by decide +kernel
theorem dX7_isAhead_49 : decode cX7_isAhead 49 = .ok (.imul, 1) := by decide +kernel
theorem dX7_isAhead_50 : decode cX7_isAhead 50 = .ok (.istore 6, 2) := by decide +kernel
theorem dX7_isAhead_52 : decode cX7_isAhead 52 = .ok (.iload 5, 2) := by decide +kernel
theorem dX7_isAhead_54 : decode cX7_isAhead 54 = .ok (.iload 6, 2) := by decide +kernel
theorem dX7_isAhead_56 : decode cX7_isAhead 56 = .ok (.if_icmp .lt 16, 3) := by decide +kernel
theorem dX7_isAhead_59 : decode cX7_isAhead 59 = .ok (.iload 5, 2) := by decide +kernel
theorem dX7_isAhead_61 : decode cX7_isAhead 61 = .ok (.iload 6, 2) := by decide +kernel
theorem dX7_isAhead_63 : decode cX7_isAhead 63 = .ok (.if_icmp .ne 13, 3) := by decide +kernel
theorem dX7_isAhead_66 : decode cX7_isAhead 66 = .ok (.iload_n 3, 1) := by decide +kernel
theorem dX7_isAhead_67 : decode cX7_isAhead 67 = .ok (.iload 4, 2) := by decide +kernel
theorem dX7_isAhead_69 : decode cX7_isAhead 69 = .ok (.if_icmp .ge 7, 3) := by decide +kernel
theorem dX7_isAhead_72 : decode cX7_isAhead 72 = .ok (.iconst 1, 1) := by decide +kernel
theorem dX7_isAhead_73 : decode cX7_isAhead 73 = .ok (.goto 4, 3) := by decide +kernel
theorem dX7_isAhead_76 : decode cX7_isAhead 76 = .ok (.iconst 0, 1) := by decide +kernel
theorem dX7_isAhead_77 : decode cX7_isAhead 77 = .ok (.ireturn, 1) := by decide +kernel
theorem dX7_chain_0 : decode cX7_chain 0 = .ok (.aload_n 0, 1) := by decide +kernel
theorem dX7_chain_1 : decode cX7_chain 1 = .ok (.iconst 0, 1) := by decide +kernel
theorem dX7_chain_2 : decode cX7_chain 2 = .ok (.putfield 62, 3) := by decide +kernel
theorem dX7_chain_5 : decode cX7_chain 5 = .ok (.aload_n 0, 1) := by decide +kernel
theorem dX7_chain_6 : decode cX7_chain 6 = .ok (.iload_n 1, 1) := by decide +kernel
theorem dX7_chain_7 : decode cX7_chain 7 = .ok (.invokevirtual 189, 3) := by decide +kernel
theorem dX7_chain_10 : decode cX7_chain 10 = .ok (.ifCond .eq 21, 3) := by decide +kernel
theorem dX7_chain_13 : decode cX7_chain 13 = .ok (.aload_n 0, 1) := by decide +kernel
theorem dX7_chain_14 : decode cX7_chain 14 = .ok (.iload_n 2, 1) := by decide +kernel
theorem dX7_chain_15 : decode cX7_chain 15 = .ok (.invokevirtual 189, 3) := by decide +kernel
theorem dX7_chain_18 : decode cX7_chain 18 = .ok (.ifCond .eq 13, 3) := by decide +kernel
theorem dX7_chain_21 : decode cX7_chain 21 = .ok (.iload_n 1, 1) := by decide +kernel
theorem dX7_chain_22 : decode cX7_chain 22 = .ok (.iload_n 2, 1) := by decide +kernel
theorem dX7_chain_23 : decode cX7_chain 23 = .ok (.if_icmp .eq 8, 3) := by decide +kernel
theorem dX7_chain_26 : decode cX7_chain 26 = .ok (.iload_n 3, 1) := by decide +kernel
theorem dX7_chain_27 : decode cX7_chain 27 = .ok (.iconst (-1), 1) := by decide +kernel
theorem dX7_chain_28 : decode cX7_chain 28 = .ok (.if_icmp .ge 7, 3) := by decide +kernel
theorem dX7_chain_31 : decode cX7_chain 31 = .ok (.ldc2_w 83, 3) := by decide +kernel
theorem dX7_chain_34 : decode cX7_chain 34 = .ok (.lreturn, 1) := by decide +kernel
theorem dX7_chain_35 : decode cX7_chain 35 = .ok (.iload_n 3, 1) := by decide +kernel
theorem dX7_chain_36 : decode cX7_chain 36 = .ok (.iconst (-1), 1) := by decide +kernel
theorem dX7_chain_37 : decode cX7_chain 37 = .ok (.if_icmp .ne 104, 3) := by decide +kernel
theorem dX7_chain_40 : decode cX7_chain 40 = .ok (.iconst 1, 1) := by decide +kernel
theorem dX7_chain_41 : decode cX7_chain 41 = .ok (.iload_n 1, 1) := by decide +kernel
theorem dX7_chain_42 : decode cX7_chain 42 = .ok (.ishl, 1) := by decide +kernel
theorem dX7_chain_43 : decode cX7_chain 43 = .ok (.iconst 1, 1) := by decide +kernel
theorem dX7_chain_44 : decode cX7_chain 44 = .ok (.iload_n 2, 1) := by decide +kernel
theorem dX7_chain_45 : decode cX7_chain 45 = .ok (.ishl, 1) := by decide +kernel
theorem dX7_chain_46 : decode cX7_chain 46 = .ok (.ior, 1) := by decide +kernel
theorem dX7_chain_47 : decode cX7_chain 47 = .ok (.istore 4, 2) := by decide +kernel
theorem dX7_chain_49 : decode cX7_chain 49 = .ok (.aload_n 0, 1) := by decide +kernel
theorem dX7_chain_50 : decode cX7_chain 50 = .ok (.iload 4, 2) := by decide +kernel
theorem dX7_chain_52 : decode cX7_chain 52 = .ok (.invokevirtual 247, 3) := by decide +kernel
theorem dX7_chain_55 : decode cX7_chain 55 = .ok (.iconst 0, 1) := by decide +kernel
theorem dX7_chain_56 : decode cX7_chain 56 = .ok (.istore 5, 2) := by decide +kernel
theorem dX7_chain_58 : decode cX7_chain 58 = .ok (.iconst 0, 1) := by decide +kernel
theorem dX7_chain_59 : decode cX7_chain 59 = .ok (.istore 6, 2) := by decide +kernel
theorem dX7_chain_61 : decode cX7_chain 61 = .ok (.iconst 0, 1) := by decide +kernel
theorem dX7_chain_62 : decode cX7_chain 62 = .ok (.istore 7, 2) := by decide +kernel
theorem dX7_chain_64 : decode cX7_chain 64 = .ok (.iload 7, 2) := by decide +kernel
theorem dX7_chain_66 : decode cX7_chain 66 = .ok (.aload_n 0, 1) := by decide +kernel
theorem dX7_chain_67 : decode cX7_chain 67 = .ok (.getfield 179, 3) := by decide +kernel
theorem dX7_chain_70 : decode cX7_chain 70 = .ok (.if_icmp .ge 54, 3) := by decide +kernel
theorem dX7_chain_73 : decode cX7_chain 73 = .ok (.aload_n 0, 1) := by decide +kernel
theorem dX7_chain_74 : decode cX7_chain 74 = .ok (.iload 4, 2) := by decide +kernel
theorem dX7_chain_76 : decode cX7_chain 76 = .ok (.iload 7, 2) := by decide +kernel
theorem dX7_chain_78 : decode cX7_chain 78 = .ok (.invokevirtual 211, 3) := by decide +kernel
theorem dX7_chain_81 : decode cX7_chain 81 = .ok (.istore 8, 2) := by decide +kernel
theorem dX7_chain_83 : decode cX7_chain 83 = .ok (.iload 5, 2) := by decide +kernel
theorem dX7_chain_85 : decode cX7_chain 85 = .ok (.iload 8, 2) := by decide +kernel
theorem dX7_chain_87 : decode cX7_chain 87 = .ok (.iconst 1, 1) := by decide +kernel
theorem dX7_chain_88 : decode cX7_chain 88 = .ok (.iload_n 1, 1) := by decide +kernel
theorem dX7_chain_89 : decode cX7_chain 89 = .ok (.ishl, 1) := by decide +kernel
theorem dX7_chain_90 : decode cX7_chain 90 = .ok (.if_icmp .ne 7, 3) := by decide +kernel
theorem dX7_chain_93 : decode cX7_chain 93 = .ok (.iconst 1, 1) := by decide +kernel
theorem dX7_chain_94 : decode cX7_chain 94 = .ok (.goto 4, 3) := by decide +kernel
theorem dX7_chain_97 : decode cX7_chain 97 = .ok (.iconst 0, 1) := by decide +kernel
theorem dX7_chain_98 : decode cX7_chain 98 = .ok (.iadd, 1) := by decide +kernel
theorem dX7_chain_99 : decode cX7_chain 99 = .ok (.istore 5, 2) := by decide +kernel
theorem dX7_chain_101 : decode cX7_chain 101 = .ok (.iload 6, 2) := by decide +kernel
theorem dX7_chain_103 : decode cX7_chain 103 = .ok (.iload 8, 2) := by decide +kernel
theorem dX7_chain_105 : decode cX7_chain 105 = .ok (.iload 4, 2) := by decide +kernel
theorem dX7_chain_107 : decode cX7_chain 107 = .ok (.if_icmp .ne 7, 3) := by decide +kernel
theorem dX7_chain_110 : decode cX7_chain 110 = .ok (.iconst 1, 1) := by decide +kernel
theorem dX7_chain_111 : decode cX7_chain 111 = .ok (.goto 4, 3) := by decide +kernel
theorem dX7_chain_114 : decode cX7_chain 114 = .ok (.iconst 0, 1) := by decide +kernel
theorem dX7_chain_115 : decode cX7_chain 115 = .ok (.iadd, 1) := by decide +kernel
theorem dX7_chain_116 : decode cX7_chain 116 = .ok (.istore 6, 2) := by decide +kernel
theorem dX7_chain_118 : decode cX7_chain 118 = .ok (.iinc 7 1, 3) := by decide +kernel
theorem dX7_chain_121 : decode cX7_chain 121 = .ok (.goto (-57), 3) := by decide +kernel
theorem dX7_chain_124 : decode cX7_chain 124 = .ok (.iconst 2, 1) := by decide +kernel
theorem dX7_chain_125 : decode cX7_chain 125 = .ok (.iload 5, 2) := by decide +kernel
theorem dX7_chain_127 : decode cX7_chain 127 = .ok (.imul, 1) := by decide +kernel
theorem dX7_chain_128 : decode cX7_chain 128 = .ok (.iload 6, 2) := by decide +kernel
theorem dX7_chain_130 : decode cX7_chain 130 = .ok (.ifCond .le 7, 3) := by decide +kernel
theorem dX7_chain_133 : decode cX7_chain 133 = .ok (.iconst 1, 1) := by decide +kernel
theorem dX7_chain_134 : decode cX7_chain 134 = .ok (.goto 4, 3) := by decide +kernel
theorem dX7_chain_137 : decode cX7_chain 137 = .ok (.iconst 0, 1) := by decide +kernel
theorem dX7_chain_138 : decode cX7_chain 138 = .ok (.iadd, 1) := by decide +kernel
theorem dX7_chain_139 : decode cX7_chain 139 = .ok (.i2l, 1) := by decide +kernel
theorem dX7_chain_140 : decode cX7_chain 140 = .ok (.lreturn, 1) := by decide +kernel
theorem dX7_chain_141 : decode cX7_chain 141 = .ok (.iconst 0, 1) := by decide +kernel
theorem dX7_chain_142 : decode cX7_chain 142 = .ok (.istore 4, 2) := by decide +kernel
theorem dX7_chain_144 : decode cX7_chain 144 = .ok (.iload 4, 2) := by decide +kernel
theorem dX7_chain_146 : decode cX7_chain 146 = .ok (.aload_n 0, 1) := by decide +kernel
theorem dX7_chain_147 : decode cX7_chain 147 = .ok (.getfield 179, 3) := by decide +kernel
theorem dX7_chain_150 : decode cX7_chain 150 = .ok (.if_icmp .ge 70, 3) := by decide +kernel
theorem dX7_chain_153 : decode cX7_chain 153 = .ok (.iconst 0, 1) := by decide +kernel
theorem dX7_chain_154 : decode cX7_chain 154 = .ok (.istore 5, 2) := by decide +kernel
theorem dX7_chain_156 : decode cX7_chain 156 = .ok (.iconst 0, 1) := by decide +kernel
theorem dX7_chain_157 : decode cX7_chain 157 = .ok (.istore 6, 2) := by decide +kernel
theorem dX7_chain_159 : decode cX7_chain 159 = .ok (.iload 6, 2) := by decide +kernel
theorem dX7_chain_161 : decode cX7_chain 161 = .ok (.aload_n 0, 1) := by decide +kernel
theorem dX7_chain_162 : decode cX7_chain 162 = .ok (.getfield 179, 3) := by decide +kernel
theorem dX7_chain_165 : decode cX7_chain 165 = .ok (.if_icmp .ge 39, 3) := by decide +kernel
theorem dX7_chain_168 : decode cX7_chain 168 = .ok (.iload 5, 2) := by decide +kernel
theorem dX7_chain_170 : decode cX7_chain 170 = .ok (.iload 6, 2) := by decide +kernel
theorem dX7_chain_172 : decode cX7_chain 172 = .ok (.iload 4, 2) := by decide +kernel
theorem dX7_chain_174 : decode cX7_chain 174 = .ok (.if_icmp .eq 20, 3) := by decide +kernel
theorem dX7_chain_177 : decode cX7_chain 177 = .ok (.aload_n 0, 1) := by decide +kernel
theorem dX7_chain_178 : decode cX7_chain 178 = .ok (.iload_n 1, 1) := by decide +kernel
theorem dX7_chain_179 : decode cX7_chain 179 = .ok (.iload_n 2, 1) := by decide +kernel
theorem dX7_chain_180 : decode cX7_chain 180 = .ok (.iload 6, 2) := by decide +kernel
theorem dX7_chain_182 : decode cX7_chain 182 = .ok (.iload 4, 2) := by decide +kernel
theorem dX7_chain_184 : decode cX7_chain 184 = .ok (.invokevirtual 269, 3) := by decide +kernel
theorem dX7_chain_187 : decode cX7_chain 187 = .ok (.ifCond .eq 7, 3) := by decide +kernel
theorem dX7_chain_190 : decode cX7_chain 190 = .ok (.iconst 1, 1) := by decide +kernel
theorem dX7_chain_191 : decode cX7_chain 191 = .ok (.goto 4, 3) := by decide +kernel
theorem dX7_chain_194 : decode cX7_chain 194 = .ok (.iconst 0, 1) := by decide +kernel
theorem dX7_chain_195 : decode cX7_chain 195 = .ok (.iadd, 1) := by decide +kernel
theorem dX7_chain_196 : decode cX7_chain 196 = .ok (.istore 5, 2) := by decide +kernel
theorem dX7_chain_198 : decode cX7_chain 198 = .ok (.iinc 6 1, 3) := by decide +kernel
theorem dX7_chain_201 : decode cX7_chain 201 = .ok (.goto (-42), 3) := by decide +kernel
theorem dX7_chain_204 : decode cX7_chain 204 = .ok (.iload 5, 2) := by decide +kernel
theorem dX7_chain_206 : decode cX7_chain 206 = .ok (.iload_n 3, 1) := by decide +kernel
theorem dX7_chain_207 : decode cX7_chain 207 = .ok (.if_icmp .ne 7, 3) := by decide +kernel
theorem dX7_chain_210 : decode cX7_chain 210 = .ok (.iload 4, 2) := by decide +kernel
theorem dX7_chain_212 : decode cX7_chain 212 = .ok (.i2l, 1) := by decide +kernel
theorem dX7_chain_213 : decode cX7_chain 213 = .ok (.lreturn, 1) := by decide +kernel
theorem dX7_chain_214 : decode cX7_chain 214 = .ok (.iinc 4 1, 3) := by decide +kernel
theorem dX7_chain_217 : decode cX7_chain 217 = .ok (.goto (-73), 3) := by decide +kernel
theorem dX7_chain_220 : decode cX7_chain 220 = .ok (.ldc2_w 272, 3) := by decide +kernel
theorem dX7_chain_223 : decode cX7_chain 223 = .ok (.lreturn, 1) := by decide +kernel
theorem dX7_gives_0 : decode cX7_gives 0 = .ok (.ldc 101, 2) := by decide +kernel
theorem dX7_gives_2 : decode cX7_gives 2 = .ok (.istore 4, 2) := by decide +kernel
theorem dX7_gives_4 : decode cX7_gives 4 = .ok (.iconst 0, 1) := by decide +kernel
theorem dX7_gives_5 : decode cX7_gives 5 = .ok (.istore 5, 2) := by decide +kernel
theorem dX7_gives_7 : decode cX7_gives 7 = .ok (.iload 5, 2) := by decide +kernel
theorem dX7_gives_9 : decode cX7_gives 9 = .ok (.aload_n 0, 1) := by decide +kernel
theorem dX7_gives_10 : decode cX7_gives 10 = .ok (.getfield 179, 3) := by decide +kernel
theorem dX7_gives_13 : decode cX7_gives 13 = .ok (.if_icmp .ge 95, 3) := by decide +kernel
theorem dX7_gives_16 : decode cX7_gives 16 = .ok (.aload_n 0, 1) := by decide +kernel
theorem dX7_gives_17 : decode cX7_gives 17 = .ok (.aload_n 0, 1) := by decide +kernel
theorem dX7_gives_18 : decode cX7_gives 18 = .ok (.getfield 16, 3) := by decide +kernel
theorem dX7_gives_21 : decode cX7_gives 21 = .ok (.iload_n 1, 1) := by decide +kernel
theorem dX7_gives_22 : decode cX7_gives 22 = .ok (.iload 5, 2) := by decide +kernel
theorem dX7_gives_24 : decode cX7_gives 24 = .ok (.iadd, 1) := by decide +kernel
theorem dX7_gives_25 : decode cX7_gives 25 = .ok (.iaload, 1) := by decide +kernel
theorem dX7_gives_26 : decode cX7_gives 26 = .ok (.iload_n 2, 1) := by decide +kernel
theorem dX7_gives_27 : decode cX7_gives 27 = .ok (.invokevirtual 197, 3) := by decide +kernel
theorem dX7_gives_30 : decode cX7_gives 30 = .ok (.ifCond .eq 72, 3) := by decide +kernel
theorem dX7_gives_33 : decode cX7_gives 33 = .ok (.iload 4, 2) := by decide +kernel
theorem dX7_gives_35 : decode cX7_gives 35 = .ok (.ldc 101, 2) := by decide +kernel
theorem dX7_gives_37 : decode cX7_gives 37 = .ok (.if_icmp .eq 56, 3) := by decide +kernel
theorem dX7_gives_40 : decode cX7_gives 40 = .ok (.aload_n 0, 1) := by decide +kernel
theorem dX7_gives_41 : decode cX7_gives 41 = .ok (.getfield 25, 3) := by decide +kernel
theorem dX7_gives_44 : decode cX7_gives 44 = .ok (.bipush 6, 2) := by decide +kernel
theorem dX7_gives_46 : decode cX7_gives 46 = .ok (.iload_n 3, 1) := by decide +kernel
theorem dX7_gives_47 : decode cX7_gives 47 = .ok (.imul, 1) := by decide +kernel
theorem dX7_gives_48 : decode cX7_gives 48 = .ok (.iload 5, 2) := by decide +kernel
theorem dX7_gives_50 : decode cX7_gives 50 = .ok (.iadd, 1) := by decide +kernel
theorem dX7_gives_51 : decode cX7_gives 51 = .ok (.iaload, 1) := by decide +kernel
theorem dX7_gives_52 : decode cX7_gives 52 = .ok (.aload_n 0, 1) := by decide +kernel
theorem dX7_gives_53 : decode cX7_gives 53 = .ok (.getfield 25, 3) := by decide +kernel
theorem dX7_gives_56 : decode cX7_gives 56 = .ok (.bipush 6, 2) := by decide +kernel
theorem dX7_gives_58 : decode cX7_gives 58 = .ok (.iload_n 2, 1) := by decide +kernel
theorem dX7_gives_59 : decode cX7_gives 59 = .ok (.imul, 1) := by decide +kernel
theorem dX7_gives_60 : decode cX7_gives 60 = .ok (.iload 4, 2) := by decide +kernel
theorem dX7_gives_62 : decode cX7_gives 62 = .ok (.iadd, 1) := by decide +kernel
theorem dX7_gives_63 : decode cX7_gives 63 = .ok (.iaload, 1) := by decide +kernel
theorem dX7_gives_64 : decode cX7_gives 64 = .ok (.imul, 1) := by decide +kernel
theorem dX7_gives_65 : decode cX7_gives 65 = .ok (.aload_n 0, 1) := by decide +kernel
theorem dX7_gives_66 : decode cX7_gives 66 = .ok (.getfield 25, 3) := by decide +kernel
theorem dX7_gives_69 : decode cX7_gives 69 = .ok (.bipush 6, 2) := by decide +kernel
theorem dX7_gives_71 : decode cX7_gives 71 = .ok (.iload_n 3, 1) := by decide +kernel
theorem dX7_gives_72 : decode cX7_gives 72 = .ok (.imul, 1) := by decide +kernel
theorem dX7_gives_73 : decode cX7_gives 73 = .ok (.iload 4, 2) := by decide +kernel
theorem dX7_gives_75 : decode cX7_gives 75 = .ok (.iadd, 1) := by decide +kernel
theorem dX7_gives_76 : decode cX7_gives 76 = .ok (.iaload, 1) := by decide +kernel
theorem dX7_gives_77 : decode cX7_gives 77 = .ok (.aload_n 0, 1) := by decide +kernel
theorem dX7_gives_78 : decode cX7_gives 78 = .ok (.getfield 25, 3) := by decide +kernel
theorem dX7_gives_81 : decode cX7_gives 81 = .ok (.bipush 6, 2) := by decide +kernel
theorem dX7_gives_83 : decode cX7_gives 83 = .ok (.iload_n 2, 1) := by decide +kernel
theorem dX7_gives_84 : decode cX7_gives 84 = .ok (.imul, 1) := by decide +kernel
theorem dX7_gives_85 : decode cX7_gives 85 = .ok (.iload 5, 2) := by decide +kernel
theorem dX7_gives_87 : decode cX7_gives 87 = .ok (.iadd, 1) := by decide +kernel
theorem dX7_gives_88 : decode cX7_gives 88 = .ok (.iaload, 1) := by decide +kernel
theorem dX7_gives_89 : decode cX7_gives 89 = .ok (.imul, 1) := by decide +kernel
theorem dX7_gives_90 : decode cX7_gives 90 = .ok (.if_icmp .ge 8, 3) := by decide +kernel
theorem dX7_gives_93 : decode cX7_gives 93 = .ok (.iload 5, 2) := by decide +kernel
theorem dX7_gives_95 : decode cX7_gives 95 = .ok (.goto 5, 3) := by decide +kernel
theorem dX7_gives_98 : decode cX7_gives 98 = .ok (.iload 4, 2) := by decide +kernel
theorem dX7_gives_100 : decode cX7_gives 100 = .ok (.istore 4, 2) := by decide +kernel
theorem dX7_gives_102 : decode cX7_gives 102 = .ok (.iinc 5 1, 3) := by decide +kernel
theorem dX7_gives_105 : decode cX7_gives 105 = .ok (.goto (-98), 3) := by decide +kernel
theorem dX7_gives_108 : decode cX7_gives 108 = .ok (.iload 4, 2) := by decide +kernel
theorem dX7_gives_110 : decode cX7_gives 110 = .ok (.ldc 101, 2) := by decide +kernel
theorem dX7_gives_112 : decode cX7_gives 112 = .ok (.if_icmp .ne 5, 3) := by decide +kernel
theorem dX7_gives_115 : decode cX7_gives 115 = .ok (.iconst 0, 1) := by decide +kernel
theorem dX7_gives_116 : decode cX7_gives 116 = .ok (.ireturn, 1) := by decide +kernel
theorem dX7_gives_117 : decode cX7_gives 117 = .ok (.aload_n 0, 1) := by decide +kernel
theorem dX7_gives_118 : decode cX7_gives 118 = .ok (.dup, 1) := by decide +kernel
theorem dX7_gives_119 : decode cX7_gives 119 = .ok (.getfield 274, 3) := by decide +kernel
theorem dX7_gives_122 : decode cX7_gives 122 = .ok (.aload_n 0, 1) := by decide +kernel
theorem dX7_gives_123 : decode cX7_gives 123 = .ok (.getfield 25, 3) := by decide +kernel
theorem dX7_gives_126 : decode cX7_gives 126 = .ok (.bipush 6, 2) := by decide +kernel
theorem dX7_gives_128 : decode cX7_gives 128 = .ok (.iload_n 3, 1) := by decide +kernel
theorem dX7_gives_129 : decode cX7_gives 129 = .ok (.imul, 1) := by decide +kernel
theorem dX7_gives_130 : decode cX7_gives 130 = .ok (.iload 4, 2) := by decide +kernel
theorem dX7_gives_132 : decode cX7_gives 132 = .ok (.iadd, 1) := by decide +kernel
theorem dX7_gives_133 : decode cX7_gives 133 = .ok (.iaload, 1) := by decide +kernel
theorem dX7_gives_134 : decode cX7_gives 134 = .ok (.i2l, 1) := by decide +kernel
theorem dX7_gives_135 : decode cX7_gives 135 = .ok (.lmul, 1) := by decide +kernel
theorem dX7_gives_136 : decode cX7_gives 136 = .ok (.putfield 274, 3) := by decide +kernel
theorem dX7_gives_139 : decode cX7_gives 139 = .ok (.aload_n 0, 1) := by decide +kernel
theorem dX7_gives_140 : decode cX7_gives 140 = .ok (.dup, 1) := by decide +kernel
theorem dX7_gives_141 : decode cX7_gives 141 = .ok (.getfield 278, 3) := by decide +kernel
theorem dX7_gives_144 : decode cX7_gives 144 = .ok (.aload_n 0, 1) := by decide +kernel
theorem dX7_gives_145 : decode cX7_gives 145 = .ok (.getfield 25, 3) := by decide +kernel
theorem dX7_gives_148 : decode cX7_gives 148 = .ok (.bipush 6, 2) := by decide +kernel
theorem dX7_gives_150 : decode cX7_gives 150 = .ok (.iload_n 2, 1) := by decide +kernel
theorem dX7_gives_151 : decode cX7_gives 151 = .ok (.imul, 1) := by decide +kernel
theorem dX7_gives_152 : decode cX7_gives 152 = .ok (.iload 4, 2) := by decide +kernel
theorem dX7_gives_154 : decode cX7_gives 154 = .ok (.iadd, 1) := by decide +kernel
theorem dX7_gives_155 : decode cX7_gives 155 = .ok (.iaload, 1) := by decide +kernel
theorem dX7_gives_156 : decode cX7_gives 156 = .ok (.i2l, 1) := by decide +kernel
theorem dX7_gives_157 : decode cX7_gives 157 = .ok (.lmul, 1) := by decide +kernel
theorem dX7_gives_158 : decode cX7_gives 158 = .ok (.putfield 278, 3) := by decide +kernel
theorem dX7_gives_161 : decode cX7_gives 161 = .ok (.iconst 1, 1) := by decide +kernel
theorem dX7_gives_162 : decode cX7_gives 162 = .ok (.ireturn, 1) := by decide +kernel
theorem dX7_isRing_0 : decode cX7_isRing 0 = .ok (.aload_n 0, 1) := by decide +kernel
theorem dX7_isRing_1 : decode cX7_isRing 1 = .ok (.lconst 1, 1) := by decide +kernel
theorem dX7_isRing_2 : decode cX7_isRing 2 = .ok (.putfield 274, 3) := by decide +kernel
theorem dX7_isRing_5 : decode cX7_isRing 5 = .ok (.aload_n 0, 1) := by decide +kernel
theorem dX7_isRing_6 : decode cX7_isRing 6 = .ok (.lconst 1, 1) := by decide +kernel
theorem dX7_isRing_7 : decode cX7_isRing 7 = .ok (.putfield 278, 3) := by decide +kernel
theorem dX7_isRing_10 : decode cX7_isRing 10 = .ok (.aload_n 0, 1) := by decide +kernel
theorem dX7_isRing_11 : decode cX7_isRing 11 = .ok (.iload_n 1, 1) := by decide +kernel
theorem dX7_isRing_12 : decode cX7_isRing 12 = .ok (.iload_n 2, 1) := by decide +kernel
theorem dX7_isRing_13 : decode cX7_isRing 13 = .ok (.iload_n 3, 1) := by decide +kernel
theorem dX7_isRing_14 : decode cX7_isRing 14 = .ok (.invokevirtual 281, 3) := by decide +kernel
theorem dX7_isRing_17 : decode cX7_isRing 17 = .ok (.ifCond .eq 49, 3) := by decide +kernel
theorem dX7_isRing_20 : decode cX7_isRing 20 = .ok (.iload 4, 2) := by decide +kernel
theorem dX7_isRing_22 : decode cX7_isRing 22 = .ok (.ldc 101, 2) := by decide +kernel
theorem dX7_isRing_24 : decode cX7_isRing 24 = .ok (.if_icmp .ne 16, 3) := by decide +kernel
theorem dX7_isRing_27 : decode cX7_isRing 27 = .ok (.aload_n 0, 1) := by decide +kernel
theorem dX7_isRing_28 : decode cX7_isRing 28 = .ok (.iload_n 1, 1) := by decide +kernel
theorem dX7_isRing_29 : decode cX7_isRing 29 = .ok (.iload_n 3, 1) := by decide +kernel
theorem dX7_isRing_30 : decode cX7_isRing 30 = .ok (.iload_n 2, 1) := by decide +kernel
theorem dX7_isRing_31 : decode cX7_isRing 31 = .ok (.invokevirtual 281, 3) := by decide +kernel
theorem dX7_isRing_34 : decode cX7_isRing 34 = .ok (.ifCond .eq 32, 3) := by decide +kernel
theorem dX7_isRing_37 : decode cX7_isRing 37 = .ok (.goto 25, 3) := by decide +kernel
theorem dX7_isRing_40 : decode cX7_isRing 40 = .ok (.aload_n 0, 1) := by decide +kernel
theorem dX7_isRing_41 : decode cX7_isRing 41 = .ok (.iload_n 1, 1) := by decide +kernel
theorem dX7_isRing_42 : decode cX7_isRing 42 = .ok (.iload_n 3, 1) := by decide +kernel
theorem dX7_isRing_43 : decode cX7_isRing 43 = .ok (.iload 4, 2) := by decide +kernel
theorem dX7_isRing_45 : decode cX7_isRing 45 = .ok (.invokevirtual 281, 3) := by decide +kernel
theorem dX7_isRing_48 : decode cX7_isRing 48 = .ok (.ifCond .eq 18, 3) := by decide +kernel
theorem dX7_isRing_51 : decode cX7_isRing 51 = .ok (.aload_n 0, 1) := by decide +kernel
theorem dX7_isRing_52 : decode cX7_isRing 52 = .ok (.iload_n 1, 1) := by decide +kernel
theorem dX7_isRing_53 : decode cX7_isRing 53 = .ok (.iload 4, 2) := by decide +kernel
theorem dX7_isRing_55 : decode cX7_isRing 55 = .ok (.iload_n 2, 1) := by decide +kernel
theorem dX7_isRing_56 : decode cX7_isRing 56 = .ok (.invokevirtual 281, 3) := by decide +kernel
theorem dX7_isRing_59 : decode cX7_isRing 59 = .ok (.ifCond .eq 7, 3) := by decide +kernel
theorem dX7_isRing_62 : decode cX7_isRing 62 = .ok (.iconst 1, 1) := by decide +kernel
theorem dX7_isRing_63 : decode cX7_isRing 63 = .ok (.goto 4, 3) := by decide +kernel
theorem dX7_isRing_66 : decode cX7_isRing 66 = .ok (.iconst 0, 1) := by decide +kernel
theorem dX7_isRing_67 : decode cX7_isRing 67 = .ok (.istore 5, 2) := by decide +kernel
theorem dX7_isRing_69 : decode cX7_isRing 69 = .ok (.iload 5, 2) := by decide +kernel
theorem dX7_isRing_71 : decode cX7_isRing 71 = .ok (.ifCond .eq 19, 3) := by decide +kernel
theorem dX7_isRing_74 : decode cX7_isRing 74 = .ok (.aload_n 0, 1) := by decide +kernel
theorem dX7_isRing_75 : decode cX7_isRing 75 = .ok (.getfield 274, 3) := by decide +kernel
theorem dX7_isRing_78 : decode cX7_isRing 78 = .ok (.aload_n 0, 1) := by decide +kernel
theorem dX7_isRing_79 : decode cX7_isRing 79 = .ok (.getfield 278, 3) := by decide +kernel
theorem dX7_isRing_82 : decode cX7_isRing 82 = .ok (.lcmp, 1) := by decide +kernel
theorem dX7_isRing_83 : decode cX7_isRing 83 = .ok (.ifCond .ge 7, 3) := by decide +kernel
theorem dX7_isRing_86 : decode cX7_isRing 86 = .ok (.iconst 1, 1) := by decide +kernel
theorem dX7_isRing_87 : decode cX7_isRing 87 = .ok (.goto 4, 3) := by decide +kernel
theorem dX7_isRing_90 : decode cX7_isRing 90 = .ok (.iconst 0, 1) := by decide +kernel
theorem dX7_isRing_91 : decode cX7_isRing 91 = .ok (.ireturn, 1) := by decide +kernel
theorem dX7_more_0 : decode cX7_more 0 = .ok (.aload_n 0, 1) := by decide +kernel
theorem dX7_more_1 : decode cX7_more 1 = .ok (.iconst 0, 1) := by decide +kernel
theorem dX7_more_2 : decode cX7_more 2 = .ok (.putfield 62, 3) := by decide +kernel
theorem dX7_more_5 : decode cX7_more 5 = .ok (.iload_n 1, 1) := by decide +kernel
theorem dX7_more_6 : decode cX7_more 6 = .ok (.invokestatic 77, 3) := by decide +kernel
theorem dX7_more_9 : decode cX7_more 9 = .ok (.ifCond .ne 7, 3) := by decide +kernel
theorem dX7_more_12 : decode cX7_more 12 = .ok (.ldc2_w 83, 3) := by decide +kernel
theorem dX7_more_15 : decode cX7_more 15 = .ok (.lreturn, 1) := by decide +kernel
theorem dX7_more_16 : decode cX7_more 16 = .ok (.aload_n 0, 1) := by decide +kernel
theorem dX7_more_17 : decode cX7_more 17 = .ok (.getfield 176, 3) := by decide +kernel
theorem dX7_more_20 : decode cX7_more 20 = .ok (.ifCond .ne 7, 3) := by decide +kernel
theorem dX7_more_23 : decode cX7_more 23 = .ok (.ldc2_w 261, 3) := by decide +kernel
theorem dX7_more_26 : decode cX7_more 26 = .ok (.lreturn, 1) := by decide +kernel
theorem dX7_more_27 : decode cX7_more 27 = .ok (.aload_n 0, 1) := by decide +kernel
theorem dX7_more_28 : decode cX7_more 28 = .ok (.iload_n 1, 1) := by decide +kernel
theorem dX7_more_29 : decode cX7_more 29 = .ok (.iload_n 2, 1) := by decide +kernel
theorem dX7_more_30 : decode cX7_more 30 = .ok (.aload_n 0, 1) := by decide +kernel
theorem dX7_more_31 : decode cX7_more 31 = .ok (.getfield 179, 3) := by decide +kernel
theorem dX7_more_34 : decode cX7_more 34 = .ok (.invokevirtual 263, 3) := by decide +kernel
theorem dX7_more_37 : decode cX7_more 37 = .ok (.lstore_n 3, 1) := by decide +kernel
theorem dX7_more_38 : decode cX7_more 38 = .ok (.lload_n 3, 1) := by decide +kernel
theorem dX7_more_39 : decode cX7_more 39 = .ok (.lconst 0, 1) := by decide +kernel
theorem dX7_more_40 : decode cX7_more 40 = .ok (.lcmp, 1) := by decide +kernel
theorem dX7_more_41 : decode cX7_more 41 = .ok (.ifCond .ge 5, 3) := by decide +kernel
theorem dX7_more_44 : decode cX7_more 44 = .ok (.lload_n 3, 1) := by decide +kernel
theorem dX7_more_45 : decode cX7_more 45 = .ok (.lreturn, 1) := by decide +kernel
theorem dX7_more_46 : decode cX7_more 46 = .ok (.bipush 40, 2) := by decide +kernel
theorem dX7_more_48 : decode cX7_more 48 = .ok (.iload_n 1, 1) := by decide +kernel
theorem dX7_more_49 : decode cX7_more 49 = .ok (.imul, 1) := by decide +kernel
theorem dX7_more_50 : decode cX7_more 50 = .ok (.iload_n 2, 1) := by decide +kernel
theorem dX7_more_51 : decode cX7_more 51 = .ok (.iadd, 1) := by decide +kernel
theorem dX7_more_52 : decode cX7_more 52 = .ok (.istore 5, 2) := by decide +kernel
theorem dX7_more_54 : decode cX7_more 54 = .ok (.iconst 0, 1) := by decide +kernel
theorem dX7_more_55 : decode cX7_more 55 = .ok (.istore 6, 2) := by decide +kernel
theorem dX7_more_57 : decode cX7_more 57 = .ok (.iload 6, 2) := by decide +kernel
theorem dX7_more_59 : decode cX7_more 59 = .ok (.aload_n 0, 1) := by decide +kernel
theorem dX7_more_60 : decode cX7_more 60 = .ok (.getfield 179, 3) := by decide +kernel
theorem dX7_more_63 : decode cX7_more 63 = .ok (.if_icmp .ge 36, 3) := by decide +kernel
theorem dX7_more_66 : decode cX7_more 66 = .ok (.aload_n 0, 1) := by decide +kernel
theorem dX7_more_67 : decode cX7_more 67 = .ok (.getfield 16, 3) := by decide +kernel
theorem dX7_more_70 : decode cX7_more 70 = .ok (.iload 5, 2) := by decide +kernel
theorem dX7_more_72 : decode cX7_more 72 = .ok (.iload 6, 2) := by decide +kernel
theorem dX7_more_74 : decode cX7_more 74 = .ok (.iadd, 1) := by decide +kernel
theorem dX7_more_75 : decode cX7_more 75 = .ok (.iaload, 1) := by decide +kernel
theorem dX7_more_76 : decode cX7_more 76 = .ok (.i2l, 1) := by decide +kernel
theorem dX7_more_77 : decode cX7_more 77 = .ok (.lconst 1, 1) := by decide +kernel
theorem dX7_more_78 : decode cX7_more 78 = .ok (.aload_n 0, 1) := by decide +kernel
theorem dX7_more_79 : decode cX7_more 79 = .ok (.invokevirtual 244, 3) := by decide +kernel
theorem dX7_more_82 : decode cX7_more 82 = .ok (.i2l, 1) := by decide +kernel
theorem dX7_more_83 : decode cX7_more 83 = .ok (.invokestatic 73, 3) := by decide +kernel
theorem dX7_more_86 : decode cX7_more 86 = .ok (.ifCond .ne 7, 3) := by decide +kernel
theorem dX7_more_89 : decode cX7_more 89 = .ok (.ldc2_w 83, 3) := by decide +kernel
theorem dX7_more_92 : decode cX7_more 92 = .ok (.lreturn, 1) := by decide +kernel
theorem dX7_more_93 : decode cX7_more 93 = .ok (.iinc 6 1, 3) := by decide +kernel
theorem dX7_more_96 : decode cX7_more 96 = .ok (.goto (-39), 3) := by decide +kernel
theorem dX7_more_99 : decode cX7_more 99 = .ok (.aload_n 0, 1) := by decide +kernel
theorem dX7_more_100 : decode cX7_more 100 = .ok (.iconst 0, 1) := by decide +kernel
theorem dX7_more_101 : decode cX7_more 101 = .ok (.putfield 66, 3) := by decide +kernel
theorem dX7_more_104 : decode cX7_more 104 = .ok (.iconst 1, 1) := by decide +kernel
theorem dX7_more_105 : decode cX7_more 105 = .ok (.istore 6, 2) := by decide +kernel
theorem dX7_more_107 : decode cX7_more 107 = .ok (.iload 6, 2) := by decide +kernel
theorem dX7_more_109 : decode cX7_more 109 = .ok (.aload_n 0, 1) := by decide +kernel
theorem dX7_more_110 : decode cX7_more 110 = .ok (.getfield 176, 3) := by decide +kernel
theorem dX7_more_113 : decode cX7_more 113 = .ok (.if_icmp .ge 54, 3) := by decide +kernel
theorem dX7_more_116 : decode cX7_more 116 = .ok (.iconst 0, 1) := by decide +kernel
theorem dX7_more_117 : decode cX7_more 117 = .ok (.istore 7, 2) := by decide +kernel
theorem dX7_more_119 : decode cX7_more 119 = .ok (.iload 7, 2) := by decide +kernel
theorem dX7_more_121 : decode cX7_more 121 = .ok (.iload 6, 2) := by decide +kernel
theorem dX7_more_123 : decode cX7_more 123 = .ok (.if_icmp .ge 38, 3) := by decide +kernel
theorem dX7_more_126 : decode cX7_more 126 = .ok (.aload_n 0, 1) := by decide +kernel
theorem dX7_more_127 : decode cX7_more 127 = .ok (.iload 5, 2) := by decide +kernel
theorem dX7_more_129 : decode cX7_more 129 = .ok (.iload 7, 2) := by decide +kernel
theorem dX7_more_131 : decode cX7_more 131 = .ok (.iload 6, 2) := by decide +kernel
theorem dX7_more_133 : decode cX7_more 133 = .ok (.ldc 101, 2) := by decide +kernel
theorem dX7_more_135 : decode cX7_more 135 = .ok (.invokevirtual 284, 3) := by decide +kernel
theorem dX7_more_138 : decode cX7_more 138 = .ok (.ifCond .eq 17, 3) := by decide +kernel
theorem dX7_more_141 : decode cX7_more 141 = .ok (.iload 7, 2) := by decide +kernel
theorem dX7_more_143 : decode cX7_more 143 = .ok (.iconst 1, 1) := by decide +kernel
theorem dX7_more_144 : decode cX7_more 144 = .ok (.iadd, 1) := by decide +kernel
theorem dX7_more_145 : decode cX7_more 145 = .ok (.bipush 8, 2) := by decide +kernel
theorem dX7_more_147 : decode cX7_more 147 = .ok (.iload 6, 2) := by decide +kernel
theorem dX7_more_149 : decode cX7_more 149 = .ok (.iconst 1, 1) := by decide +kernel
theorem dX7_more_150 : decode cX7_more 150 = .ok (.iadd, 1) := by decide +kernel
theorem dX7_more_151 : decode cX7_more 151 = .ok (.imul, 1) := by decide +kernel
theorem dX7_more_152 : decode cX7_more 152 = .ok (.iadd, 1) := by decide +kernel
theorem dX7_more_153 : decode cX7_more 153 = .ok (.i2l, 1) := by decide +kernel
theorem dX7_more_154 : decode cX7_more 154 = .ok (.lreturn, 1) := by decide +kernel
theorem dX7_more_155 : decode cX7_more 155 = .ok (.iinc 7 1, 3) := by decide +kernel
theorem dX7_more_158 : decode cX7_more 158 = .ok (.goto (-39), 3) := by decide +kernel
theorem dX7_more_161 : decode cX7_more 161 = .ok (.iinc 6 1, 3) := by decide +kernel
theorem dX7_more_164 : decode cX7_more 164 = .ok (.goto (-57), 3) := by decide +kernel
theorem dX7_more_167 : decode cX7_more 167 = .ok (.aload_n 0, 1) := by decide +kernel
theorem dX7_more_168 : decode cX7_more 168 = .ok (.getfield 176, 3) := by decide +kernel
theorem dX7_more_171 : decode cX7_more 171 = .ok (.iconst 3, 1) := by decide +kernel
theorem dX7_more_172 : decode cX7_more 172 = .ok (.if_icmp .ne 19, 3) := by decide +kernel
theorem dX7_more_175 : decode cX7_more 175 = .ok (.aload_n 0, 1) := by decide +kernel
theorem dX7_more_176 : decode cX7_more 176 = .ok (.iload 5, 2) := by decide +kernel
theorem dX7_more_178 : decode cX7_more 178 = .ok (.iconst 0, 1) := by decide +kernel
theorem dX7_more_179 : decode cX7_more 179 = .ok (.iconst 2, 1) := by decide +kernel
theorem dX7_more_180 : decode cX7_more 180 = .ok (.iconst 1, 1) := by decide +kernel
theorem dX7_more_181 : decode cX7_more 181 = .ok (.invokevirtual 284, 3) := by decide +kernel
theorem dX7_more_184 : decode cX7_more 184 = .ok (.ifCond .eq 7, 3) := by decide +kernel
theorem dX7_more_187 : decode cX7_more 187 = .ok (.ldc2_w 287, 3) := by decide +kernel
theorem dX7_more_190 : decode cX7_more 190 = .ok (.lreturn, 1) := by decide +kernel
theorem dX7_more_191 : decode cX7_more 191 = .ok (.aload_n 0, 1) := by decide +kernel
theorem dX7_more_192 : decode cX7_more 192 = .ok (.getfield 176, 3) := by decide +kernel
theorem dX7_more_195 : decode cX7_more 195 = .ok (.iconst 3, 1) := by decide +kernel
theorem dX7_more_196 : decode cX7_more 196 = .ok (.if_icmp .ne 21, 3) := by decide +kernel
theorem dX7_more_199 : decode cX7_more 199 = .ok (.aload_n 0, 1) := by decide +kernel
theorem dX7_more_200 : decode cX7_more 200 = .ok (.iload 5, 2) := by decide +kernel
theorem dX7_more_202 : decode cX7_more 202 = .ok (.iconst 0, 1) := by decide +kernel
theorem dX7_more_203 : decode cX7_more 203 = .ok (.iconst 1, 1) := by decide +kernel
theorem dX7_more_204 : decode cX7_more 204 = .ok (.iconst 2, 1) := by decide +kernel
theorem dX7_more_205 : decode cX7_more 205 = .ok (.invokevirtual 284, 3) := by decide +kernel
theorem dX7_more_208 : decode cX7_more 208 = .ok (.ifCond .eq 9, 3) := by decide +kernel
theorem dX7_more_211 : decode cX7_more 211 = .ok (.ldc2_w 289, 3) := by decide +kernel
theorem dX7_more_214 : decode cX7_more 214 = .ok (.goto 4, 3) := by decide +kernel
theorem dX7_more_217 : decode cX7_more 217 = .ok (.lconst 0, 1) := by decide +kernel
theorem dX7_more_218 : decode cX7_more 218 = .ok (.lreturn, 1) := by decide +kernel
theorem dX7_stays_0 : decode cX7_stays 0 = .ok (.aload_n 0, 1) := by decide +kernel
theorem dX7_stays_1 : decode cX7_stays 1 = .ok (.iconst 0, 1) := by decide +kernel
theorem dX7_stays_2 : decode cX7_stays 2 = .ok (.putfield 62, 3) := by decide +kernel
theorem dX7_stays_5 : decode cX7_stays 5 = .ok (.aload_n 0, 1) := by decide +kernel
theorem dX7_stays_6 : decode cX7_stays 6 = .ok (.iload_n 1, 1) := by decide +kernel
theorem dX7_stays_7 : decode cX7_stays 7 = .ok (.invokevirtual 189, 3) := by decide +kernel
theorem dX7_stays_10 : decode cX7_stays 10 = .ok (.ifCond .eq 23, 3) := by decide +kernel
theorem dX7_stays_13 : decode cX7_stays 13 = .ok (.aload_n 0, 1) := by decide +kernel
theorem dX7_stays_14 : decode cX7_stays 14 = .ok (.iload_n 2, 1) := by decide +kernel
theorem dX7_stays_15 : decode cX7_stays 15 = .ok (.invokevirtual 192, 3) := by decide +kernel
theorem dX7_stays_18 : decode cX7_stays 18 = .ok (.ifCond .eq 15, 3) := by decide +kernel
theorem dX7_stays_21 : decode cX7_stays 21 = .ok (.iload_n 3, 1) := by decide +kernel
theorem dX7_stays_22 : decode cX7_stays 22 = .ok (.i2l, 1) := by decide +kernel
theorem dX7_stays_23 : decode cX7_stays 23 = .ok (.lconst 0, 1) := by decide +kernel
theorem dX7_stays_24 : decode cX7_stays 24 = .ok (.ldc2_w 291, 3) := by decide +kernel
theorem dX7_stays_27 : decode cX7_stays 27 = .ok (.invokestatic 73, 3) := by decide +kernel
theorem dX7_stays_30 : decode cX7_stays 30 = .ok (.ifCond .ne 7, 3) := by decide +kernel
theorem dX7_stays_33 : decode cX7_stays 33 = .ok (.ldc2_w 83, 3) := by decide +kernel
theorem dX7_stays_36 : decode cX7_stays 36 = .ok (.lreturn, 1) := by decide +kernel
theorem dX7_stays_37 : decode cX7_stays 37 = .ok (.aload_n 0, 1) := by decide +kernel
theorem dX7_stays_38 : decode cX7_stays 38 = .ok (.invokevirtual 254, 3) := by decide +kernel
theorem dX7_stays_41 : decode cX7_stays 41 = .ok (.ldc2_w 293, 3) := by decide +kernel
theorem dX7_stays_44 : decode cX7_stays 44 = .ok (.aload_n 0, 1) := by decide +kernel
theorem dX7_stays_45 : decode cX7_stays 45 = .ok (.iload_n 1, 1) := by decide +kernel
theorem dX7_stays_46 : decode cX7_stays 46 = .ok (.iload_n 2, 1) := by decide +kernel
theorem dX7_stays_47 : decode cX7_stays 47 = .ok (.invokevirtual 201, 3) := by decide +kernel
theorem dX7_stays_50 : decode cX7_stays 50 = .ok (.lmul, 1) := by decide +kernel
theorem dX7_stays_51 : decode cX7_stays 51 = .ok (.ldc2_w 293, 3) := by decide +kernel
theorem dX7_stays_54 : decode cX7_stays 54 = .ok (.iload_n 3, 1) := by decide +kernel
theorem dX7_stays_55 : decode cX7_stays 55 = .ok (.i2l, 1) := by decide +kernel
theorem dX7_stays_56 : decode cX7_stays 56 = .ok (.ladd, 1) := by decide +kernel
theorem dX7_stays_57 : decode cX7_stays 57 = .ok (.aload_n 0, 1) := by decide +kernel
theorem dX7_stays_58 : decode cX7_stays 58 = .ok (.aload_n 0, 1) := by decide +kernel
theorem dX7_stays_59 : decode cX7_stays 59 = .ok (.invokevirtual 244, 3) := by decide +kernel
theorem dX7_stays_62 : decode cX7_stays 62 = .ok (.iload_n 2, 1) := by decide +kernel
theorem dX7_stays_63 : decode cX7_stays 63 = .ok (.invokevirtual 205, 3) := by decide +kernel
theorem dX7_stays_66 : decode cX7_stays 66 = .ok (.lmul, 1) := by decide +kernel
theorem dX7_stays_67 : decode cX7_stays 67 = .ok (.lcmp, 1) := by decide +kernel
theorem dX7_stays_68 : decode cX7_stays 68 = .ok (.ifCond .gt 7, 3) := by decide +kernel
theorem dX7_stays_71 : decode cX7_stays 71 = .ok (.lconst 1, 1) := by decide +kernel
theorem dX7_stays_72 : decode cX7_stays 72 = .ok (.goto 4, 3) := by decide +kernel
theorem dX7_stays_75 : decode cX7_stays 75 = .ok (.lconst 0, 1) := by decide +kernel
theorem dX7_stays_76 : decode cX7_stays 76 = .ok (.lreturn, 1) := by decide +kernel
theorem dX7_note_0 : decode cX7_note 0 = .ok (.aload_n 0, 1) := by decide +kernel
theorem dX7_note_1 : decode cX7_note 1 = .ok (.invokevirtual 254, 3) := by decide +kernel
theorem dX7_note_4 : decode cX7_note 4 = .ok (.iconst 0, 1) := by decide +kernel
theorem dX7_note_5 : decode cX7_note 5 = .ok (.istore_n 1, 1) := by decide +kernel
theorem dX7_note_6 : decode cX7_note 6 = .ok (.iload_n 1, 1) := by decide +kernel
theorem dX7_note_7 : decode cX7_note 7 = .ok (.aload_n 0, 1) := by decide +kernel
theorem dX7_note_8 : decode cX7_note 8 = .ok (.getfield 176, 3) := by decide +kernel
theorem dX7_note_11 : decode cX7_note 11 = .ok (.if_icmp .ge 79, 3) := by decide +kernel
theorem dX7_note_14 : decode cX7_note 14 = .ok (.iconst 0, 1) := by decide +kernel
theorem dX7_note_15 : decode cX7_note 15 = .ok (.istore_n 2, 1) := by decide +kernel
theorem dX7_note_16 : decode cX7_note 16 = .ok (.iload_n 2, 1) := by decide +kernel
theorem dX7_note_17 : decode cX7_note 17 = .ok (.aload_n 0, 1) := by decide +kernel
theorem dX7_note_18 : decode cX7_note 18 = .ok (.getfield 179, 3) := by decide +kernel
theorem dX7_note_21 : decode cX7_note 21 = .ok (.if_icmp .ge 63, 3) := by decide +kernel
theorem dX7_note_24 : decode cX7_note 24 = .ok (.aload_n 0, 1) := by decide +kernel
theorem dX7_note_25 : decode cX7_note 25 = .ok (.aload_n 0, 1) := by decide +kernel
theorem dX7_note_26 : decode cX7_note 26 = .ok (.invokevirtual 244, 3) := by decide +kernel
theorem dX7_note_29 : decode cX7_note 29 = .ok (.iload_n 2, 1) := by decide +kernel
theorem dX7_note_30 : decode cX7_note 30 = .ok (.invokevirtual 205, 3) := by decide +kernel
theorem dX7_note_33 : decode cX7_note 33 = .ok (.lstore_n 3, 1) := by decide +kernel
theorem dX7_note_34 : decode cX7_note 34 = .ok (.aload_n 0, 1) := by decide +kernel
theorem dX7_note_35 : decode cX7_note 35 = .ok (.getfield 53, 3) := by decide +kernel
theorem dX7_note_38 : decode cX7_note 38 = .ok (.bipush 6, 2) := by decide +kernel
theorem dX7_note_40 : decode cX7_note 40 = .ok (.iload_n 1, 1) := by decide +kernel
theorem dX7_note_41 : decode cX7_note 41 = .ok (.imul, 1) := by decide +kernel
theorem dX7_note_42 : decode cX7_note 42 = .ok (.iload_n 2, 1) := by decide +kernel
theorem dX7_note_43 : decode cX7_note 43 = .ok (.iadd, 1) := by decide +kernel
theorem dX7_note_44 : decode cX7_note 44 = .ok (.aload_n 0, 1) := by decide +kernel
theorem dX7_note_45 : decode cX7_note 45 = .ok (.getfield 40, 3) := by decide +kernel
theorem dX7_note_48 : decode cX7_note 48 = .ok (.iload_n 1, 1) := by decide +kernel
theorem dX7_note_49 : decode cX7_note 49 = .ok (.laload, 1) := by decide +kernel
theorem dX7_note_50 : decode cX7_note 50 = .ok (.lload_n 3, 1) := by decide +kernel
theorem dX7_note_51 : decode cX7_note 51 = .ok (.iconst 0, 1) := by decide +kernel
theorem dX7_note_52 : decode cX7_note 52 = .ok (.invokestatic 257, 3) := by decide +kernel
theorem dX7_note_55 : decode cX7_note 55 = .ok (.lastore, 1) := by decide +kernel
theorem dX7_note_56 : decode cX7_note 56 = .ok (.aload_n 0, 1) := by decide +kernel
theorem dX7_note_57 : decode cX7_note 57 = .ok (.getfield 56, 3) := by decide +kernel
theorem dX7_note_60 : decode cX7_note 60 = .ok (.bipush 6, 2) := by decide +kernel
theorem dX7_note_62 : decode cX7_note 62 = .ok (.iload_n 1, 1) := by decide +kernel
theorem dX7_note_63 : decode cX7_note 63 = .ok (.imul, 1) := by decide +kernel
theorem dX7_note_64 : decode cX7_note 64 = .ok (.iload_n 2, 1) := by decide +kernel
theorem dX7_note_65 : decode cX7_note 65 = .ok (.iadd, 1) := by decide +kernel
theorem dX7_note_66 : decode cX7_note 66 = .ok (.aload_n 0, 1) := by decide +kernel
theorem dX7_note_67 : decode cX7_note 67 = .ok (.getfield 40, 3) := by decide +kernel
theorem dX7_note_70 : decode cX7_note 70 = .ok (.iload_n 1, 1) := by decide +kernel
theorem dX7_note_71 : decode cX7_note 71 = .ok (.laload, 1) := by decide +kernel
theorem dX7_note_72 : decode cX7_note 72 = .ok (.lload_n 3, 1) := by decide +kernel
theorem dX7_note_73 : decode cX7_note 73 = .ok (.iconst 1, 1) := by decide +kernel
theorem dX7_note_74 : decode cX7_note 74 = .ok (.invokestatic 257, 3) := by decide +kernel
theorem dX7_note_77 : decode cX7_note 77 = .ok (.lastore, 1) := by decide +kernel
theorem dX7_note_78 : decode cX7_note 78 = .ok (.iinc 2 1, 3) := by decide +kernel
theorem dX7_note_81 : decode cX7_note 81 = .ok (.goto (-65), 3) := by decide +kernel
theorem dX7_note_84 : decode cX7_note 84 = .ok (.iinc 1 1, 3) := by decide +kernel
theorem dX7_note_87 : decode cX7_note 87 = .ok (.goto (-81), 3) := by decide +kernel
theorem dX7_note_90 : decode cX7_note 90 = .ok (.aload_n 0, 1) := by decide +kernel
theorem dX7_note_91 : decode cX7_note 91 = .ok (.iconst 1, 1) := by decide +kernel
theorem dX7_note_92 : decode cX7_note 92 = .ok (.putfield 182, 3) := by decide +kernel
theorem dX7_note_95 : decode cX7_note 95 = .ok (.return_, 1) := by decide +kernel
theorem dX7_learn_0 : decode cX7_learn 0 = .ok (.aload_n 0, 1) := by decide +kernel
theorem dX7_learn_1 : decode cX7_learn 1 = .ok (.iconst 0, 1) := by decide +kernel
theorem dX7_learn_2 : decode cX7_learn 2 = .ok (.putfield 62, 3) := by decide +kernel
theorem dX7_learn_5 : decode cX7_learn 5 = .ok (.aload_n 0, 1) := by decide +kernel
theorem dX7_learn_6 : decode cX7_learn 6 = .ok (.iload_n 1, 1) := by decide +kernel
theorem dX7_learn_7 : decode cX7_learn 7 = .ok (.invokevirtual 189, 3) := by decide +kernel
theorem dX7_learn_10 : decode cX7_learn 10 = .ok (.ifCond .eq 24, 3) := by decide +kernel
theorem dX7_learn_13 : decode cX7_learn 13 = .ok (.aload_n 0, 1) := by decide +kernel
theorem dX7_learn_14 : decode cX7_learn 14 = .ok (.iload_n 2, 1) := by decide +kernel
theorem dX7_learn_15 : decode cX7_learn 15 = .ok (.invokevirtual 189, 3) := by decide +kernel
theorem dX7_learn_18 : decode cX7_learn 18 = .ok (.ifCond .eq 16, 3) := by decide +kernel
theorem dX7_learn_21 : decode cX7_learn 21 = .ok (.iload_n 1, 1) := by decide +kernel
theorem dX7_learn_22 : decode cX7_learn 22 = .ok (.iload_n 2, 1) := by decide +kernel
theorem dX7_learn_23 : decode cX7_learn 23 = .ok (.if_icmp .eq 11, 3) := by decide +kernel
theorem dX7_learn_26 : decode cX7_learn 26 = .ok (.aload_n 0, 1) := by decide +kernel
theorem dX7_learn_27 : decode cX7_learn 27 = .ok (.iload_n 3, 1) := by decide +kernel
theorem dX7_learn_28 : decode cX7_learn 28 = .ok (.invokevirtual 192, 3) := by decide +kernel
theorem dX7_learn_31 : decode cX7_learn 31 = .ok (.ifCond .ne 7, 3) := by decide +kernel
theorem dX7_learn_34 : decode cX7_learn 34 = .ok (.ldc2_w 83, 3) := by decide +kernel
theorem dX7_learn_37 : decode cX7_learn 37 = .ok (.lreturn, 1) := by decide +kernel
theorem dX7_learn_38 : decode cX7_learn 38 = .ok (.aload_n 0, 1) := by decide +kernel
theorem dX7_learn_39 : decode cX7_learn 39 = .ok (.invokevirtual 295, 3) := by decide +kernel
theorem dX7_learn_42 : decode cX7_learn 42 = .ok (.aload_n 0, 1) := by decide +kernel
theorem dX7_learn_43 : decode cX7_learn 43 = .ok (.getfield 25, 3) := by decide +kernel
theorem dX7_learn_46 : decode cX7_learn 46 = .ok (.bipush 6, 2) := by decide +kernel
theorem dX7_learn_48 : decode cX7_learn 48 = .ok (.iload_n 1, 1) := by decide +kernel
theorem dX7_learn_49 : decode cX7_learn 49 = .ok (.imul, 1) := by decide +kernel
theorem dX7_learn_50 : decode cX7_learn 50 = .ok (.iload_n 3, 1) := by decide +kernel
theorem dX7_learn_51 : decode cX7_learn 51 = .ok (.iadd, 1) := by decide +kernel
theorem dX7_learn_52 : decode cX7_learn 52 = .ok (.iaload, 1) := by decide +kernel
theorem dX7_learn_53 : decode cX7_learn 53 = .ok (.aload_n 0, 1) := by decide +kernel
theorem dX7_learn_54 : decode cX7_learn 54 = .ok (.getfield 25, 3) := by decide +kernel
theorem dX7_learn_57 : decode cX7_learn 57 = .ok (.bipush 6, 2) := by decide +kernel
theorem dX7_learn_59 : decode cX7_learn 59 = .ok (.iload_n 2, 1) := by decide +kernel
theorem dX7_learn_60 : decode cX7_learn 60 = .ok (.imul, 1) := by decide +kernel
theorem dX7_learn_61 : decode cX7_learn 61 = .ok (.iload_n 3, 1) := by decide +kernel
theorem dX7_learn_62 : decode cX7_learn 62 = .ok (.iadd, 1) := by decide +kernel
theorem dX7_learn_63 : decode cX7_learn 63 = .ok (.iaload, 1) := by decide +kernel
theorem dX7_learn_64 : decode cX7_learn 64 = .ok (.isub, 1) := by decide +kernel
theorem dX7_learn_65 : decode cX7_learn 65 = .ok (.istore 4, 2) := by decide +kernel
theorem dX7_learn_67 : decode cX7_learn 67 = .ok (.iload 4, 2) := by decide +kernel
theorem dX7_learn_69 : decode cX7_learn 69 = .ok (.ifCond .ge 7, 3) := by decide +kernel
theorem dX7_learn_72 : decode cX7_learn 72 = .ok (.iconst 0, 1) := by decide +kernel
theorem dX7_learn_73 : decode cX7_learn 73 = .ok (.goto 5, 3) := by decide +kernel
theorem dX7_learn_76 : decode cX7_learn 76 = .ok (.iload 4, 2) := by decide +kernel
theorem dX7_learn_78 : decode cX7_learn 78 = .ok (.istore 4, 2) := by decide +kernel
theorem dX7_learn_80 : decode cX7_learn 80 = .ok (.aload_n 0, 1) := by decide +kernel
theorem dX7_learn_81 : decode cX7_learn 81 = .ok (.getfield 25, 3) := by decide +kernel
theorem dX7_learn_84 : decode cX7_learn 84 = .ok (.bipush 6, 2) := by decide +kernel
theorem dX7_learn_86 : decode cX7_learn 86 = .ok (.iload_n 1, 1) := by decide +kernel
theorem dX7_learn_87 : decode cX7_learn 87 = .ok (.imul, 1) := by decide +kernel
theorem dX7_learn_88 : decode cX7_learn 88 = .ok (.iload_n 3, 1) := by decide +kernel
theorem dX7_learn_89 : decode cX7_learn 89 = .ok (.iadd, 1) := by decide +kernel
theorem dX7_learn_90 : decode cX7_learn 90 = .ok (.dup2, 1) := by decide +kernel
theorem dX7_learn_91 : decode cX7_learn 91 = .ok (.iaload, 1) := by decide +kernel
theorem dX7_learn_92 : decode cX7_learn 92 = .ok (.iload 4, 2) := by decide +kernel
theorem dX7_learn_94 : decode cX7_learn 94 = .ok (.isub, 1) := by decide +kernel
theorem dX7_learn_95 : decode cX7_learn 95 = .ok (.iastore, 1) := by decide +kernel
theorem dX7_learn_96 : decode cX7_learn 96 = .ok (.aload_n 0, 1) := by decide +kernel
theorem dX7_learn_97 : decode cX7_learn 97 = .ok (.iconst 0, 1) := by decide +kernel
theorem dX7_learn_98 : decode cX7_learn 98 = .ok (.putfield 186, 3) := by decide +kernel
theorem dX7_learn_101 : decode cX7_learn 101 = .ok (.iload 4, 2) := by decide +kernel
theorem dX7_learn_103 : decode cX7_learn 103 = .ok (.i2l, 1) := by decide +kernel
theorem dX7_learn_104 : decode cX7_learn 104 = .ok (.lreturn, 1) := by decide +kernel
theorem dX7_on_0 : decode cX7_on 0 = .ok (.aload_n 0, 1) := by decide +kernel
theorem dX7_on_1 : decode cX7_on 1 = .ok (.iconst 0, 1) := by decide +kernel
theorem dX7_on_2 : decode cX7_on 2 = .ok (.putfield 62, 3) := by decide +kernel
theorem dX7_on_5 : decode cX7_on 5 = .ok (.aload_n 0, 1) := by decide +kernel
theorem dX7_on_6 : decode cX7_on 6 = .ok (.iload_n 1, 1) := by decide +kernel
theorem dX7_on_7 : decode cX7_on 7 = .ok (.invokevirtual 189, 3) := by decide +kernel
theorem dX7_on_10 : decode cX7_on 10 = .ok (.ifCond .ne 7, 3) := by decide +kernel
theorem dX7_on_13 : decode cX7_on 13 = .ok (.ldc2_w 83, 3) := by decide +kernel
theorem dX7_on_16 : decode cX7_on 16 = .ok (.lreturn, 1) := by decide +kernel
theorem dX7_on_17 : decode cX7_on 17 = .ok (.aload_n 0, 1) := by decide +kernel
theorem dX7_on_18 : decode cX7_on 18 = .ok (.getfield 182, 3) := by decide +kernel
theorem dX7_on_21 : decode cX7_on 21 = .ok (.ifCond .ne 7, 3) := by decide +kernel
theorem dX7_on_24 : decode cX7_on 24 = .ok (.ldc2_w 261, 3) := by decide +kernel
theorem dX7_on_27 : decode cX7_on 27 = .ok (.lreturn, 1) := by decide +kernel
theorem dX7_on_28 : decode cX7_on 28 = .ok (.aload_n 0, 1) := by decide +kernel
theorem dX7_on_29 : decode cX7_on 29 = .ok (.invokevirtual 254, 3) := by decide +kernel
theorem dX7_on_32 : decode cX7_on 32 = .ok (.iconst 0, 1) := by decide +kernel
theorem dX7_on_33 : decode cX7_on 33 = .ok (.istore_n 2, 1) := by decide +kernel
theorem dX7_on_34 : decode cX7_on 34 = .ok (.iconst 0, 1) := by decide +kernel
theorem dX7_on_35 : decode cX7_on 35 = .ok (.istore_n 3, 1) := by decide +kernel
theorem dX7_on_36 : decode cX7_on 36 = .ok (.iconst 0, 1) := by decide +kernel
theorem dX7_on_37 : decode cX7_on 37 = .ok (.istore 4, 2) := by decide +kernel
theorem dX7_on_39 : decode cX7_on 39 = .ok (.iload 4, 2) := by decide +kernel
theorem dX7_on_41 : decode cX7_on 41 = .ok (.aload_n 0, 1) := by decide +kernel
theorem dX7_on_42 : decode cX7_on 42 = .ok (.getfield 179, 3) := by decide +kernel
theorem dX7_on_45 : decode cX7_on 45 = .ok (.if_icmp .ge 111, 3) := by decide +kernel
theorem dX7_on_48 : decode cX7_on 48 = .ok (.aload_n 0, 1) := by decide +kernel
theorem dX7_on_49 : decode cX7_on 49 = .ok (.aload_n 0, 1) := by decide +kernel
theorem dX7_on_50 : decode cX7_on 50 = .ok (.invokevirtual 244, 3) := by decide +kernel
theorem dX7_on_53 : decode cX7_on 53 = .ok (.iload 4, 2) := by decide +kernel
theorem dX7_on_55 : decode cX7_on 55 = .ok (.invokevirtual 205, 3) := by decide +kernel
theorem dX7_on_58 : decode cX7_on 58 = .ok (.lstore 5, 2) := by decide +kernel
theorem dX7_on_60 : decode cX7_on 60 = .ok (.aload_n 0, 1) := by decide +kernel
theorem dX7_on_61 : decode cX7_on 61 = .ok (.getfield 40, 3) := by decide +kernel
theorem dX7_on_64 : decode cX7_on 64 = .ok (.iload_n 1, 1) := by decide +kernel
theorem dX7_on_65 : decode cX7_on 65 = .ok (.laload, 1) := by decide +kernel
theorem dX7_on_66 : decode cX7_on 66 = .ok (.lload 5, 2) := by decide +kernel
theorem dX7_on_68 : decode cX7_on 68 = .ok (.iconst 0, 1) := by decide +kernel
theorem dX7_on_69 : decode cX7_on 69 = .ok (.invokestatic 257, 3) := by decide +kernel
theorem dX7_on_72 : decode cX7_on 72 = .ok (.aload_n 0, 1) := by decide +kernel
theorem dX7_on_73 : decode cX7_on 73 = .ok (.getfield 56, 3) := by decide +kernel
theorem dX7_on_76 : decode cX7_on 76 = .ok (.bipush 6, 2) := by decide +kernel
theorem dX7_on_78 : decode cX7_on 78 = .ok (.iload_n 1, 1) := by decide +kernel
theorem dX7_on_79 : decode cX7_on 79 = .ok (.imul, 1) := by decide +kernel
theorem dX7_on_80 : decode cX7_on 80 = .ok (.iload 4, 2) := by decide +kernel
theorem dX7_on_82 : decode cX7_on 82 = .ok (.iadd, 1) := by decide +kernel
theorem dX7_on_83 : decode cX7_on 83 = .ok (.laload, 1) := by decide +kernel
theorem dX7_on_84 : decode cX7_on 84 = .ok (.lmul, 1) := by decide +kernel
theorem dX7_on_85 : decode cX7_on 85 = .ok (.lstore 7, 2) := by decide +kernel
theorem dX7_on_87 : decode cX7_on 87 = .ok (.aload_n 0, 1) := by decide +kernel
theorem dX7_on_88 : decode cX7_on 88 = .ok (.getfield 53, 3) := by decide +kernel
theorem dX7_on_91 : decode cX7_on 91 = .ok (.bipush 6, 2) := by decide +kernel
theorem dX7_on_93 : decode cX7_on 93 = .ok (.iload_n 1, 1) := by decide +kernel
theorem dX7_on_94 : decode cX7_on 94 = .ok (.imul, 1) := by decide +kernel
theorem dX7_on_95 : decode cX7_on 95 = .ok (.iload 4, 2) := by decide +kernel
theorem dX7_on_97 : decode cX7_on 97 = .ok (.iadd, 1) := by decide +kernel
theorem dX7_on_98 : decode cX7_on 98 = .ok (.laload, 1) := by decide +kernel
theorem dX7_on_99 : decode cX7_on 99 = .ok (.aload_n 0, 1) := by decide +kernel
theorem dX7_on_100 : decode cX7_on 100 = .ok (.getfield 40, 3) := by decide +kernel
theorem dX7_on_103 : decode cX7_on 103 = .ok (.iload_n 1, 1) := by decide +kernel
theorem dX7_on_104 : decode cX7_on 104 = .ok (.laload, 1) := by decide +kernel
theorem dX7_on_105 : decode cX7_on 105 = .ok (.lload 5, 2) := by decide +kernel
theorem dX7_on_107 : decode cX7_on 107 = .ok (.iconst 1, 1) := by decide +kernel
theorem dX7_on_108 : decode cX7_on 108 = .ok (.invokestatic 257, 3) := by decide +kernel
theorem dX7_on_111 : decode cX7_on 111 = .ok (.lmul, 1) := by decide +kernel
theorem dX7_on_112 : decode cX7_on 112 = .ok (.lstore 9, 2) := by decide +kernel
theorem dX7_on_114 : decode cX7_on 114 = .ok (.iload_n 2, 1) := by decide +kernel
theorem dX7_on_115 : decode cX7_on 115 = .ok (.ifCond .ne 11, 3) := by decide +kernel
theorem dX7_on_118 : decode cX7_on 118 = .ok (.lload 7, 2) := by decide +kernel
theorem dX7_on_120 : decode cX7_on 120 = .ok (.lload 9, 2) := by decide +kernel
theorem dX7_on_122 : decode cX7_on 122 = .ok (.lcmp, 1) := by decide +kernel
theorem dX7_on_123 : decode cX7_on 123 = .ok (.ifCond .le 7, 3) := by decide +kernel
theorem dX7_on_126 : decode cX7_on 126 = .ok (.iconst 1, 1) := by decide +kernel
theorem dX7_on_127 : decode cX7_on 127 = .ok (.goto 4, 3) := by decide +kernel
theorem dX7_on_130 : decode cX7_on 130 = .ok (.iconst 0, 1) := by decide +kernel
theorem dX7_on_131 : decode cX7_on 131 = .ok (.istore_n 2, 1) := by decide +kernel
theorem dX7_on_132 : decode cX7_on 132 = .ok (.iload_n 3, 1) := by decide +kernel
theorem dX7_on_133 : decode cX7_on 133 = .ok (.ifCond .ne 11, 3) := by decide +kernel
theorem dX7_on_136 : decode cX7_on 136 = .ok (.lload 7, 2) := by decide +kernel
theorem dX7_on_138 : decode cX7_on 138 = .ok (.lload 9, 2) := by decide +kernel
theorem dX7_on_140 : decode cX7_on 140 = .ok (.lcmp, 1) := by decide +kernel
theorem dX7_on_141 : decode cX7_on 141 = .ok (.ifCond .ge 7, 3) := by decide +kernel
theorem dX7_on_144 : decode cX7_on 144 = .ok (.iconst 1, 1) := by decide +kernel
theorem dX7_on_145 : decode cX7_on 145 = .ok (.goto 4, 3) := by decide +kernel
theorem dX7_on_148 : decode cX7_on 148 = .ok (.iconst 0, 1) := by decide +kernel
theorem dX7_on_149 : decode cX7_on 149 = .ok (.istore_n 3, 1) := by decide +kernel
theorem dX7_on_150 : decode cX7_on 150 = .ok (.iinc 4 1, 3) := by decide +kernel
theorem dX7_on_153 : decode cX7_on 153 = .ok (.goto (-114), 3) := by decide +kernel
theorem dX7_on_156 : decode cX7_on 156 = .ok (.iload_n 2, 1) := by decide +kernel
theorem dX7_on_157 : decode cX7_on 157 = .ok (.ifCond .eq 17, 3) := by decide +kernel
theorem dX7_on_160 : decode cX7_on 160 = .ok (.iload_n 3, 1) := by decide +kernel
theorem dX7_on_161 : decode cX7_on 161 = .ok (.ifCond .eq 9, 3) := by decide +kernel
theorem dX7_on_164 : decode cX7_on 164 = .ok (.ldc2_w 81, 3) := by decide +kernel
theorem dX7_on_167 : decode cX7_on 167 = .ok (.goto 18, 3) := by decide +kernel
theorem dX7_on_170 : decode cX7_on 170 = .ok (.lconst 1, 1) := by decide +kernel
theorem dX7_on_171 : decode cX7_on 171 = .ok (.goto 14, 3) := by decide +kernel
theorem dX7_on_174 : decode cX7_on 174 = .ok (.iload_n 3, 1) := by decide +kernel
theorem dX7_on_175 : decode cX7_on 175 = .ok (.ifCond .eq 9, 3) := by decide +kernel
theorem dX7_on_178 : decode cX7_on 178 = .ok (.ldc2_w 195, 3) := by decide +kernel
theorem dX7_on_181 : decode cX7_on 181 = .ok (.goto 4, 3) := by decide +kernel
theorem dX7_on_184 : decode cX7_on 184 = .ok (.lconst 0, 1) := by decide +kernel
theorem dX7_on_185 : decode cX7_on 185 = .ok (.lreturn, 1) := by decide +kernel
theorem dX7_isOther_0 : decode cX7_isOther 0 = .ok (.iload_n 3, 1) := by decide +kernel
theorem dX7_isOther_1 : decode cX7_isOther 1 = .ok (.i2l, 1) := by decide +kernel
theorem dX7_isOther_2 : decode cX7_isOther 2 = .ok (.lconst 1, 1) := by decide +kernel
theorem dX7_isOther_3 : decode cX7_isOther 3 = .ok (.ldc2_w 298, 3) := by decide +kernel
theorem dX7_isOther_6 : decode cX7_isOther 6 = .ok (.invokestatic 73, 3) := by decide +kernel
theorem dX7_isOther_9 : decode cX7_isOther 9 = .ok (.ifCond .ne 5, 3) := by decide +kernel
theorem dX7_isOther_12 : decode cX7_isOther 12 = .ok (.iconst 0, 1) := by decide +kernel
theorem dX7_isOther_13 : decode cX7_isOther 13 = .ok (.ireturn, 1) := by decide +kernel
theorem dX7_isOther_14 : decode cX7_isOther 14 = .ok (.aload_n 0, 1) := by decide +kernel
theorem dX7_isOther_15 : decode cX7_isOther 15 = .ok (.getfield 25, 3) := by decide +kernel
theorem dX7_isOther_18 : decode cX7_isOther 18 = .ok (.bipush 6, 2) := by decide +kernel
theorem dX7_isOther_20 : decode cX7_isOther 20 = .ok (.iload_n 1, 1) := by decide +kernel
theorem dX7_isOther_21 : decode cX7_isOther 21 = .ok (.imul, 1) := by decide +kernel
theorem dX7_isOther_22 : decode cX7_isOther 22 = .ok (.iload_n 2, 1) := by decide +kernel
theorem dX7_isOther_23 : decode cX7_isOther 23 = .ok (.iadd, 1) := by decide +kernel
theorem dX7_isOther_24 : decode cX7_isOther 24 = .ok (.iaload, 1) := by decide +kernel
theorem dX7_isOther_25 : decode cX7_isOther 25 = .ok (.istore 5, 2) := by decide +kernel
theorem dX7_isOther_27 : decode cX7_isOther 27 = .ok (.aload_n 0, 1) := by decide +kernel
theorem dX7_isOther_28 : decode cX7_isOther 28 = .ok (.getfield 25, 3) := by decide +kernel
theorem dX7_isOther_31 : decode cX7_isOther 31 = .ok (.bipush 6, 2) := by decide +kernel
theorem dX7_isOther_33 : decode cX7_isOther 33 = .ok (.iload_n 1, 1) := by decide +kernel
theorem dX7_isOther_34 : decode cX7_isOther 34 = .ok (.imul, 1) := by decide +kernel
theorem dX7_isOther_35 : decode cX7_isOther 35 = .ok (.iload_n 2, 1) := by decide +kernel
theorem dX7_isOther_36 : decode cX7_isOther 36 = .ok (.iadd, 1) := by decide +kernel
theorem dX7_isOther_37 : decode cX7_isOther 37 = .ok (.iload_n 3, 1) := by decide +kernel
theorem dX7_isOther_38 : decode cX7_isOther 38 = .ok (.iastore, 1) := by decide +kernel
theorem dX7_isOther_39 : decode cX7_isOther 39 = .ok (.aload_n 0, 1) := by decide +kernel
theorem dX7_isOther_40 : decode cX7_isOther 40 = .ok (.aload_n 0, 1) := by decide +kernel
theorem dX7_isOther_41 : decode cX7_isOther 41 = .ok (.invokevirtual 244, 3) := by decide +kernel
theorem dX7_isOther_44 : decode cX7_isOther 44 = .ok (.invokevirtual 247, 3) := by decide +kernel
theorem dX7_isOther_47 : decode cX7_isOther 47 = .ok (.aload_n 0, 1) := by decide +kernel
theorem dX7_isOther_48 : decode cX7_isOther 48 = .ok (.aload_n 0, 1) := by decide +kernel
theorem dX7_isOther_49 : decode cX7_isOther 49 = .ok (.invokevirtual 244, 3) := by decide +kernel
theorem dX7_isOther_52 : decode cX7_isOther 52 = .ok (.iload_n 2, 1) := by decide +kernel
theorem dX7_isOther_53 : decode cX7_isOther 53 = .ok (.invokevirtual 211, 3) := by decide +kernel
theorem dX7_isOther_56 : decode cX7_isOther 56 = .ok (.iload 4, 2) := by decide +kernel
theorem dX7_isOther_58 : decode cX7_isOther 58 = .ok (.if_icmp .eq 7, 3) := by decide +kernel
theorem dX7_isOther_61 : decode cX7_isOther 61 = .ok (.iconst 1, 1) := by decide +kernel
theorem dX7_isOther_62 : decode cX7_isOther 62 = .ok (.goto 4, 3) := by decide +kernel
theorem dX7_isOther_65 : decode cX7_isOther 65 = .ok (.iconst 0, 1) := by decide +kernel
theorem dX7_isOther_66 : decode cX7_isOther 66 = .ok (.istore 6, 2) := by decide +kernel
theorem dX7_isOther_68 : decode cX7_isOther 68 = .ok (.aload_n 0, 1) := by decide +kernel
theorem dX7_isOther_69 : decode cX7_isOther 69 = .ok (.getfield 25, 3) := by decide +kernel
theorem dX7_isOther_72 : decode cX7_isOther 72 = .ok (.bipush 6, 2) := by decide +kernel
theorem dX7_isOther_74 : decode cX7_isOther 74 = .ok (.iload_n 1, 1) := by decide +kernel
theorem dX7_isOther_75 : decode cX7_isOther 75 = .ok (.imul, 1) := by decide +kernel
theorem dX7_isOther_76 : decode cX7_isOther 76 = .ok (.iload_n 2, 1) := by decide +kernel
theorem dX7_isOther_77 : decode cX7_isOther 77 = .ok (.iadd, 1) := by decide +kernel
theorem dX7_isOther_78 : decode cX7_isOther 78 = .ok (.iload 5, 2) := by decide +kernel
theorem dX7_isOther_80 : decode cX7_isOther 80 = .ok (.iastore, 1) := by decide +kernel
theorem dX7_isOther_81 : decode cX7_isOther 81 = .ok (.iload 6, 2) := by decide +kernel
theorem dX7_isOther_83 : decode cX7_isOther 83 = .ok (.ireturn, 1) := by decide +kernel
theorem dX7_edge_0 : decode cX7_edge 0 = .ok (.aload_n 0, 1) := by decide +kernel
theorem dX7_edge_1 : decode cX7_edge 1 = .ok (.iconst 0, 1) := by decide +kernel
theorem dX7_edge_2 : decode cX7_edge 2 = .ok (.putfield 62, 3) := by decide +kernel
theorem dX7_edge_5 : decode cX7_edge 5 = .ok (.aload_n 0, 1) := by decide +kernel
theorem dX7_edge_6 : decode cX7_edge 6 = .ok (.iload_n 1, 1) := by decide +kernel
theorem dX7_edge_7 : decode cX7_edge 7 = .ok (.invokevirtual 189, 3) := by decide +kernel
theorem dX7_edge_10 : decode cX7_edge 10 = .ok (.ifCond .eq 11, 3) := by decide +kernel
theorem dX7_edge_13 : decode cX7_edge 13 = .ok (.aload_n 0, 1) := by decide +kernel
theorem dX7_edge_14 : decode cX7_edge 14 = .ok (.iload_n 2, 1) := by decide +kernel
theorem dX7_edge_15 : decode cX7_edge 15 = .ok (.invokevirtual 192, 3) := by decide +kernel
theorem dX7_edge_18 : decode cX7_edge 18 = .ok (.ifCond .ne 7, 3) := by decide +kernel
theorem dX7_edge_21 : decode cX7_edge 21 = .ok (.ldc2_w 83, 3) := by decide +kernel
theorem dX7_edge_24 : decode cX7_edge 24 = .ok (.lreturn, 1) := by decide +kernel
theorem dX7_edge_25 : decode cX7_edge 25 = .ok (.aload_n 0, 1) := by decide +kernel
theorem dX7_edge_26 : decode cX7_edge 26 = .ok (.invokevirtual 254, 3) := by decide +kernel
theorem dX7_edge_29 : decode cX7_edge 29 = .ok (.aload_n 0, 1) := by decide +kernel
theorem dX7_edge_30 : decode cX7_edge 30 = .ok (.aload_n 0, 1) := by decide +kernel
theorem dX7_edge_31 : decode cX7_edge 31 = .ok (.invokevirtual 244, 3) := by decide +kernel
theorem dX7_edge_34 : decode cX7_edge 34 = .ok (.iload_n 2, 1) := by decide +kernel
theorem dX7_edge_35 : decode cX7_edge 35 = .ok (.invokevirtual 211, 3) := by decide +kernel
theorem dX7_edge_38 : decode cX7_edge 38 = .ok (.istore_n 3, 1) := by decide +kernel
theorem dX7_edge_39 : decode cX7_edge 39 = .ok (.aload_n 0, 1) := by decide +kernel
theorem dX7_edge_40 : decode cX7_edge 40 = .ok (.getfield 25, 3) := by decide +kernel
theorem dX7_edge_43 : decode cX7_edge 43 = .ok (.bipush 6, 2) := by decide +kernel
theorem dX7_edge_45 : decode cX7_edge 45 = .ok (.iload_n 1, 1) := by decide +kernel
theorem dX7_edge_46 : decode cX7_edge 46 = .ok (.imul, 1) := by decide +kernel
theorem dX7_edge_47 : decode cX7_edge 47 = .ok (.iload_n 2, 1) := by decide +kernel
theorem dX7_edge_48 : decode cX7_edge 48 = .ok (.iadd, 1) := by decide +kernel
theorem dX7_edge_49 : decode cX7_edge 49 = .ok (.iaload, 1) := by decide +kernel
theorem dX7_edge_50 : decode cX7_edge 50 = .ok (.istore 4, 2) := by decide +kernel
theorem dX7_edge_52 : decode cX7_edge 52 = .ok (.iconst 1, 1) := by decide +kernel
theorem dX7_edge_53 : decode cX7_edge 53 = .ok (.istore 5, 2) := by decide +kernel
theorem dX7_edge_55 : decode cX7_edge 55 = .ok (.iload 5, 2) := by decide +kernel
theorem dX7_edge_57 : decode cX7_edge 57 = .ok (.bipush 20, 2) := by decide +kernel
theorem dX7_edge_59 : decode cX7_edge 59 = .ok (.if_icmp .ge 48, 3) := by decide +kernel
theorem dX7_edge_62 : decode cX7_edge 62 = .ok (.aload_n 0, 1) := by decide +kernel
theorem dX7_edge_63 : decode cX7_edge 63 = .ok (.iload_n 1, 1) := by decide +kernel
theorem dX7_edge_64 : decode cX7_edge 64 = .ok (.iload_n 2, 1) := by decide +kernel
theorem dX7_edge_65 : decode cX7_edge 65 = .ok (.iload 4, 2) := by decide +kernel
theorem dX7_edge_67 : decode cX7_edge 67 = .ok (.iload 5, 2) := by decide +kernel
theorem dX7_edge_69 : decode cX7_edge 69 = .ok (.iadd, 1) := by decide +kernel
theorem dX7_edge_70 : decode cX7_edge 70 = .ok (.iload_n 3, 1) := by decide +kernel
theorem dX7_edge_71 : decode cX7_edge 71 = .ok (.invokevirtual 300, 3) := by decide +kernel
theorem dX7_edge_74 : decode cX7_edge 74 = .ok (.ifCond .eq 7, 3) := by decide +kernel
theorem dX7_edge_77 : decode cX7_edge 77 = .ok (.iload 5, 2) := by decide +kernel
theorem dX7_edge_79 : decode cX7_edge 79 = .ok (.i2l, 1) := by decide +kernel
theorem dX7_edge_80 : decode cX7_edge 80 = .ok (.lreturn, 1) := by decide +kernel
theorem dX7_edge_81 : decode cX7_edge 81 = .ok (.aload_n 0, 1) := by decide +kernel
theorem dX7_edge_82 : decode cX7_edge 82 = .ok (.iload_n 1, 1) := by decide +kernel
theorem dX7_edge_83 : decode cX7_edge 83 = .ok (.iload_n 2, 1) := by decide +kernel
theorem dX7_edge_84 : decode cX7_edge 84 = .ok (.iload 4, 2) := by decide +kernel
theorem dX7_edge_86 : decode cX7_edge 86 = .ok (.iload 5, 2) := by decide +kernel
theorem dX7_edge_88 : decode cX7_edge 88 = .ok (.isub, 1) := by decide +kernel
theorem dX7_edge_89 : decode cX7_edge 89 = .ok (.iload_n 3, 1) := by decide +kernel
theorem dX7_edge_90 : decode cX7_edge 90 = .ok (.invokevirtual 300, 3) := by decide +kernel
theorem dX7_edge_93 : decode cX7_edge 93 = .ok (.ifCond .eq 8, 3) := by decide +kernel
theorem dX7_edge_96 : decode cX7_edge 96 = .ok (.iload 5, 2) := by decide +kernel
theorem dX7_edge_98 : decode cX7_edge 98 = .ok (.ineg, 1) := by decide +kernel
theorem dX7_edge_99 : decode cX7_edge 99 = .ok (.i2l, 1) := by decide +kernel
theorem dX7_edge_100 : decode cX7_edge 100 = .ok (.lreturn, 1) := by decide +kernel
theorem dX7_edge_101 : decode cX7_edge 101 = .ok (.iinc 5 1, 3) := by decide +kernel
theorem dX7_edge_104 : decode cX7_edge 104 = .ok (.goto (-49), 3) := by decide +kernel
theorem dX7_edge_107 : decode cX7_edge 107 = .ok (.ldc2_w 272, 3) := by decide +kernel
theorem dX7_edge_110 : decode cX7_edge 110 = .ok (.lreturn, 1) := by decide +kernel
theorem dX7_movesOne_0 : decode cX7_movesOne 0 = .ok (.aload_n 0, 1) := by decide +kernel
theorem dX7_movesOne_1 : decode cX7_movesOne 1 = .ok (.invokevirtual 254, 3) := by decide +kernel
theorem dX7_movesOne_4 : decode cX7_movesOne 4 = .ok (.iconst 0, 1) := by decide +kernel
theorem dX7_movesOne_5 : decode cX7_movesOne 5 = .ok (.istore_n 1, 1) := by decide +kernel
theorem dX7_movesOne_6 : decode cX7_movesOne 6 = .ok (.iconst 0, 1) := by decide +kernel
theorem dX7_movesOne_7 : decode cX7_movesOne 7 = .ok (.istore_n 2, 1) := by decide +kernel
theorem dX7_movesOne_8 : decode cX7_movesOne 8 = .ok (.iconst 1, 1) := by decide +kernel
theorem dX7_movesOne_9 : decode cX7_movesOne 9 = .ok (.istore_n 3, 1) := by decide +kernel
theorem dX7_movesOne_10 : decode cX7_movesOne 10 = .ok (.iload_n 3, 1) := by decide +kernel
theorem dX7_movesOne_11 : decode cX7_movesOne 11 = .ok (.aload_n 0, 1) := by decide +kernel
theorem dX7_movesOne_12 : decode cX7_movesOne 12 = .ok (.getfield 176, 3) := by decide +kernel
theorem dX7_movesOne_15 : decode cX7_movesOne 15 = .ok (.if_icmp .ge 53, 3) := by decide +kernel
theorem dX7_movesOne_18 : decode cX7_movesOne 18 = .ok (.aload_n 0, 1) := by decide +kernel
theorem dX7_movesOne_19 : decode cX7_movesOne 19 = .ok (.getfield 40, 3) := by decide +kernel
theorem dX7_movesOne_22 : decode cX7_movesOne 22 = .ok (.iload_n 3, 1) := by decide +kernel
theorem dX7_movesOne_23 : decode cX7_movesOne 23 = .ok (.laload, 1) := by decide +kernel
theorem dX7_movesOne_24 : decode cX7_movesOne 24 = .ok (.aload_n 0, 1) := by decide +kernel
theorem dX7_movesOne_25 : decode cX7_movesOne 25 = .ok (.getfield 40, 3) := by decide +kernel
theorem dX7_movesOne_28 : decode cX7_movesOne 28 = .ok (.iload_n 1, 1) := by decide +kernel
theorem dX7_movesOne_29 : decode cX7_movesOne 29 = .ok (.laload, 1) := by decide +kernel
theorem dX7_movesOne_30 : decode cX7_movesOne 30 = .ok (.lcmp, 1) := by decide +kernel
theorem dX7_movesOne_31 : decode cX7_movesOne 31 = .ok (.ifCond .ge 7, 3) := by decide +kernel
theorem dX7_movesOne_34 : decode cX7_movesOne 34 = .ok (.iload_n 3, 1) := by decide +kernel
theorem dX7_movesOne_35 : decode cX7_movesOne 35 = .ok (.goto 4, 3) := by decide +kernel
theorem dX7_movesOne_38 : decode cX7_movesOne 38 = .ok (.iload_n 1, 1) := by decide +kernel
theorem dX7_movesOne_39 : decode cX7_movesOne 39 = .ok (.istore_n 1, 1) := by decide +kernel
theorem dX7_movesOne_40 : decode cX7_movesOne 40 = .ok (.aload_n 0, 1) := by decide +kernel
theorem dX7_movesOne_41 : decode cX7_movesOne 41 = .ok (.getfield 40, 3) := by decide +kernel
theorem dX7_movesOne_44 : decode cX7_movesOne 44 = .ok (.iload_n 3, 1) := by decide +kernel
theorem dX7_movesOne_45 : decode cX7_movesOne 45 = .ok (.laload, 1) := by decide +kernel
theorem dX7_movesOne_46 : decode cX7_movesOne 46 = .ok (.aload_n 0, 1) := by decide +kernel
theorem dX7_movesOne_47 : decode cX7_movesOne 47 = .ok (.getfield 40, 3) := by decide +kernel
theorem dX7_movesOne_50 : decode cX7_movesOne 50 = .ok (.iload_n 2, 1) := by decide +kernel
theorem dX7_movesOne_51 : decode cX7_movesOne 51 = .ok (.laload, 1) := by decide +kernel
theorem dX7_movesOne_52 : decode cX7_movesOne 52 = .ok (.lcmp, 1) := by decide +kernel
theorem dX7_movesOne_53 : decode cX7_movesOne 53 = .ok (.ifCond .le 7, 3) := by decide +kernel
theorem dX7_movesOne_56 : decode cX7_movesOne 56 = .ok (.iload_n 3, 1) := by decide +kernel
theorem dX7_movesOne_57 : decode cX7_movesOne 57 = .ok (.goto 4, 3) := by decide +kernel
theorem dX7_movesOne_60 : decode cX7_movesOne 60 = .ok (.iload_n 2, 1) := by decide +kernel
theorem dX7_movesOne_61 : decode cX7_movesOne 61 = .ok (.istore_n 2, 1) := by decide +kernel
theorem dX7_movesOne_62 : decode cX7_movesOne 62 = .ok (.iinc 3 1, 3) := by decide +kernel
theorem dX7_movesOne_65 : decode cX7_movesOne 65 = .ok (.goto (-55), 3) := by decide +kernel
theorem dX7_movesOne_68 : decode cX7_movesOne 68 = .ok (.iload_n 1, 1) := by decide +kernel
theorem dX7_movesOne_69 : decode cX7_movesOne 69 = .ok (.iload_n 2, 1) := by decide +kernel
theorem dX7_movesOne_70 : decode cX7_movesOne 70 = .ok (.if_icmp .eq 24, 3) := by decide +kernel
theorem dX7_movesOne_73 : decode cX7_movesOne 73 = .ok (.aload_n 0, 1) := by decide +kernel
theorem dX7_movesOne_74 : decode cX7_movesOne 74 = .ok (.getfield 22, 3) := by decide +kernel
theorem dX7_movesOne_77 : decode cX7_movesOne 77 = .ok (.iload_n 1, 1) := by decide +kernel
theorem dX7_movesOne_78 : decode cX7_movesOne 78 = .ok (.iaload, 1) := by decide +kernel
theorem dX7_movesOne_79 : decode cX7_movesOne 79 = .ok (.iconst 2, 1) := by decide +kernel
theorem dX7_movesOne_80 : decode cX7_movesOne 80 = .ok (.if_icmp .lt 14, 3) := by decide +kernel
theorem dX7_movesOne_83 : decode cX7_movesOne 83 = .ok (.aload_n 0, 1) := by decide +kernel
theorem dX7_movesOne_84 : decode cX7_movesOne 84 = .ok (.getfield 22, 3) := by decide +kernel
theorem dX7_movesOne_87 : decode cX7_movesOne 87 = .ok (.iload_n 2, 1) := by decide +kernel
theorem dX7_movesOne_88 : decode cX7_movesOne 88 = .ok (.iaload, 1) := by decide +kernel
theorem dX7_movesOne_89 : decode cX7_movesOne 89 = .ok (.bipush 98, 2) := by decide +kernel
theorem dX7_movesOne_91 : decode cX7_movesOne 91 = .ok (.if_icmp .le 5, 3) := by decide +kernel
theorem dX7_movesOne_94 : decode cX7_movesOne 94 = .ok (.iconst 0, 1) := by decide +kernel
theorem dX7_movesOne_95 : decode cX7_movesOne 95 = .ok (.ireturn, 1) := by decide +kernel
theorem dX7_movesOne_96 : decode cX7_movesOne 96 = .ok (.aload_n 0, 1) := by decide +kernel
theorem dX7_movesOne_97 : decode cX7_movesOne 97 = .ok (.getfield 22, 3) := by decide +kernel
theorem dX7_movesOne_100 : decode cX7_movesOne 100 = .ok (.iload_n 1, 1) := by decide +kernel
theorem dX7_movesOne_101 : decode cX7_movesOne 101 = .ok (.dup2, 1) := by decide +kernel
theorem dX7_movesOne_102 : decode cX7_movesOne 102 = .ok (.iaload, 1) := by decide +kernel
theorem dX7_movesOne_103 : decode cX7_movesOne 103 = .ok (.iconst 1, 1) := by decide +kernel
theorem dX7_movesOne_104 : decode cX7_movesOne 104 = .ok (.isub, 1) := by decide +kernel
theorem dX7_movesOne_105 : decode cX7_movesOne 105 = .ok (.iastore, 1) := by decide +kernel
theorem dX7_movesOne_106 : decode cX7_movesOne 106 = .ok (.aload_n 0, 1) := by decide +kernel
theorem dX7_movesOne_107 : decode cX7_movesOne 107 = .ok (.getfield 22, 3) := by decide +kernel
theorem dX7_movesOne_110 : decode cX7_movesOne 110 = .ok (.iload_n 2, 1) := by decide +kernel
theorem dX7_movesOne_111 : decode cX7_movesOne 111 = .ok (.dup2, 1) := by decide +kernel
theorem dX7_movesOne_112 : decode cX7_movesOne 112 = .ok (.iaload, 1) := by decide +kernel
theorem dX7_movesOne_113 : decode cX7_movesOne 113 = .ok (.iconst 1, 1) := by decide +kernel
theorem dX7_movesOne_114 : decode cX7_movesOne 114 = .ok (.iadd, 1) := by decide +kernel
theorem dX7_movesOne_115 : decode cX7_movesOne 115 = .ok (.iastore, 1) := by decide +kernel
theorem dX7_movesOne_116 : decode cX7_movesOne 116 = .ok (.aload_n 0, 1) := by decide +kernel
theorem dX7_movesOne_117 : decode cX7_movesOne 117 = .ok (.iconst 0, 1) := by decide +kernel
theorem dX7_movesOne_118 : decode cX7_movesOne 118 = .ok (.putfield 186, 3) := by decide +kernel
theorem dX7_movesOne_121 : decode cX7_movesOne 121 = .ok (.aload_n 0, 1) := by decide +kernel
theorem dX7_movesOne_122 : decode cX7_movesOne 122 = .ok (.invokevirtual 254, 3) := by decide +kernel
theorem dX7_movesOne_125 : decode cX7_movesOne 125 = .ok (.aload_n 0, 1) := by decide +kernel
theorem dX7_movesOne_126 : decode cX7_movesOne 126 = .ok (.getfield 40, 3) := by decide +kernel
theorem dX7_movesOne_129 : decode cX7_movesOne 129 = .ok (.iload_n 2, 1) := by decide +kernel
theorem dX7_movesOne_130 : decode cX7_movesOne 130 = .ok (.laload, 1) := by decide +kernel
theorem dX7_movesOne_131 : decode cX7_movesOne 131 = .ok (.aload_n 0, 1) := by decide +kernel
theorem dX7_movesOne_132 : decode cX7_movesOne 132 = .ok (.getfield 40, 3) := by decide +kernel
theorem dX7_movesOne_135 : decode cX7_movesOne 135 = .ok (.iload_n 1, 1) := by decide +kernel
theorem dX7_movesOne_136 : decode cX7_movesOne 136 = .ok (.laload, 1) := by decide +kernel
theorem dX7_movesOne_137 : decode cX7_movesOne 137 = .ok (.lcmp, 1) := by decide +kernel
theorem dX7_movesOne_138 : decode cX7_movesOne 138 = .ok (.ifCond .lt 5, 3) := by decide +kernel
theorem dX7_movesOne_141 : decode cX7_movesOne 141 = .ok (.iconst 1, 1) := by decide +kernel
theorem dX7_movesOne_142 : decode cX7_movesOne 142 = .ok (.ireturn, 1) := by decide +kernel
theorem dX7_movesOne_143 : decode cX7_movesOne 143 = .ok (.aload_n 0, 1) := by decide +kernel
theorem dX7_movesOne_144 : decode cX7_movesOne 144 = .ok (.getfield 22, 3) := by decide +kernel
theorem dX7_movesOne_147 : decode cX7_movesOne 147 = .ok (.iload_n 1, 1) := by decide +kernel
theorem dX7_movesOne_148 : decode cX7_movesOne 148 = .ok (.dup2, 1) := by decide +kernel
theorem dX7_movesOne_149 : decode cX7_movesOne 149 = .ok (.iaload, 1) := by decide +kernel
theorem dX7_movesOne_150 : decode cX7_movesOne 150 = .ok (.iconst 1, 1) := by decide +kernel
theorem dX7_movesOne_151 : decode cX7_movesOne 151 = .ok (.iadd, 1) := by decide +kernel
theorem dX7_movesOne_152 : decode cX7_movesOne 152 = .ok (.iastore, 1) := by decide +kernel
theorem dX7_movesOne_153 : decode cX7_movesOne 153 = .ok (.aload_n 0, 1) := by decide +kernel
theorem dX7_movesOne_154 : decode cX7_movesOne 154 = .ok (.getfield 22, 3) := by decide +kernel
theorem dX7_movesOne_157 : decode cX7_movesOne 157 = .ok (.iload_n 2, 1) := by decide +kernel
theorem dX7_movesOne_158 : decode cX7_movesOne 158 = .ok (.dup2, 1) := by decide +kernel
theorem dX7_movesOne_159 : decode cX7_movesOne 159 = .ok (.iaload, 1) := by decide +kernel
theorem dX7_movesOne_160 : decode cX7_movesOne 160 = .ok (.iconst 1, 1) := by decide +kernel
theorem dX7_movesOne_161 : decode cX7_movesOne 161 = .ok (.isub, 1) := by decide +kernel
theorem dX7_movesOne_162 : decode cX7_movesOne 162 = .ok (.iastore, 1) := by decide +kernel
theorem dX7_movesOne_163 : decode cX7_movesOne 163 = .ok (.aload_n 0, 1) := by decide +kernel
theorem dX7_movesOne_164 : decode cX7_movesOne 164 = .ok (.iconst 0, 1) := by decide +kernel
theorem dX7_movesOne_165 : decode cX7_movesOne 165 = .ok (.putfield 186, 3) := by decide +kernel
theorem dX7_movesOne_168 : decode cX7_movesOne 168 = .ok (.iconst 0, 1) := by decide +kernel
theorem dX7_movesOne_169 : decode cX7_movesOne 169 = .ok (.ireturn, 1) := by decide +kernel
theorem dX7_move_0 : decode cX7_move 0 = .ok (.aload_n 0, 1) := by decide +kernel
theorem dX7_move_1 : decode cX7_move 1 = .ok (.iconst 0, 1) := by decide +kernel
theorem dX7_move_2 : decode cX7_move 2 = .ok (.putfield 62, 3) := by decide +kernel
theorem dX7_move_5 : decode cX7_move 5 = .ok (.iload_n 1, 1) := by decide +kernel
theorem dX7_move_6 : decode cX7_move 6 = .ok (.i2l, 1) := by decide +kernel
theorem dX7_move_7 : decode cX7_move 7 = .ok (.lconst 1, 1) := by decide +kernel
theorem dX7_move_8 : decode cX7_move 8 = .ok (.ldc2_w 303, 3) := by decide +kernel
theorem dX7_move_11 : decode cX7_move 11 = .ok (.invokestatic 73, 3) := by decide +kernel
theorem dX7_move_14 : decode cX7_move 14 = .ok (.ifCond .ne 7, 3) := by decide +kernel
theorem dX7_move_17 : decode cX7_move 17 = .ok (.ldc2_w 83, 3) := by decide +kernel
theorem dX7_move_20 : decode cX7_move 20 = .ok (.lreturn, 1) := by decide +kernel
theorem dX7_move_21 : decode cX7_move 21 = .ok (.aload_n 0, 1) := by decide +kernel
theorem dX7_move_22 : decode cX7_move 22 = .ok (.getfield 176, 3) := by decide +kernel
theorem dX7_move_25 : decode cX7_move 25 = .ok (.ifCond .ne 7, 3) := by decide +kernel
theorem dX7_move_28 : decode cX7_move 28 = .ok (.ldc2_w 261, 3) := by decide +kernel
theorem dX7_move_31 : decode cX7_move 31 = .ok (.lreturn, 1) := by decide +kernel
theorem dX7_move_32 : decode cX7_move 32 = .ok (.aload_n 0, 1) := by decide +kernel
theorem dX7_move_33 : decode cX7_move 33 = .ok (.invokevirtual 295, 3) := by decide +kernel
theorem dX7_move_36 : decode cX7_move 36 = .ok (.iconst 0, 1) := by decide +kernel
theorem dX7_move_37 : decode cX7_move 37 = .ok (.istore_n 2, 1) := by decide +kernel
theorem dX7_move_38 : decode cX7_move 38 = .ok (.iload_n 2, 1) := by decide +kernel
theorem dX7_move_39 : decode cX7_move 39 = .ok (.iload_n 1, 1) := by decide +kernel
theorem dX7_move_40 : decode cX7_move 40 = .ok (.if_icmp .ge 16, 3) := by decide +kernel
theorem dX7_move_43 : decode cX7_move 43 = .ok (.aload_n 0, 1) := by decide +kernel
theorem dX7_move_44 : decode cX7_move 44 = .ok (.invokevirtual 305, 3) := by decide +kernel
theorem dX7_move_47 : decode cX7_move 47 = .ok (.ifCond .eq 9, 3) := by decide +kernel
theorem dX7_move_50 : decode cX7_move 50 = .ok (.iinc 2 1, 3) := by decide +kernel
theorem dX7_move_53 : decode cX7_move 53 = .ok (.goto (-15), 3) := by decide +kernel
theorem dX7_move_56 : decode cX7_move 56 = .ok (.iload_n 2, 1) := by decide +kernel
theorem dX7_move_57 : decode cX7_move 57 = .ok (.i2l, 1) := by decide +kernel
theorem dX7_move_58 : decode cX7_move 58 = .ok (.lreturn, 1) := by decide +kernel
theorem dX7_bits_0 : decode cX7_bits 0 = .ok (.iload_n 0, 1) := by decide +kernel
theorem dX7_bits_1 : decode cX7_bits 1 = .ok (.iconst 1, 1) := by decide +kernel
theorem dX7_bits_2 : decode cX7_bits 2 = .ok (.iand, 1) := by decide +kernel
theorem dX7_bits_3 : decode cX7_bits 3 = .ok (.iload_n 0, 1) := by decide +kernel
theorem dX7_bits_4 : decode cX7_bits 4 = .ok (.iconst 1, 1) := by decide +kernel
theorem dX7_bits_5 : decode cX7_bits 5 = .ok (.ishr, 1) := by decide +kernel
theorem dX7_bits_6 : decode cX7_bits 6 = .ok (.iconst 1, 1) := by decide +kernel
theorem dX7_bits_7 : decode cX7_bits 7 = .ok (.iand, 1) := by decide +kernel
theorem dX7_bits_8 : decode cX7_bits 8 = .ok (.iadd, 1) := by decide +kernel
theorem dX7_bits_9 : decode cX7_bits 9 = .ok (.iload_n 0, 1) := by decide +kernel
theorem dX7_bits_10 : decode cX7_bits 10 = .ok (.iconst 2, 1) := by decide +kernel
theorem dX7_bits_11 : decode cX7_bits 11 = .ok (.ishr, 1) := by decide +kernel
theorem dX7_bits_12 : decode cX7_bits 12 = .ok (.iconst 1, 1) := by decide +kernel
theorem dX7_bits_13 : decode cX7_bits 13 = .ok (.iand, 1) := by decide +kernel
theorem dX7_bits_14 : decode cX7_bits 14 = .ok (.iadd, 1) := by decide +kernel
theorem dX7_bits_15 : decode cX7_bits 15 = .ok (.ireturn, 1) := by decide +kernel
theorem dX7_kindOf_0 : decode cX7_kindOf 0 = .ok (.aload_n 0, 1) := by decide +kernel
theorem dX7_kindOf_1 : decode cX7_kindOf 1 = .ok (.invokevirtual 254, 3) := by decide +kernel
theorem dX7_kindOf_4 : decode cX7_kindOf 4 = .ok (.aload_n 0, 1) := by decide +kernel
theorem dX7_kindOf_5 : decode cX7_kindOf 5 = .ok (.aload_n 0, 1) := by decide +kernel
theorem dX7_kindOf_6 : decode cX7_kindOf 6 = .ok (.invokevirtual 244, 3) := by decide +kernel
theorem dX7_kindOf_9 : decode cX7_kindOf 9 = .ok (.iload_n 1, 1) := by decide +kernel
theorem dX7_kindOf_10 : decode cX7_kindOf 10 = .ok (.invokevirtual 211, 3) := by decide +kernel
theorem dX7_kindOf_13 : decode cX7_kindOf 13 = .ok (.istore_n 2, 1) := by decide +kernel
theorem dX7_kindOf_14 : decode cX7_kindOf 14 = .ok (.iload_n 2, 1) := by decide +kernel
theorem dX7_kindOf_15 : decode cX7_kindOf 15 = .ok (.invokestatic 309, 3) := by decide +kernel
theorem dX7_kindOf_18 : decode cX7_kindOf 18 = .ok (.iconst 1, 1) := by decide +kernel
theorem dX7_kindOf_19 : decode cX7_kindOf 19 = .ok (.if_icmp .le 17, 3) := by decide +kernel
theorem dX7_kindOf_22 : decode cX7_kindOf 22 = .ok (.iload_n 2, 1) := by decide +kernel
theorem dX7_kindOf_23 : decode cX7_kindOf 23 = .ok (.aload_n 0, 1) := by decide +kernel
theorem dX7_kindOf_24 : decode cX7_kindOf 24 = .ok (.invokevirtual 244, 3) := by decide +kernel
theorem dX7_kindOf_27 : decode cX7_kindOf 27 = .ok (.if_icmp .ne 7, 3) := by decide +kernel
theorem dX7_kindOf_30 : decode cX7_kindOf 30 = .ok (.iconst 3, 1) := by decide +kernel
theorem dX7_kindOf_31 : decode cX7_kindOf 31 = .ok (.goto 4, 3) := by decide +kernel
theorem dX7_kindOf_34 : decode cX7_kindOf 34 = .ok (.iconst 2, 1) := by decide +kernel
theorem dX7_kindOf_35 : decode cX7_kindOf 35 = .ok (.ireturn, 1) := by decide +kernel
theorem dX7_kindOf_36 : decode cX7_kindOf 36 = .ok (.iload_n 2, 1) := by decide +kernel
theorem dX7_kindOf_37 : decode cX7_kindOf 37 = .ok (.iconst 1, 1) := by decide +kernel
theorem dX7_kindOf_38 : decode cX7_kindOf 38 = .ok (.if_icmp .eq 7, 3) := by decide +kernel
theorem dX7_kindOf_41 : decode cX7_kindOf 41 = .ok (.iconst 1, 1) := by decide +kernel
theorem dX7_kindOf_42 : decode cX7_kindOf 42 = .ok (.goto 31, 3) := by decide +kernel
theorem dX7_kindOf_45 : decode cX7_kindOf 45 = .ok (.aload_n 0, 1) := by decide +kernel
theorem dX7_kindOf_46 : decode cX7_kindOf 46 = .ok (.aload_n 0, 1) := by decide +kernel
theorem dX7_kindOf_47 : decode cX7_kindOf 47 = .ok (.invokevirtual 244, 3) := by decide +kernel
theorem dX7_kindOf_50 : decode cX7_kindOf 50 = .ok (.iload_n 1, 1) := by decide +kernel
theorem dX7_kindOf_51 : decode cX7_kindOf 51 = .ok (.invokevirtual 205, 3) := by decide +kernel
theorem dX7_kindOf_54 : decode cX7_kindOf 54 = .ok (.ldc2_w 312, 3) := by decide +kernel
theorem dX7_kindOf_57 : decode cX7_kindOf 57 = .ok (.aload_n 0, 1) := by decide +kernel
theorem dX7_kindOf_58 : decode cX7_kindOf 58 = .ok (.getfield 40, 3) := by decide +kernel
theorem dX7_kindOf_61 : decode cX7_kindOf 61 = .ok (.iconst 0, 1) := by decide +kernel
theorem dX7_kindOf_62 : decode cX7_kindOf 62 = .ok (.laload, 1) := by decide +kernel
theorem dX7_kindOf_63 : decode cX7_kindOf 63 = .ok (.lmul, 1) := by decide +kernel
theorem dX7_kindOf_64 : decode cX7_kindOf 64 = .ok (.lcmp, 1) := by decide +kernel
theorem dX7_kindOf_65 : decode cX7_kindOf 65 = .ok (.ifCond .lt 7, 3) := by decide +kernel
theorem dX7_kindOf_68 : decode cX7_kindOf 68 = .ok (.iconst 5, 1) := by decide +kernel
theorem dX7_kindOf_69 : decode cX7_kindOf 69 = .ok (.goto 4, 3) := by decide +kernel
theorem dX7_kindOf_72 : decode cX7_kindOf 72 = .ok (.iconst 4, 1) := by decide +kernel
theorem dX7_kindOf_73 : decode cX7_kindOf 73 = .ok (.ireturn, 1) := by decide +kernel
theorem dX7_isOf_0 : decode cX7_isOf 0 = .ok (.iload_n 1, 1) := by decide +kernel
theorem dX7_isOf_1 : decode cX7_isOf 1 = .ok (.ifCond .eq 43, 3) := by decide +kernel
theorem dX7_isOf_4 : decode cX7_isOf 4 = .ok (.iload_n 0, 1) := by decide +kernel
theorem dX7_isOf_5 : decode cX7_isOf 5 = .ok (.iload_n 1, 1) := by decide +kernel
theorem dX7_isOf_6 : decode cX7_isOf 6 = .ok (.if_icmp .eq 38, 3) := by decide +kernel
theorem dX7_isOf_9 : decode cX7_isOf 9 = .ok (.iload_n 1, 1) := by decide +kernel
theorem dX7_isOf_10 : decode cX7_isOf 10 = .ok (.iconst 2, 1) := by decide +kernel
theorem dX7_isOf_11 : decode cX7_isOf 11 = .ok (.if_icmp .ne 8, 3) := by decide +kernel
theorem dX7_isOf_14 : decode cX7_isOf 14 = .ok (.iload_n 0, 1) := by decide +kernel
theorem dX7_isOf_15 : decode cX7_isOf 15 = .ok (.iconst 3, 1) := by decide +kernel
theorem dX7_isOf_16 : decode cX7_isOf 16 = .ok (.if_icmp .eq 28, 3) := by decide +kernel
theorem dX7_isOf_19 : decode cX7_isOf 19 = .ok (.iload_n 1, 1) := by decide +kernel
theorem dX7_isOf_20 : decode cX7_isOf 20 = .ok (.iconst 1, 1) := by decide +kernel
theorem dX7_isOf_21 : decode cX7_isOf 21 = .ok (.if_icmp .ne 13, 3) := by decide +kernel
theorem dX7_isOf_24 : decode cX7_isOf 24 = .ok (.iload_n 0, 1) := by decide +kernel
theorem dX7_isOf_25 : decode cX7_isOf 25 = .ok (.iconst 2, 1) := by decide +kernel
theorem dX7_isOf_26 : decode cX7_isOf 26 = .ok (.if_icmp .le 8, 3) := by decide +kernel
theorem dX7_isOf_29 : decode cX7_isOf 29 = .ok (.iload_n 0, 1) := by decide +kernel
theorem dX7_isOf_30 : decode cX7_isOf 30 = .ok (.iconst 3, 1) := by decide +kernel
theorem dX7_isOf_31 : decode cX7_isOf 31 = .ok (.if_icmp .ne 13, 3) := by decide +kernel
theorem dX7_isOf_34 : decode cX7_isOf 34 = .ok (.iload_n 1, 1) := by decide +kernel
theorem dX7_isOf_35 : decode cX7_isOf 35 = .ok (.iconst 4, 1) := by decide +kernel
theorem dX7_isOf_36 : decode cX7_isOf 36 = .ok (.if_icmp .ne 12, 3) := by decide +kernel
theorem dX7_isOf_39 : decode cX7_isOf 39 = .ok (.iload_n 0, 1) := by decide +kernel
theorem dX7_isOf_40 : decode cX7_isOf 40 = .ok (.iconst 5, 1) := by decide +kernel
theorem dX7_isOf_41 : decode cX7_isOf 41 = .ok (.if_icmp .ne 7, 3) := by decide +kernel
theorem dX7_isOf_44 : decode cX7_isOf 44 = .ok (.iconst 1, 1) := by decide +kernel
theorem dX7_isOf_45 : decode cX7_isOf 45 = .ok (.goto 4, 3) := by decide +kernel
theorem dX7_isOf_48 : decode cX7_isOf 48 = .ok (.iconst 0, 1) := by decide +kernel
theorem dX7_isOf_49 : decode cX7_isOf 49 = .ok (.ireturn, 1) := by decide +kernel
theorem dX7_kind_0 : decode cX7_kind 0 = .ok (.aload_n 0, 1) := by decide +kernel
theorem dX7_kind_1 : decode cX7_kind 1 = .ok (.iconst 0, 1) := by decide +kernel
theorem dX7_kind_2 : decode cX7_kind 2 = .ok (.putfield 62, 3) := by decide +kernel
theorem dX7_kind_5 : decode cX7_kind 5 = .ok (.aload_n 0, 1) := by decide +kernel
theorem dX7_kind_6 : decode cX7_kind 6 = .ok (.iload_n 1, 1) := by decide +kernel
theorem dX7_kind_7 : decode cX7_kind 7 = .ok (.invokevirtual 192, 3) := by decide +kernel
theorem dX7_kind_10 : decode cX7_kind 10 = .ok (.ifCond .eq 12, 3) := by decide +kernel
theorem dX7_kind_13 : decode cX7_kind 13 = .ok (.aload_n 0, 1) := by decide +kernel
theorem dX7_kind_14 : decode cX7_kind 14 = .ok (.iload_n 1, 1) := by decide +kernel
theorem dX7_kind_15 : decode cX7_kind 15 = .ok (.invokevirtual 314, 3) := by decide +kernel
theorem dX7_kind_18 : decode cX7_kind 18 = .ok (.i2l, 1) := by decide +kernel
theorem dX7_kind_19 : decode cX7_kind 19 = .ok (.goto 6, 3) := by decide +kernel
theorem dX7_kind_22 : decode cX7_kind 22 = .ok (.ldc2_w 83, 3) := by decide +kernel
theorem dX7_kind_25 : decode cX7_kind 25 = .ok (.lreturn, 1) := by decide +kernel
theorem dX7_as_0 : decode cX7_as 0 = .ok (.aload_n 0, 1) := by decide +kernel
theorem dX7_as_1 : decode cX7_as 1 = .ok (.iconst 0, 1) := by decide +kernel
theorem dX7_as_2 : decode cX7_as 2 = .ok (.putfield 62, 3) := by decide +kernel
theorem dX7_as_5 : decode cX7_as 5 = .ok (.aload_n 0, 1) := by decide +kernel
theorem dX7_as_6 : decode cX7_as 6 = .ok (.iload_n 1, 1) := by decide +kernel
theorem dX7_as_7 : decode cX7_as 7 = .ok (.invokevirtual 192, 3) := by decide +kernel
theorem dX7_as_10 : decode cX7_as 10 = .ok (.ifCond .eq 15, 3) := by decide +kernel
theorem dX7_as_13 : decode cX7_as 13 = .ok (.iload_n 2, 1) := by decide +kernel
theorem dX7_as_14 : decode cX7_as 14 = .ok (.i2l, 1) := by decide +kernel
theorem dX7_as_15 : decode cX7_as 15 = .ok (.lconst 0, 1) := by decide +kernel
theorem dX7_as_16 : decode cX7_as 16 = .ok (.ldc2_w 303, 3) := by decide +kernel
theorem dX7_as_19 : decode cX7_as 19 = .ok (.invokestatic 73, 3) := by decide +kernel
theorem dX7_as_22 : decode cX7_as 22 = .ok (.ifCond .ne 7, 3) := by decide +kernel
theorem dX7_as_25 : decode cX7_as 25 = .ok (.ldc2_w 83, 3) := by decide +kernel
theorem dX7_as_28 : decode cX7_as 28 = .ok (.lreturn, 1) := by decide +kernel
theorem dX7_as_29 : decode cX7_as 29 = .ok (.aload_n 0, 1) := by decide +kernel
theorem dX7_as_30 : decode cX7_as 30 = .ok (.iconst 0, 1) := by decide +kernel
theorem dX7_as_31 : decode cX7_as 31 = .ok (.putfield 66, 3) := by decide +kernel
theorem dX7_as_34 : decode cX7_as 34 = .ok (.aload_n 0, 1) := by decide +kernel
theorem dX7_as_35 : decode cX7_as 35 = .ok (.iload_n 1, 1) := by decide +kernel
theorem dX7_as_36 : decode cX7_as 36 = .ok (.invokevirtual 314, 3) := by decide +kernel
theorem dX7_as_39 : decode cX7_as 39 = .ok (.iload_n 2, 1) := by decide +kernel
theorem dX7_as_40 : decode cX7_as 40 = .ok (.invokestatic 317, 3) := by decide +kernel
theorem dX7_as_43 : decode cX7_as 43 = .ok (.ifCond .eq 8, 3) := by decide +kernel
theorem dX7_as_46 : decode cX7_as 46 = .ok (.iload_n 1, 1) := by decide +kernel
theorem dX7_as_47 : decode cX7_as 47 = .ok (.i2l, 1) := by decide +kernel
theorem dX7_as_48 : decode cX7_as 48 = .ok (.goto 8, 3) := by decide +kernel
theorem dX7_as_51 : decode cX7_as 51 = .ok (.aload_n 0, 1) := by decide +kernel
theorem dX7_as_52 : decode cX7_as 52 = .ok (.iconst 3, 1) := by decide +kernel
theorem dX7_as_53 : decode cX7_as 53 = .ok (.invokevirtual 85, 3) := by decide +kernel
theorem dX7_as_56 : decode cX7_as 56 = .ok (.lreturn, 1) := by decide +kernel
theorem dX7_began_0 : decode cX7_began 0 = .ok (.aload_n 0, 1) := by decide +kernel
theorem dX7_began_1 : decode cX7_began 1 = .ok (.getfield 320, 3) := by decide +kernel
theorem dX7_began_4 : decode cX7_began 4 = .ok (.bipush 16, 2) := by decide +kernel
theorem dX7_began_6 : decode cX7_began 6 = .ok (.if_icmp .ge 23, 3) := by decide +kernel
theorem dX7_began_9 : decode cX7_began 9 = .ok (.aload_n 0, 1) := by decide +kernel
theorem dX7_began_10 : decode cX7_began 10 = .ok (.getfield 59, 3) := by decide +kernel
theorem dX7_began_13 : decode cX7_began 13 = .ok (.aload_n 0, 1) := by decide +kernel
theorem dX7_began_14 : decode cX7_began 14 = .ok (.getfield 320, 3) := by decide +kernel
theorem dX7_began_17 : decode cX7_began 17 = .ok (.iload_n 1, 1) := by decide +kernel
theorem dX7_began_18 : decode cX7_began 18 = .ok (.iastore, 1) := by decide +kernel
theorem dX7_began_19 : decode cX7_began 19 = .ok (.aload_n 0, 1) := by decide +kernel
theorem dX7_began_20 : decode cX7_began 20 = .ok (.dup, 1) := by decide +kernel
theorem dX7_began_21 : decode cX7_began 21 = .ok (.getfield 320, 3) := by decide +kernel
theorem dX7_began_24 : decode cX7_began 24 = .ok (.iconst 1, 1) := by decide +kernel
theorem dX7_began_25 : decode cX7_began 25 = .ok (.iadd, 1) := by decide +kernel
theorem dX7_began_26 : decode cX7_began 26 = .ok (.putfield 320, 3) := by decide +kernel
theorem dX7_began_29 : decode cX7_began 29 = .ok (.return_, 1) := by decide +kernel
theorem dX7_shareOf_0 : decode cX7_shareOf 0 = .ok (.aload_n 0, 1) := by decide +kernel
theorem dX7_shareOf_1 : decode cX7_shareOf 1 = .ok (.bipush 10, 2) := by decide +kernel
theorem dX7_shareOf_3 : decode cX7_shareOf 3 = .ok (.invokevirtual 323, 3) := by decide +kernel
theorem dX7_shareOf_6 : decode cX7_shareOf 6 = .ok (.aload_n 0, 1) := by decide +kernel
theorem dX7_shareOf_7 : decode cX7_shareOf 7 = .ok (.getfield 19, 3) := by decide +kernel
theorem dX7_shareOf_10 : decode cX7_shareOf 10 = .ok (.iload_n 1, 1) := by decide +kernel
theorem dX7_shareOf_11 : decode cX7_shareOf 11 = .ok (.iaload, 1) := by decide +kernel
theorem dX7_shareOf_12 : decode cX7_shareOf 12 = .ok (.ireturn, 1) := by decide +kernel
theorem dX7_aloneMark_0 : decode cX7_aloneMark 0 = .ok (.iload_n 2, 1) := by decide +kernel
theorem dX7_aloneMark_1 : decode cX7_aloneMark 1 = .ok (.iconst 4, 1) := by decide +kernel
theorem dX7_aloneMark_2 : decode cX7_aloneMark 2 = .ok (.invokestatic 317, 3) := by decide +kernel
theorem dX7_aloneMark_5 : decode cX7_aloneMark 5 = .ok (.ifCond .eq 9, 3) := by decide +kernel
theorem dX7_aloneMark_8 : decode cX7_aloneMark 8 = .ok (.aload_n 0, 1) := by decide +kernel
theorem dX7_aloneMark_9 : decode cX7_aloneMark 9 = .ok (.bipush 23, 2) := by decide +kernel
theorem dX7_aloneMark_11 : decode cX7_aloneMark 11 = .ok (.invokevirtual 323, 3) := by decide +kernel
theorem dX7_aloneMark_14 : decode cX7_aloneMark 14 = .ok (.aload_n 0, 1) := by decide +kernel
theorem dX7_aloneMark_15 : decode cX7_aloneMark 15 = .ok (.bipush 21, 2) := by decide +kernel
theorem dX7_aloneMark_17 : decode cX7_aloneMark 17 = .ok (.invokevirtual 323, 3) := by decide +kernel
theorem dX7_aloneMark_20 : decode cX7_aloneMark 20 = .ok (.aload_n 0, 1) := by decide +kernel
theorem dX7_aloneMark_21 : decode cX7_aloneMark 21 = .ok (.bipush 20, 2) := by decide +kernel
theorem dX7_aloneMark_23 : decode cX7_aloneMark 23 = .ok (.invokevirtual 323, 3) := by decide +kernel
theorem dX7_aloneMark_26 : decode cX7_aloneMark 26 = .ok (.aload_n 0, 1) := by decide +kernel
theorem dX7_aloneMark_27 : decode cX7_aloneMark 27 = .ok (.aload_n 0, 1) := by decide +kernel
theorem dX7_aloneMark_28 : decode cX7_aloneMark 28 = .ok (.invokevirtual 244, 3) := by decide +kernel
theorem dX7_aloneMark_31 : decode cX7_aloneMark 31 = .ok (.iload_n 1, 1) := by decide +kernel
theorem dX7_aloneMark_32 : decode cX7_aloneMark 32 = .ok (.invokevirtual 211, 3) := by decide +kernel
theorem dX7_aloneMark_35 : decode cX7_aloneMark 35 = .ok (.istore_n 3, 1) := by decide +kernel
theorem dX7_aloneMark_36 : decode cX7_aloneMark 36 = .ok (.iload_n 3, 1) := by decide +kernel
theorem dX7_aloneMark_37 : decode cX7_aloneMark 37 = .ok (.iconst 1, 1) := by decide +kernel
theorem dX7_aloneMark_38 : decode cX7_aloneMark 38 = .ok (.if_icmp .ne 7, 3) := by decide +kernel
theorem dX7_aloneMark_41 : decode cX7_aloneMark 41 = .ok (.iconst 0, 1) := by decide +kernel
theorem dX7_aloneMark_42 : decode cX7_aloneMark 42 = .ok (.goto 13, 3) := by decide +kernel
theorem dX7_aloneMark_45 : decode cX7_aloneMark 45 = .ok (.iload_n 3, 1) := by decide +kernel
theorem dX7_aloneMark_46 : decode cX7_aloneMark 46 = .ok (.iconst 2, 1) := by decide +kernel
theorem dX7_aloneMark_47 : decode cX7_aloneMark 47 = .ok (.if_icmp .ne 7, 3) := by decide +kernel
theorem dX7_aloneMark_50 : decode cX7_aloneMark 50 = .ok (.iconst 1, 1) := by decide +kernel
theorem dX7_aloneMark_51 : decode cX7_aloneMark 51 = .ok (.goto 4, 3) := by decide +kernel
theorem dX7_aloneMark_54 : decode cX7_aloneMark 54 = .ok (.iconst 2, 1) := by decide +kernel
theorem dX7_aloneMark_55 : decode cX7_aloneMark 55 = .ok (.istore 4, 2) := by decide +kernel
theorem dX7_aloneMark_57 : decode cX7_aloneMark 57 = .ok (.iload_n 1, 1) := by decide +kernel
theorem dX7_aloneMark_58 : decode cX7_aloneMark 58 = .ok (.bipush 10, 2) := by decide +kernel
theorem dX7_aloneMark_60 : decode cX7_aloneMark 60 = .ok (.iload 4, 2) := by decide +kernel
theorem dX7_aloneMark_62 : decode cX7_aloneMark 62 = .ok (.imul, 1) := by decide +kernel
theorem dX7_aloneMark_63 : decode cX7_aloneMark 63 = .ok (.iadd, 1) := by decide +kernel
theorem dX7_aloneMark_64 : decode cX7_aloneMark 64 = .ok (.iload_n 2, 1) := by decide +kernel
theorem dX7_aloneMark_65 : decode cX7_aloneMark 65 = .ok (.iconst 4, 1) := by decide +kernel
theorem dX7_aloneMark_66 : decode cX7_aloneMark 66 = .ok (.invokestatic 317, 3) := by decide +kernel
theorem dX7_aloneMark_69 : decode cX7_aloneMark 69 = .ok (.ifCond .eq 8, 3) := by decide +kernel
theorem dX7_aloneMark_72 : decode cX7_aloneMark 72 = .ok (.bipush 100, 2) := by decide +kernel
theorem dX7_aloneMark_74 : decode cX7_aloneMark 74 = .ok (.goto 4, 3) := by decide +kernel
theorem dX7_aloneMark_77 : decode cX7_aloneMark 77 = .ok (.iconst 0, 1) := by decide +kernel
theorem dX7_aloneMark_78 : decode cX7_aloneMark 78 = .ok (.iadd, 1) := by decide +kernel
theorem dX7_aloneMark_79 : decode cX7_aloneMark 79 = .ok (.ireturn, 1) := by decide +kernel
theorem dX7_commonSize_0 : decode cX7_commonSize 0 = .ok (.iload_n 2, 1) := by decide +kernel
theorem dX7_commonSize_1 : decode cX7_commonSize 1 = .ok (.iconst 3, 1) := by decide +kernel
theorem dX7_commonSize_2 : decode cX7_commonSize 2 = .ok (.if_icmp .ne 9, 3) := by decide +kernel
theorem dX7_commonSize_5 : decode cX7_commonSize 5 = .ok (.aload_n 0, 1) := by decide +kernel
theorem dX7_commonSize_6 : decode cX7_commonSize 6 = .ok (.bipush 13, 2) := by decide +kernel
theorem dX7_commonSize_8 : decode cX7_commonSize 8 = .ok (.invokevirtual 323, 3) := by decide +kernel
theorem dX7_commonSize_11 : decode cX7_commonSize 11 = .ok (.aload_n 0, 1) := by decide +kernel
theorem dX7_commonSize_12 : decode cX7_commonSize 12 = .ok (.bipush 12, 2) := by decide +kernel
theorem dX7_commonSize_14 : decode cX7_commonSize 14 = .ok (.invokevirtual 323, 3) := by decide +kernel
theorem dX7_commonSize_17 : decode cX7_commonSize 17 = .ok (.aload_n 0, 1) := by decide +kernel
theorem dX7_commonSize_18 : decode cX7_commonSize 18 = .ok (.iload_n 1, 1) := by decide +kernel
theorem dX7_commonSize_19 : decode cX7_commonSize 19 = .ok (.invokevirtual 326, 3) := by decide +kernel
theorem dX7_commonSize_22 : decode cX7_commonSize 22 = .ok (.aload_n 0, 1) := by decide +kernel
theorem dX7_commonSize_23 : decode cX7_commonSize 23 = .ok (.aload_n 0, 1) := by decide +kernel
theorem dX7_commonSize_24 : decode cX7_commonSize 24 = .ok (.invokevirtual 244, 3) := by decide +kernel
theorem dX7_commonSize_27 : decode cX7_commonSize 27 = .ok (.iload_n 1, 1) := by decide +kernel
theorem dX7_commonSize_28 : decode cX7_commonSize 28 = .ok (.invokevirtual 211, 3) := by decide +kernel
theorem dX7_commonSize_31 : decode cX7_commonSize 31 = .ok (.invokestatic 309, 3) := by decide +kernel
theorem dX7_commonSize_34 : decode cX7_commonSize 34 = .ok (.imul, 1) := by decide +kernel
theorem dX7_commonSize_35 : decode cX7_commonSize 35 = .ok (.istore_n 3, 1) := by decide +kernel
theorem dX7_commonSize_36 : decode cX7_commonSize 36 = .ok (.iload_n 2, 1) := by decide +kernel
theorem dX7_commonSize_37 : decode cX7_commonSize 37 = .ok (.iconst 3, 1) := by decide +kernel
theorem dX7_commonSize_38 : decode cX7_commonSize 38 = .ok (.if_icmp .ne 9, 3) := by decide +kernel
theorem dX7_commonSize_41 : decode cX7_commonSize 41 = .ok (.iload_n 3, 1) := by decide +kernel
theorem dX7_commonSize_42 : decode cX7_commonSize 42 = .ok (.iconst 1, 1) := by decide +kernel
theorem dX7_commonSize_43 : decode cX7_commonSize 43 = .ok (.isub, 1) := by decide +kernel
theorem dX7_commonSize_44 : decode cX7_commonSize 44 = .ok (.goto 4, 3) := by decide +kernel
theorem dX7_commonSize_47 : decode cX7_commonSize 47 = .ok (.iload_n 3, 1) := by decide +kernel
theorem dX7_commonSize_48 : decode cX7_commonSize 48 = .ok (.ireturn, 1) := by decide +kernel
theorem dX7_sizeOf_0 : decode cX7_sizeOf 0 = .ok (.iload_n 2, 1) := by decide +kernel
theorem dX7_sizeOf_1 : decode cX7_sizeOf 1 = .ok (.iconst 2, 1) := by decide +kernel
theorem dX7_sizeOf_2 : decode cX7_sizeOf 2 = .ok (.invokestatic 317, 3) := by decide +kernel
theorem dX7_sizeOf_5 : decode cX7_sizeOf 5 = .ok (.ifCond .eq 10, 3) := by decide +kernel
theorem dX7_sizeOf_8 : decode cX7_sizeOf 8 = .ok (.aload_n 0, 1) := by decide +kernel
theorem dX7_sizeOf_9 : decode cX7_sizeOf 9 = .ok (.iload_n 1, 1) := by decide +kernel
theorem dX7_sizeOf_10 : decode cX7_sizeOf 10 = .ok (.iload_n 2, 1) := by decide +kernel
theorem dX7_sizeOf_11 : decode cX7_sizeOf 11 = .ok (.invokevirtual 329, 3) := by decide +kernel
theorem dX7_sizeOf_14 : decode cX7_sizeOf 14 = .ok (.ireturn, 1) := by decide +kernel
theorem dX7_sizeOf_15 : decode cX7_sizeOf 15 = .ok (.iload_n 2, 1) := by decide +kernel
theorem dX7_sizeOf_16 : decode cX7_sizeOf 16 = .ok (.iconst 5, 1) := by decide +kernel
theorem dX7_sizeOf_17 : decode cX7_sizeOf 17 = .ok (.if_icmp .ne 9, 3) := by decide +kernel
theorem dX7_sizeOf_20 : decode cX7_sizeOf 20 = .ok (.aload_n 0, 1) := by decide +kernel
theorem dX7_sizeOf_21 : decode cX7_sizeOf 21 = .ok (.bipush 15, 2) := by decide +kernel
theorem dX7_sizeOf_23 : decode cX7_sizeOf 23 = .ok (.invokevirtual 323, 3) := by decide +kernel
theorem dX7_sizeOf_26 : decode cX7_sizeOf 26 = .ok (.iload_n 2, 1) := by decide +kernel
theorem dX7_sizeOf_27 : decode cX7_sizeOf 27 = .ok (.iconst 4, 1) := by decide +kernel
theorem dX7_sizeOf_28 : decode cX7_sizeOf 28 = .ok (.invokestatic 317, 3) := by decide +kernel
theorem dX7_sizeOf_31 : decode cX7_sizeOf 31 = .ok (.ifCond .eq 9, 3) := by decide +kernel
theorem dX7_sizeOf_34 : decode cX7_sizeOf 34 = .ok (.aload_n 0, 1) := by decide +kernel
theorem dX7_sizeOf_35 : decode cX7_sizeOf 35 = .ok (.bipush 14, 2) := by decide +kernel
theorem dX7_sizeOf_37 : decode cX7_sizeOf 37 = .ok (.invokevirtual 323, 3) := by decide +kernel
theorem dX7_sizeOf_40 : decode cX7_sizeOf 40 = .ok (.aload_n 0, 1) := by decide +kernel
theorem dX7_sizeOf_41 : decode cX7_sizeOf 41 = .ok (.bipush 11, 2) := by decide +kernel
theorem dX7_sizeOf_43 : decode cX7_sizeOf 43 = .ok (.invokevirtual 323, 3) := by decide +kernel
theorem dX7_sizeOf_46 : decode cX7_sizeOf 46 = .ok (.aload_n 0, 1) := by decide +kernel
theorem dX7_sizeOf_47 : decode cX7_sizeOf 47 = .ok (.iload_n 1, 1) := by decide +kernel
theorem dX7_sizeOf_48 : decode cX7_sizeOf 48 = .ok (.invokevirtual 326, 3) := by decide +kernel
theorem dX7_sizeOf_51 : decode cX7_sizeOf 51 = .ok (.istore_n 3, 1) := by decide +kernel
theorem dX7_sizeOf_52 : decode cX7_sizeOf 52 = .ok (.iload_n 3, 1) := by decide +kernel
theorem dX7_sizeOf_53 : decode cX7_sizeOf 53 = .ok (.aload_n 0, 1) := by decide +kernel
theorem dX7_sizeOf_54 : decode cX7_sizeOf 54 = .ok (.iload_n 1, 1) := by decide +kernel
theorem dX7_sizeOf_55 : decode cX7_sizeOf 55 = .ok (.iload_n 2, 1) := by decide +kernel
theorem dX7_sizeOf_56 : decode cX7_sizeOf 56 = .ok (.invokevirtual 332, 3) := by decide +kernel
theorem dX7_sizeOf_59 : decode cX7_sizeOf 59 = .ok (.iadd, 1) := by decide +kernel
theorem dX7_sizeOf_60 : decode cX7_sizeOf 60 = .ok (.istore_n 3, 1) := by decide +kernel
theorem dX7_sizeOf_61 : decode cX7_sizeOf 61 = .ok (.iload_n 2, 1) := by decide +kernel
theorem dX7_sizeOf_62 : decode cX7_sizeOf 62 = .ok (.iconst 4, 1) := by decide +kernel
theorem dX7_sizeOf_63 : decode cX7_sizeOf 63 = .ok (.invokestatic 317, 3) := by decide +kernel
theorem dX7_sizeOf_66 : decode cX7_sizeOf 66 = .ok (.ifCond .eq 9, 3) := by decide +kernel
theorem dX7_sizeOf_69 : decode cX7_sizeOf 69 = .ok (.iconst 2, 1) := by decide +kernel
theorem dX7_sizeOf_70 : decode cX7_sizeOf 70 = .ok (.iload_n 3, 1) := by decide +kernel
theorem dX7_sizeOf_71 : decode cX7_sizeOf 71 = .ok (.imul, 1) := by decide +kernel
theorem dX7_sizeOf_72 : decode cX7_sizeOf 72 = .ok (.goto 4, 3) := by decide +kernel
theorem dX7_sizeOf_75 : decode cX7_sizeOf 75 = .ok (.iload_n 3, 1) := by decide +kernel
theorem dX7_sizeOf_76 : decode cX7_sizeOf 76 = .ok (.istore_n 3, 1) := by decide +kernel
theorem dX7_sizeOf_77 : decode cX7_sizeOf 77 = .ok (.iload_n 2, 1) := by decide +kernel
theorem dX7_sizeOf_78 : decode cX7_sizeOf 78 = .ok (.iconst 5, 1) := by decide +kernel
theorem dX7_sizeOf_79 : decode cX7_sizeOf 79 = .ok (.if_icmp .ne 14, 3) := by decide +kernel
theorem dX7_sizeOf_82 : decode cX7_sizeOf 82 = .ok (.iload_n 3, 1) := by decide +kernel
theorem dX7_sizeOf_83 : decode cX7_sizeOf 83 = .ok (.aload_n 0, 1) := by decide +kernel
theorem dX7_sizeOf_84 : decode cX7_sizeOf 84 = .ok (.iload_n 1, 1) := by decide +kernel
theorem dX7_sizeOf_85 : decode cX7_sizeOf 85 = .ok (.iload_n 2, 1) := by decide +kernel
theorem dX7_sizeOf_86 : decode cX7_sizeOf 86 = .ok (.invokevirtual 332, 3) := by decide +kernel
theorem dX7_sizeOf_89 : decode cX7_sizeOf 89 = .ok (.isub, 1) := by decide +kernel
theorem dX7_sizeOf_90 : decode cX7_sizeOf 90 = .ok (.goto 4, 3) := by decide +kernel
theorem dX7_sizeOf_93 : decode cX7_sizeOf 93 = .ok (.iload_n 3, 1) := by decide +kernel
theorem dX7_sizeOf_94 : decode cX7_sizeOf 94 = .ok (.ireturn, 1) := by decide +kernel
theorem dX7_markOf_0 : decode cX7_markOf 0 = .ok (.iload_n 2, 1) := by decide +kernel
theorem dX7_markOf_1 : decode cX7_markOf 1 = .ok (.iconst 2, 1) := by decide +kernel
theorem dX7_markOf_2 : decode cX7_markOf 2 = .ok (.invokestatic 317, 3) := by decide +kernel
theorem dX7_markOf_5 : decode cX7_markOf 5 = .ok (.ifCond .ne 10, 3) := by decide +kernel
theorem dX7_markOf_8 : decode cX7_markOf 8 = .ok (.aload_n 0, 1) := by decide +kernel
theorem dX7_markOf_9 : decode cX7_markOf 9 = .ok (.iload_n 1, 1) := by decide +kernel
theorem dX7_markOf_10 : decode cX7_markOf 10 = .ok (.iload_n 2, 1) := by decide +kernel
theorem dX7_markOf_11 : decode cX7_markOf 11 = .ok (.invokevirtual 332, 3) := by decide +kernel
theorem dX7_markOf_14 : decode cX7_markOf 14 = .ok (.ireturn, 1) := by decide +kernel
theorem dX7_markOf_15 : decode cX7_markOf 15 = .ok (.iload_n 2, 1) := by decide +kernel
theorem dX7_markOf_16 : decode cX7_markOf 16 = .ok (.iconst 3, 1) := by decide +kernel
theorem dX7_markOf_17 : decode cX7_markOf 17 = .ok (.if_icmp .ne 9, 3) := by decide +kernel
theorem dX7_markOf_20 : decode cX7_markOf 20 = .ok (.aload_n 0, 1) := by decide +kernel
theorem dX7_markOf_21 : decode cX7_markOf 21 = .ok (.bipush 22, 2) := by decide +kernel
theorem dX7_markOf_23 : decode cX7_markOf 23 = .ok (.invokevirtual 323, 3) := by decide +kernel
theorem dX7_markOf_26 : decode cX7_markOf 26 = .ok (.aload_n 0, 1) := by decide +kernel
theorem dX7_markOf_27 : decode cX7_markOf 27 = .ok (.bipush 20, 2) := by decide +kernel
theorem dX7_markOf_29 : decode cX7_markOf 29 = .ok (.invokevirtual 323, 3) := by decide +kernel
theorem dX7_markOf_32 : decode cX7_markOf 32 = .ok (.iload_n 2, 1) := by decide +kernel
theorem dX7_markOf_33 : decode cX7_markOf 33 = .ok (.iconst 3, 1) := by decide +kernel
theorem dX7_markOf_34 : decode cX7_markOf 34 = .ok (.if_icmp .ne 14, 3) := by decide +kernel
theorem dX7_markOf_37 : decode cX7_markOf 37 = .ok (.iload_n 1, 1) := by decide +kernel
theorem dX7_markOf_38 : decode cX7_markOf 38 = .ok (.aload_n 0, 1) := by decide +kernel
theorem dX7_markOf_39 : decode cX7_markOf 39 = .ok (.iload_n 1, 1) := by decide +kernel
theorem dX7_markOf_40 : decode cX7_markOf 40 = .ok (.iload_n 2, 1) := by decide +kernel
theorem dX7_markOf_41 : decode cX7_markOf 41 = .ok (.invokevirtual 329, 3) := by decide +kernel
theorem dX7_markOf_44 : decode cX7_markOf 44 = .ok (.iadd, 1) := by decide +kernel
theorem dX7_markOf_45 : decode cX7_markOf 45 = .ok (.goto 4, 3) := by decide +kernel
theorem dX7_markOf_48 : decode cX7_markOf 48 = .ok (.iload_n 1, 1) := by decide +kernel
theorem dX7_markOf_49 : decode cX7_markOf 49 = .ok (.ireturn, 1) := by decide +kernel
theorem dX7_ask_0 : decode cX7_ask 0 = .ok (.aload_n 0, 1) := by decide +kernel
theorem dX7_ask_1 : decode cX7_ask 1 = .ok (.iconst 0, 1) := by decide +kernel
theorem dX7_ask_2 : decode cX7_ask 2 = .ok (.putfield 62, 3) := by decide +kernel
theorem dX7_ask_5 : decode cX7_ask 5 = .ok (.aload_n 0, 1) := by decide +kernel
theorem dX7_ask_6 : decode cX7_ask 6 = .ok (.iload_n 1, 1) := by decide +kernel
theorem dX7_ask_7 : decode cX7_ask 7 = .ok (.invokevirtual 192, 3) := by decide +kernel
theorem dX7_ask_10 : decode cX7_ask 10 = .ok (.ifCond .eq 13, 3) := by decide +kernel
theorem dX7_ask_13 : decode cX7_ask 13 = .ok (.iload_n 2, 1) := by decide +kernel
theorem dX7_ask_14 : decode cX7_ask 14 = .ok (.i2l, 1) := by decide +kernel
theorem dX7_ask_15 : decode cX7_ask 15 = .ok (.lconst 0, 1) := by decide +kernel
theorem dX7_ask_16 : decode cX7_ask 16 = .ok (.lconst 1, 1) := by decide +kernel
theorem dX7_ask_17 : decode cX7_ask 17 = .ok (.invokestatic 73, 3) := by decide +kernel
theorem dX7_ask_20 : decode cX7_ask 20 = .ok (.ifCond .ne 7, 3) := by decide +kernel
theorem dX7_ask_23 : decode cX7_ask 23 = .ok (.ldc2_w 83, 3) := by decide +kernel
theorem dX7_ask_26 : decode cX7_ask 26 = .ok (.lreturn, 1) := by decide +kernel
theorem dX7_ask_27 : decode cX7_ask 27 = .ok (.aload_n 0, 1) := by decide +kernel
theorem dX7_ask_28 : decode cX7_ask 28 = .ok (.iconst 0, 1) := by decide +kernel
theorem dX7_ask_29 : decode cX7_ask 29 = .ok (.putfield 320, 3) := by decide +kernel
theorem dX7_ask_32 : decode cX7_ask 32 = .ok (.aload_n 0, 1) := by decide +kernel
theorem dX7_ask_33 : decode cX7_ask 33 = .ok (.iload_n 1, 1) := by decide +kernel
theorem dX7_ask_34 : decode cX7_ask 34 = .ok (.invokevirtual 314, 3) := by decide +kernel
theorem dX7_ask_37 : decode cX7_ask 37 = .ok (.istore_n 3, 1) := by decide +kernel
theorem dX7_ask_38 : decode cX7_ask 38 = .ok (.iload_n 2, 1) := by decide +kernel
theorem dX7_ask_39 : decode cX7_ask 39 = .ok (.ifCond .ne 13, 3) := by decide +kernel
theorem dX7_ask_42 : decode cX7_ask 42 = .ok (.aload_n 0, 1) := by decide +kernel
theorem dX7_ask_43 : decode cX7_ask 43 = .ok (.iload_n 1, 1) := by decide +kernel
theorem dX7_ask_44 : decode cX7_ask 44 = .ok (.iload_n 3, 1) := by decide +kernel
theorem dX7_ask_45 : decode cX7_ask 45 = .ok (.invokevirtual 335, 3) := by decide +kernel
theorem dX7_ask_48 : decode cX7_ask 48 = .ok (.i2l, 1) := by decide +kernel
theorem dX7_ask_49 : decode cX7_ask 49 = .ok (.goto 10, 3) := by decide +kernel
theorem dX7_ask_52 : decode cX7_ask 52 = .ok (.aload_n 0, 1) := by decide +kernel
theorem dX7_ask_53 : decode cX7_ask 53 = .ok (.iload_n 1, 1) := by decide +kernel
theorem dX7_ask_54 : decode cX7_ask 54 = .ok (.iload_n 3, 1) := by decide +kernel
theorem dX7_ask_55 : decode cX7_ask 55 = .ok (.invokevirtual 338, 3) := by decide +kernel
theorem dX7_ask_58 : decode cX7_ask 58 = .ok (.i2l, 1) := by decide +kernel
theorem dX7_ask_59 : decode cX7_ask 59 = .ok (.lreturn, 1) := by decide +kernel
theorem dX7_trace_0 : decode cX7_trace 0 = .ok (.aload_n 0, 1) := by decide +kernel
theorem dX7_trace_1 : decode cX7_trace 1 = .ok (.iconst 0, 1) := by decide +kernel
theorem dX7_trace_2 : decode cX7_trace 2 = .ok (.putfield 62, 3) := by decide +kernel
theorem dX7_trace_5 : decode cX7_trace 5 = .ok (.iload_n 1, 1) := by decide +kernel
theorem dX7_trace_6 : decode cX7_trace 6 = .ok (.i2l, 1) := by decide +kernel
theorem dX7_trace_7 : decode cX7_trace 7 = .ok (.lconst 0, 1) := by decide +kernel
theorem dX7_trace_8 : decode cX7_trace 8 = .ok (.aload_n 0, 1) := by decide +kernel
theorem dX7_trace_9 : decode cX7_trace 9 = .ok (.getfield 320, 3) := by decide +kernel
theorem dX7_trace_12 : decode cX7_trace 12 = .ok (.iconst 1, 1) := by decide +kernel
theorem dX7_trace_13 : decode cX7_trace 13 = .ok (.isub, 1) := by decide +kernel
theorem dX7_trace_14 : decode cX7_trace 14 = .ok (.i2l, 1) := by decide +kernel
theorem dX7_trace_15 : decode cX7_trace 15 = .ok (.invokestatic 73, 3) := by decide +kernel
theorem dX7_trace_18 : decode cX7_trace 18 = .ok (.ifCond .eq 12, 3) := by decide +kernel
theorem dX7_trace_21 : decode cX7_trace 21 = .ok (.aload_n 0, 1) := by decide +kernel
theorem dX7_trace_22 : decode cX7_trace 22 = .ok (.getfield 59, 3) := by decide +kernel
theorem dX7_trace_25 : decode cX7_trace 25 = .ok (.iload_n 1, 1) := by decide +kernel
theorem dX7_trace_26 : decode cX7_trace 26 = .ok (.iaload, 1) := by decide +kernel
theorem dX7_trace_27 : decode cX7_trace 27 = .ok (.goto 5, 3) := by decide +kernel
theorem dX7_trace_30 : decode cX7_trace 30 = .ok (.ldc 101, 2) := by decide +kernel
theorem dX7_trace_32 : decode cX7_trace 32 = .ok (.ireturn, 1) := by decide +kernel
theorem dX7_count_0 : decode cX7_count 0 = .ok (.aload_n 0, 1) := by decide +kernel
theorem dX7_count_1 : decode cX7_count 1 = .ok (.iconst 0, 1) := by decide +kernel
theorem dX7_count_2 : decode cX7_count 2 = .ok (.putfield 62, 3) := by decide +kernel
theorem dX7_count_5 : decode cX7_count 5 = .ok (.iconst 0, 1) := by decide +kernel
theorem dX7_count_6 : decode cX7_count 6 = .ok (.istore_n 2, 1) := by decide +kernel
theorem dX7_count_7 : decode cX7_count 7 = .ok (.iload_n 1, 1) := by decide +kernel
theorem dX7_count_8 : decode cX7_count 8 = .ok (.tableswitch 174 0 5 #[40, 74, 80, 86, 114, 168], 40) := by decide +kernel
theorem dX7_count_48 : decode cX7_count 48 = .ok (.iconst 0, 1) := by decide +kernel
theorem dX7_count_49 : decode cX7_count 49 = .ok (.istore_n 3, 1) := by decide +kernel
theorem dX7_count_50 : decode cX7_count 50 = .ok (.iload_n 3, 1) := by decide +kernel
theorem dX7_count_51 : decode cX7_count 51 = .ok (.bipush 8, 2) := by decide +kernel
theorem dX7_count_53 : decode cX7_count 53 = .ok (.if_icmp .ge 26, 3) := by decide +kernel
theorem dX7_count_56 : decode cX7_count 56 = .ok (.iload_n 2, 1) := by decide +kernel
theorem dX7_count_57 : decode cX7_count 57 = .ok (.aload_n 0, 1) := by decide +kernel
theorem dX7_count_58 : decode cX7_count 58 = .ok (.getfield 9, 3) := by decide +kernel
theorem dX7_count_61 : decode cX7_count 61 = .ok (.iload_n 3, 1) := by decide +kernel
theorem dX7_count_62 : decode cX7_count 62 = .ok (.iaload, 1) := by decide +kernel
theorem dX7_count_63 : decode cX7_count 63 = .ok (.ifCond .lt 7, 3) := by decide +kernel
theorem dX7_count_66 : decode cX7_count 66 = .ok (.iconst 1, 1) := by decide +kernel
theorem dX7_count_67 : decode cX7_count 67 = .ok (.goto 4, 3) := by decide +kernel
theorem dX7_count_70 : decode cX7_count 70 = .ok (.iconst 0, 1) := by decide +kernel
theorem dX7_count_71 : decode cX7_count 71 = .ok (.iadd, 1) := by decide +kernel
theorem dX7_count_72 : decode cX7_count 72 = .ok (.istore_n 2, 1) := by decide +kernel
theorem dX7_count_73 : decode cX7_count 73 = .ok (.iinc 3 1, 3) := by decide +kernel
theorem dX7_count_76 : decode cX7_count 76 = .ok (.goto (-26), 3) := by decide +kernel
theorem dX7_count_79 : decode cX7_count 79 = .ok (.iload_n 2, 1) := by decide +kernel
theorem dX7_count_80 : decode cX7_count 80 = .ok (.i2l, 1) := by decide +kernel
theorem dX7_count_81 : decode cX7_count 81 = .ok (.lreturn, 1) := by decide +kernel
theorem dX7_count_82 : decode cX7_count 82 = .ok (.aload_n 0, 1) := by decide +kernel
theorem dX7_count_83 : decode cX7_count 83 = .ok (.getfield 176, 3) := by decide +kernel
theorem dX7_count_86 : decode cX7_count 86 = .ok (.i2l, 1) := by decide +kernel
theorem dX7_count_87 : decode cX7_count 87 = .ok (.lreturn, 1) := by decide +kernel
theorem dX7_count_88 : decode cX7_count 88 = .ok (.aload_n 0, 1) := by decide +kernel
theorem dX7_count_89 : decode cX7_count 89 = .ok (.getfield 179, 3) := by decide +kernel
theorem dX7_count_92 : decode cX7_count 92 = .ok (.i2l, 1) := by decide +kernel
theorem dX7_count_93 : decode cX7_count 93 = .ok (.lreturn, 1) := by decide +kernel
theorem dX7_count_94 : decode cX7_count 94 = .ok (.iconst 0, 1) := by decide +kernel
theorem dX7_count_95 : decode cX7_count 95 = .ok (.istore_n 3, 1) := by decide +kernel
theorem dX7_count_96 : decode cX7_count 96 = .ok (.iload_n 3, 1) := by decide +kernel
theorem dX7_count_97 : decode cX7_count 97 = .ok (.aload_n 0, 1) := by decide +kernel
theorem dX7_count_98 : decode cX7_count 98 = .ok (.getfield 176, 3) := by decide +kernel
theorem dX7_count_101 : decode cX7_count 101 = .ok (.if_icmp .ge 18, 3) := by decide +kernel
theorem dX7_count_104 : decode cX7_count 104 = .ok (.iload_n 2, 1) := by decide +kernel
theorem dX7_count_105 : decode cX7_count 105 = .ok (.aload_n 0, 1) := by decide +kernel
theorem dX7_count_106 : decode cX7_count 106 = .ok (.getfield 22, 3) := by decide +kernel
theorem dX7_count_109 : decode cX7_count 109 = .ok (.iload_n 3, 1) := by decide +kernel
theorem dX7_count_110 : decode cX7_count 110 = .ok (.iaload, 1) := by decide +kernel
theorem dX7_count_111 : decode cX7_count 111 = .ok (.iadd, 1) := by decide +kernel
theorem dX7_count_112 : decode cX7_count 112 = .ok (.istore_n 2, 1) := by decide +kernel
theorem dX7_count_113 : decode cX7_count 113 = .ok (.iinc 3 1, 3) := by decide +kernel
theorem dX7_count_116 : decode cX7_count 116 = .ok (.goto (-20), 3) := by decide +kernel
theorem dX7_count_119 : decode cX7_count 119 = .ok (.iload_n 2, 1) := by decide +kernel
theorem dX7_count_120 : decode cX7_count 120 = .ok (.i2l, 1) := by decide +kernel
theorem dX7_count_121 : decode cX7_count 121 = .ok (.lreturn, 1) := by decide +kernel
theorem dX7_count_122 : decode cX7_count 122 = .ok (.aload_n 0, 1) := by decide +kernel
theorem dX7_count_123 : decode cX7_count 123 = .ok (.getfield 176, 3) := by decide +kernel
theorem dX7_count_126 : decode cX7_count 126 = .ok (.ifCond .le 7, 3) := by decide +kernel
theorem dX7_count_129 : decode cX7_count 129 = .ok (.aload_n 0, 1) := by decide +kernel
theorem dX7_count_130 : decode cX7_count 130 = .ok (.invokevirtual 254, 3) := by decide +kernel
theorem dX7_count_133 : decode cX7_count 133 = .ok (.iconst 0, 1) := by decide +kernel
theorem dX7_count_134 : decode cX7_count 134 = .ok (.istore_n 3, 1) := by decide +kernel
theorem dX7_count_135 : decode cX7_count 135 = .ok (.iload_n 3, 1) := by decide +kernel
theorem dX7_count_136 : decode cX7_count 136 = .ok (.aload_n 0, 1) := by decide +kernel
theorem dX7_count_137 : decode cX7_count 137 = .ok (.getfield 179, 3) := by decide +kernel
theorem dX7_count_140 : decode cX7_count 140 = .ok (.if_icmp .ge 33, 3) := by decide +kernel
theorem dX7_count_143 : decode cX7_count 143 = .ok (.iload_n 2, 1) := by decide +kernel
theorem dX7_count_144 : decode cX7_count 144 = .ok (.aload_n 0, 1) := by decide +kernel
theorem dX7_count_145 : decode cX7_count 145 = .ok (.aload_n 0, 1) := by decide +kernel
theorem dX7_count_146 : decode cX7_count 146 = .ok (.invokevirtual 244, 3) := by decide +kernel
theorem dX7_count_149 : decode cX7_count 149 = .ok (.iload_n 3, 1) := by decide +kernel
theorem dX7_count_150 : decode cX7_count 150 = .ok (.invokevirtual 211, 3) := by decide +kernel
theorem dX7_count_153 : decode cX7_count 153 = .ok (.invokestatic 309, 3) := by decide +kernel
theorem dX7_count_156 : decode cX7_count 156 = .ok (.iconst 1, 1) := by decide +kernel
theorem dX7_count_157 : decode cX7_count 157 = .ok (.if_icmp .le 7, 3) := by decide +kernel
theorem dX7_count_160 : decode cX7_count 160 = .ok (.iconst 1, 1) := by decide +kernel
theorem dX7_count_161 : decode cX7_count 161 = .ok (.goto 4, 3) := by decide +kernel
theorem dX7_count_164 : decode cX7_count 164 = .ok (.iconst 0, 1) := by decide +kernel
theorem dX7_count_165 : decode cX7_count 165 = .ok (.iadd, 1) := by decide +kernel
theorem dX7_count_166 : decode cX7_count 166 = .ok (.istore_n 2, 1) := by decide +kernel
theorem dX7_count_167 : decode cX7_count 167 = .ok (.iinc 3 1, 3) := by decide +kernel
theorem dX7_count_170 : decode cX7_count 170 = .ok (.goto (-35), 3) := by decide +kernel
theorem dX7_count_173 : decode cX7_count 173 = .ok (.iload_n 2, 1) := by decide +kernel
theorem dX7_count_174 : decode cX7_count 174 = .ok (.i2l, 1) := by decide +kernel
theorem dX7_count_175 : decode cX7_count 175 = .ok (.lreturn, 1) := by decide +kernel
theorem dX7_count_176 : decode cX7_count 176 = .ok (.aload_n 0, 1) := by decide +kernel
theorem dX7_count_177 : decode cX7_count 177 = .ok (.getfield 91, 3) := by decide +kernel
theorem dX7_count_180 : decode cX7_count 180 = .ok (.i2l, 1) := by decide +kernel
theorem dX7_count_181 : decode cX7_count 181 = .ok (.lreturn, 1) := by decide +kernel
theorem dX7_count_182 : decode cX7_count 182 = .ok (.ldc2_w 83, 3) := by decide +kernel
theorem dX7_count_185 : decode cX7_count 185 = .ok (.lreturn, 1) := by decide +kernel
theorem dX7_status_0 : decode cX7_status 0 = .ok (.aload_n 0, 1) := by decide +kernel
theorem dX7_status_1 : decode cX7_status 1 = .ok (.iconst 0, 1) := by decide +kernel
theorem dX7_status_2 : decode cX7_status 2 = .ok (.putfield 62, 3) := by decide +kernel
theorem dX7_status_5 : decode cX7_status 5 = .ok (.aload_n 0, 1) := by decide +kernel
theorem dX7_status_6 : decode cX7_status 6 = .ok (.getfield 66, 3) := by decide +kernel
theorem dX7_status_9 : decode cX7_status 9 = .ok (.ireturn, 1) := by decide +kernel
end
section
theorem dJ6_bitCount_0f7a4_0 : decode cJ6_bitCount_0f7a4 0 = .ok (.iload_n 0, 1) := by decide +kernel
theorem dJ6_bitCount_0f7a4_1 : decode cJ6_bitCount_0f7a4 1 = .ok (.iload_n 0, 1) := by decide +kernel
theorem dJ6_bitCount_0f7a4_2 : decode cJ6_bitCount_0f7a4 2 = .ok (.iconst 1, 1) := by decide +kernel
theorem dJ6_bitCount_0f7a4_3 : decode cJ6_bitCount_0f7a4 3 = .ok (.iushr, 1) := by decide +kernel
theorem dJ6_bitCount_0f7a4_4 : decode cJ6_bitCount_0f7a4 4 = .ok (.ldc_w 265, 3) := by decide +kernel
theorem dJ6_bitCount_0f7a4_7 : decode cJ6_bitCount_0f7a4 7 = .ok (.iand, 1) := by decide +kernel
theorem dJ6_bitCount_0f7a4_8 : decode cJ6_bitCount_0f7a4 8 = .ok (.isub, 1) := by decide +kernel
theorem dJ6_bitCount_0f7a4_9 : decode cJ6_bitCount_0f7a4 9 = .ok (.istore_n 0, 1) := by decide +kernel
theorem dJ6_bitCount_0f7a4_10 : decode cJ6_bitCount_0f7a4 10 = .ok (.iload_n 0, 1) := by decide +kernel
theorem dJ6_bitCount_0f7a4_11 : decode cJ6_bitCount_0f7a4 11 = .ok (.ldc_w 266, 3) := by decide +kernel
theorem dJ6_bitCount_0f7a4_14 : decode cJ6_bitCount_0f7a4 14 = .ok (.iand, 1) := by decide +kernel
theorem dJ6_bitCount_0f7a4_15 : decode cJ6_bitCount_0f7a4 15 = .ok (.iload_n 0, 1) := by decide +kernel
theorem dJ6_bitCount_0f7a4_16 : decode cJ6_bitCount_0f7a4 16 = .ok (.iconst 2, 1) := by decide +kernel
theorem dJ6_bitCount_0f7a4_17 : decode cJ6_bitCount_0f7a4 17 = .ok (.iushr, 1) := by decide +kernel
theorem dJ6_bitCount_0f7a4_18 : decode cJ6_bitCount_0f7a4 18 = .ok (.ldc_w 266, 3) := by decide +kernel
theorem dJ6_bitCount_0f7a4_21 : decode cJ6_bitCount_0f7a4 21 = .ok (.iand, 1) := by decide +kernel
theorem dJ6_bitCount_0f7a4_22 : decode cJ6_bitCount_0f7a4 22 = .ok (.iadd, 1) := by decide +kernel
theorem dJ6_bitCount_0f7a4_23 : decode cJ6_bitCount_0f7a4 23 = .ok (.istore_n 0, 1) := by decide +kernel
theorem dJ6_bitCount_0f7a4_24 : decode cJ6_bitCount_0f7a4 24 = .ok (.iload_n 0, 1) := by decide +kernel
theorem dJ6_bitCount_0f7a4_25 : decode cJ6_bitCount_0f7a4 25 = .ok (.iload_n 0, 1) := by decide +kernel
theorem dJ6_bitCount_0f7a4_26 : decode cJ6_bitCount_0f7a4 26 = .ok (.iconst 4, 1) := by decide +kernel
theorem dJ6_bitCount_0f7a4_27 : decode cJ6_bitCount_0f7a4 27 = .ok (.iushr, 1) := by decide +kernel
theorem dJ6_bitCount_0f7a4_28 : decode cJ6_bitCount_0f7a4 28 = .ok (.iadd, 1) := by decide +kernel
theorem dJ6_bitCount_0f7a4_29 : decode cJ6_bitCount_0f7a4 29 = .ok (.ldc_w 267, 3) := by decide +kernel
theorem dJ6_bitCount_0f7a4_32 : decode cJ6_bitCount_0f7a4 32 = .ok (.iand, 1) := by decide +kernel
theorem dJ6_bitCount_0f7a4_33 : decode cJ6_bitCount_0f7a4 33 = .ok (.istore_n 0, 1) := by decide +kernel
theorem dJ6_bitCount_0f7a4_34 : decode cJ6_bitCount_0f7a4 34 = .ok (.iload_n 0, 1) := by decide +kernel
theorem dJ6_bitCount_0f7a4_35 : decode cJ6_bitCount_0f7a4 35 = .ok (.iload_n 0, 1) := by decide +kernel
theorem dJ6_bitCount_0f7a4_36 : decode cJ6_bitCount_0f7a4 36 = .ok (.bipush 8, 2) := by decide +kernel
theorem dJ6_bitCount_0f7a4_38 : decode cJ6_bitCount_0f7a4 38 = .ok (.iushr, 1) := by decide +kernel
theorem dJ6_bitCount_0f7a4_39 : decode cJ6_bitCount_0f7a4 39 = .ok (.iadd, 1) := by decide +kernel
theorem dJ6_bitCount_0f7a4_40 : decode cJ6_bitCount_0f7a4 40 = .ok (.istore_n 0, 1) := by decide +kernel
theorem dJ6_bitCount_0f7a4_41 : decode cJ6_bitCount_0f7a4 41 = .ok (.iload_n 0, 1) := by decide +kernel
theorem dJ6_bitCount_0f7a4_42 : decode cJ6_bitCount_0f7a4 42 = .ok (.iload_n 0, 1) := by decide +kernel
theorem dJ6_bitCount_0f7a4_43 : decode cJ6_bitCount_0f7a4 43 = .ok (.bipush 16, 2) := by decide +kernel
theorem dJ6_bitCount_0f7a4_45 : decode cJ6_bitCount_0f7a4 45 = .ok (.iushr, 1) := by decide +kernel
theorem dJ6_bitCount_0f7a4_46 : decode cJ6_bitCount_0f7a4 46 = .ok (.iadd, 1) := by decide +kernel
theorem dJ6_bitCount_0f7a4_47 : decode cJ6_bitCount_0f7a4 47 = .ok (.istore_n 0, 1) := by decide +kernel
theorem dJ6_bitCount_0f7a4_48 : decode cJ6_bitCount_0f7a4 48 = .ok (.iload_n 0, 1) := by decide +kernel
theorem dJ6_bitCount_0f7a4_49 : decode cJ6_bitCount_0f7a4 49 = .ok (.bipush 63, 2) := by decide +kernel
theorem dJ6_bitCount_0f7a4_51 : decode cJ6_bitCount_0f7a4 51 = .ok (.iand, 1) := by decide +kernel
theorem dJ6_bitCount_0f7a4_52 : decode cJ6_bitCount_0f7a4 52 = .ok (.ireturn, 1) := by decide +kernel
theorem dJ9_min_f86c9_0 : decode cJ9_min_f86c9 0 = .ok (.lload_n 0, 1) := by decide +kernel
theorem dJ9_min_f86c9_1 : decode cJ9_min_f86c9 1 = .ok (.lload_n 2, 1) := by decide +kernel
theorem dJ9_min_f86c9_2 : decode cJ9_min_f86c9 2 = .ok (.lcmp, 1) := by decide +kernel
theorem dJ9_min_f86c9_3 : decode cJ9_min_f86c9 3 = .ok (.ifCond .gt 7, 3) := by decide +kernel
theorem dJ9_min_f86c9_6 : decode cJ9_min_f86c9 6 = .ok (.lload_n 0, 1) := by decide +kernel
theorem dJ9_min_f86c9_7 : decode cJ9_min_f86c9 7 = .ok (.goto 4, 3) := by decide +kernel
theorem dJ9_min_f86c9_10 : decode cJ9_min_f86c9 10 = .ok (.lload_n 2, 1) := by decide +kernel
theorem dJ9_min_f86c9_11 : decode cJ9_min_f86c9 11 = .ok (.lreturn, 1) := by decide +kernel
theorem dJ0_length_8abf5_0 : decode cJ0_length_8abf5 0 = .ok (.aload_n 0, 1) := by decide +kernel
theorem dJ0_length_8abf5_1 : decode cJ0_length_8abf5 1 = .ok (.getfield 9, 3) := by decide +kernel
theorem dJ0_length_8abf5_4 : decode cJ0_length_8abf5 4 = .ok (.arraylength, 1) := by decide +kernel
theorem dJ0_length_8abf5_5 : decode cJ0_length_8abf5 5 = .ok (.aload_n 0, 1) := by decide +kernel
theorem dJ0_length_8abf5_6 : decode cJ0_length_8abf5 6 = .ok (.invokevirtual 335, 3) := by decide +kernel
theorem dJ0_length_8abf5_9 : decode cJ0_length_8abf5 9 = .ok (.ishr, 1) := by decide +kernel
theorem dJ0_length_8abf5_10 : decode cJ0_length_8abf5 10 = .ok (.ireturn, 1) := by decide +kernel
theorem dJ0_charAt_5068e_0 : decode cJ0_charAt_5068e 0 = .ok (.aload_n 0, 1) := by decide +kernel
theorem dJ0_charAt_5068e_1 : decode cJ0_charAt_5068e 1 = .ok (.invokevirtual 492, 3) := by decide +kernel
theorem dJ0_charAt_5068e_4 : decode cJ0_charAt_5068e 4 = .ok (.ifCond .eq 12, 3) := by decide +kernel
theorem dJ0_charAt_5068e_7 : decode cJ0_charAt_5068e 7 = .ok (.aload_n 0, 1) := by decide +kernel
theorem dJ0_charAt_5068e_8 : decode cJ0_charAt_5068e 8 = .ok (.getfield 9, 3) := by decide +kernel
theorem dJ0_charAt_5068e_11 : decode cJ0_charAt_5068e 11 = .ok (.iload_n 1, 1) := by decide +kernel
theorem dJ0_charAt_5068e_12 : decode cJ0_charAt_5068e 12 = .ok (.invokestatic 495, 3) := by decide +kernel
theorem dJ0_charAt_5068e_15 : decode cJ0_charAt_5068e 15 = .ok (.ireturn, 1) := by decide +kernel
theorem dJ0_charAt_5068e_16 : decode cJ0_charAt_5068e 16 = .ok (.aload_n 0, 1) := by decide +kernel
theorem dJ0_charAt_5068e_17 : decode cJ0_charAt_5068e 17 = .ok (.getfield 9, 3) := by decide +kernel
theorem dJ0_charAt_5068e_20 : decode cJ0_charAt_5068e 20 = .ok (.iload_n 1, 1) := by decide +kernel
theorem dJ0_charAt_5068e_21 : decode cJ0_charAt_5068e 21 = .ok (.invokestatic 498, 3) := by decide +kernel
theorem dJ0_charAt_5068e_24 : decode cJ0_charAt_5068e 24 = .ok (.ireturn, 1) := by decide +kernel
theorem dJ0_coder_7d493_0 : decode cJ0_coder_7d493 0 = .ok (.getstatic 38, 3) := by decide +kernel
theorem dJ0_coder_7d493_3 : decode cJ0_coder_7d493 3 = .ok (.ifCond .eq 10, 3) := by decide +kernel
theorem dJ0_coder_7d493_6 : decode cJ0_coder_7d493 6 = .ok (.aload_n 0, 1) := by decide +kernel
theorem dJ0_coder_7d493_7 : decode cJ0_coder_7d493 7 = .ok (.getfield 15, 3) := by decide +kernel
theorem dJ0_coder_7d493_10 : decode cJ0_coder_7d493 10 = .ok (.goto 4, 3) := by decide +kernel
theorem dJ0_coder_7d493_13 : decode cJ0_coder_7d493 13 = .ok (.iconst 1, 1) := by decide +kernel
theorem dJ0_coder_7d493_14 : decode cJ0_coder_7d493 14 = .ok (.ireturn, 1) := by decide +kernel
theorem dJ0_isLatin1_aae02_0 : decode cJ0_isLatin1_aae02 0 = .ok (.getstatic 38, 3) := by decide +kernel
theorem dJ0_isLatin1_aae02_3 : decode cJ0_isLatin1_aae02 3 = .ok (.ifCond .eq 14, 3) := by decide +kernel
theorem dJ0_isLatin1_aae02_6 : decode cJ0_isLatin1_aae02 6 = .ok (.aload_n 0, 1) := by decide +kernel
theorem dJ0_isLatin1_aae02_7 : decode cJ0_isLatin1_aae02 7 = .ok (.getfield 15, 3) := by decide +kernel
theorem dJ0_isLatin1_aae02_10 : decode cJ0_isLatin1_aae02 10 = .ok (.ifCond .ne 7, 3) := by decide +kernel
theorem dJ0_isLatin1_aae02_13 : decode cJ0_isLatin1_aae02 13 = .ok (.iconst 1, 1) := by decide +kernel
theorem dJ0_isLatin1_aae02_14 : decode cJ0_isLatin1_aae02 14 = .ok (.goto 4, 3) := by decide +kernel
theorem dJ0_isLatin1_aae02_17 : decode cJ0_isLatin1_aae02 17 = .ok (.iconst 0, 1) := by decide +kernel
theorem dJ0_isLatin1_aae02_18 : decode cJ0_isLatin1_aae02 18 = .ok (.ireturn, 1) := by decide +kernel
theorem dJ0_checkIndex_df160_0 : decode cJ0_checkIndex_df160 0 = .ok (.iload_n 0, 1) := by decide +kernel
theorem dJ0_checkIndex_df160_1 : decode cJ0_checkIndex_df160 1 = .ok (.iload_n 1, 1) := by decide +kernel
theorem dJ0_checkIndex_df160_2 : decode cJ0_checkIndex_df160 2 = .ok (.getstatic 1053, 3) := by decide +kernel
theorem dJ0_checkIndex_df160_5 : decode cJ0_checkIndex_df160 5 = .ok (.invokestatic 1059, 3) := by decide +kernel
theorem dJ0_checkIndex_df160_8 : decode cJ0_checkIndex_df160 8 = .ok (.pop, 1) := by decide +kernel
theorem dJ0_checkIndex_df160_9 : decode cJ0_checkIndex_df160 9 = .ok (.return_, 1) := by decide +kernel
theorem dJ1_charAt_3b067_0 : decode cJ1_charAt_3b067 0 = .ok (.iload_n 1, 1) := by decide +kernel
theorem dJ1_charAt_3b067_1 : decode cJ1_charAt_3b067 1 = .ok (.aload_n 0, 1) := by decide +kernel
theorem dJ1_charAt_3b067_2 : decode cJ1_charAt_3b067 2 = .ok (.arraylength, 1) := by decide +kernel
theorem dJ1_charAt_3b067_3 : decode cJ1_charAt_3b067 3 = .ok (.invokestatic 9, 3) := by decide +kernel
theorem dJ1_charAt_3b067_6 : decode cJ1_charAt_3b067 6 = .ok (.aload_n 0, 1) := by decide +kernel
theorem dJ1_charAt_3b067_7 : decode cJ1_charAt_3b067 7 = .ok (.iload_n 1, 1) := by decide +kernel
theorem dJ1_charAt_3b067_8 : decode cJ1_charAt_3b067 8 = .ok (.baload, 1) := by decide +kernel
theorem dJ1_charAt_3b067_9 : decode cJ1_charAt_3b067 9 = .ok (.sipush 255, 3) := by decide +kernel
theorem dJ1_charAt_3b067_12 : decode cJ1_charAt_3b067 12 = .ok (.iand, 1) := by decide +kernel
theorem dJ1_charAt_3b067_13 : decode cJ1_charAt_3b067 13 = .ok (.i2c, 1) := by decide +kernel
theorem dJ1_charAt_3b067_14 : decode cJ1_charAt_3b067 14 = .ok (.ireturn, 1) := by decide +kernel
theorem dJ2_getChar_3b067_0 : decode cJ2_getChar_3b067 0 = .ok (.getstatic 44, 3) := by decide +kernel
theorem dJ2_getChar_3b067_3 : decode cJ2_getChar_3b067 3 = .ok (.ifCond .ne 25, 3) := by decide +kernel
theorem dJ2_getChar_3b067_6 : decode cJ2_getChar_3b067 6 = .ok (.iload_n 1, 1) := by decide +kernel
theorem dJ2_getChar_3b067_7 : decode cJ2_getChar_3b067 7 = .ok (.ifCond .lt 11, 3) := by decide +kernel
theorem dJ2_getChar_3b067_10 : decode cJ2_getChar_3b067 10 = .ok (.iload_n 1, 1) := by decide +kernel
theorem dJ2_getChar_3b067_11 : decode cJ2_getChar_3b067 11 = .ok (.aload_n 0, 1) := by decide +kernel
theorem dJ2_getChar_3b067_12 : decode cJ2_getChar_3b067 12 = .ok (.invokestatic 48, 3) := by decide +kernel
theorem dJ2_getChar_3b067_15 : decode cJ2_getChar_3b067 15 = .ok (.if_icmp .lt 13, 3) := by decide +kernel
theorem dJ2_getChar_3b067_18 : decode cJ2_getChar_3b067 18 = .ok (.new 52, 3) := by decide +kernel
theorem dJ2_getChar_3b067_21 : decode cJ2_getChar_3b067 21 = .ok (.dup, 1) := by decide +kernel
theorem dJ2_getChar_3b067_22 : decode cJ2_getChar_3b067 22 = .ok (.ldc 54, 2) := by decide +kernel
theorem dJ2_getChar_3b067_24 : decode cJ2_getChar_3b067 24 = .ok (.invokespecial 56, 3) := by decide +kernel
theorem dJ2_getChar_3b067_27 : decode cJ2_getChar_3b067 27 = .ok (.athrow, 1) := by decide +kernel
theorem dJ2_getChar_3b067_28 : decode cJ2_getChar_3b067 28 = .ok (.iload_n 1, 1) := by decide +kernel
theorem dJ2_getChar_3b067_29 : decode cJ2_getChar_3b067 29 = .ok (.iconst 1, 1) := by decide +kernel
theorem dJ2_getChar_3b067_30 : decode cJ2_getChar_3b067 30 = .ok (.ishl, 1) := by decide +kernel
theorem dJ2_getChar_3b067_31 : decode cJ2_getChar_3b067 31 = .ok (.istore_n 1, 1) := by decide +kernel
theorem dJ2_getChar_3b067_32 : decode cJ2_getChar_3b067 32 = .ok (.aload_n 0, 1) := by decide +kernel
theorem dJ2_getChar_3b067_33 : decode cJ2_getChar_3b067 33 = .ok (.iload_n 1, 1) := by decide +kernel
theorem dJ2_getChar_3b067_34 : decode cJ2_getChar_3b067 34 = .ok (.iinc 1 1, 3) := by decide +kernel
theorem dJ2_getChar_3b067_37 : decode cJ2_getChar_3b067 37 = .ok (.baload, 1) := by decide +kernel
theorem dJ2_getChar_3b067_38 : decode cJ2_getChar_3b067 38 = .ok (.sipush 255, 3) := by decide +kernel
theorem dJ2_getChar_3b067_41 : decode cJ2_getChar_3b067 41 = .ok (.iand, 1) := by decide +kernel
theorem dJ2_getChar_3b067_42 : decode cJ2_getChar_3b067 42 = .ok (.getstatic 59, 3) := by decide +kernel
theorem dJ2_getChar_3b067_45 : decode cJ2_getChar_3b067 45 = .ok (.ishl, 1) := by decide +kernel
theorem dJ2_getChar_3b067_46 : decode cJ2_getChar_3b067 46 = .ok (.aload_n 0, 1) := by decide +kernel
theorem dJ2_getChar_3b067_47 : decode cJ2_getChar_3b067 47 = .ok (.iload_n 1, 1) := by decide +kernel
theorem dJ2_getChar_3b067_48 : decode cJ2_getChar_3b067 48 = .ok (.baload, 1) := by decide +kernel
theorem dJ2_getChar_3b067_49 : decode cJ2_getChar_3b067 49 = .ok (.sipush 255, 3) := by decide +kernel
theorem dJ2_getChar_3b067_52 : decode cJ2_getChar_3b067 52 = .ok (.iand, 1) := by decide +kernel
theorem dJ2_getChar_3b067_53 : decode cJ2_getChar_3b067 53 = .ok (.getstatic 63, 3) := by decide +kernel
theorem dJ2_getChar_3b067_56 : decode cJ2_getChar_3b067 56 = .ok (.ishl, 1) := by decide +kernel
theorem dJ2_getChar_3b067_57 : decode cJ2_getChar_3b067 57 = .ok (.ior, 1) := by decide +kernel
theorem dJ2_getChar_3b067_58 : decode cJ2_getChar_3b067 58 = .ok (.i2c, 1) := by decide +kernel
theorem dJ2_getChar_3b067_59 : decode cJ2_getChar_3b067 59 = .ok (.ireturn, 1) := by decide +kernel
theorem dJ2_length_9d52b_0 : decode cJ2_length_9d52b 0 = .ok (.aload_n 0, 1) := by decide +kernel
theorem dJ2_length_9d52b_1 : decode cJ2_length_9d52b 1 = .ok (.arraylength, 1) := by decide +kernel
theorem dJ2_length_9d52b_2 : decode cJ2_length_9d52b 2 = .ok (.iconst 1, 1) := by decide +kernel
theorem dJ2_length_9d52b_3 : decode cJ2_length_9d52b 3 = .ok (.ishr, 1) := by decide +kernel
theorem dJ2_length_9d52b_4 : decode cJ2_length_9d52b 4 = .ok (.ireturn, 1) := by decide +kernel
theorem dJ2_charAt_3b067_0 : decode cJ2_charAt_3b067 0 = .ok (.iload_n 1, 1) := by decide +kernel
theorem dJ2_charAt_3b067_1 : decode cJ2_charAt_3b067 1 = .ok (.aload_n 0, 1) := by decide +kernel
theorem dJ2_charAt_3b067_2 : decode cJ2_charAt_3b067 2 = .ok (.invokestatic 67, 3) := by decide +kernel
theorem dJ2_charAt_3b067_5 : decode cJ2_charAt_3b067 5 = .ok (.aload_n 0, 1) := by decide +kernel
theorem dJ2_charAt_3b067_6 : decode cJ2_charAt_3b067 6 = .ok (.iload_n 1, 1) := by decide +kernel
theorem dJ2_charAt_3b067_7 : decode cJ2_charAt_3b067 7 = .ok (.invokestatic 71, 3) := by decide +kernel
theorem dJ2_charAt_3b067_10 : decode cJ2_charAt_3b067 10 = .ok (.ireturn, 1) := by decide +kernel
theorem dJ2_checkIndex_2214a_0 : decode cJ2_checkIndex_2214a 0 = .ok (.iload_n 0, 1) := by decide +kernel
theorem dJ2_checkIndex_2214a_1 : decode cJ2_checkIndex_2214a 1 = .ok (.aload_n 1, 1) := by decide +kernel
theorem dJ2_checkIndex_2214a_2 : decode cJ2_checkIndex_2214a 2 = .ok (.invokestatic 48, 3) := by decide +kernel
theorem dJ2_checkIndex_2214a_5 : decode cJ2_checkIndex_2214a 5 = .ok (.invokestatic 414, 3) := by decide +kernel
theorem dJ2_checkIndex_2214a_8 : decode cJ2_checkIndex_2214a 8 = .ok (.return_, 1) := by decide +kernel
theorem dJ3_checkIndex_8e157_0 : decode cJ3_checkIndex_8e157 0 = .ok (.iload_n 0, 1) := by decide +kernel
theorem dJ3_checkIndex_8e157_1 : decode cJ3_checkIndex_8e157 1 = .ok (.ifCond .lt 8, 3) := by decide +kernel
theorem dJ3_checkIndex_8e157_4 : decode cJ3_checkIndex_8e157 4 = .ok (.iload_n 0, 1) := by decide +kernel
theorem dJ3_checkIndex_8e157_5 : decode cJ3_checkIndex_8e157 5 = .ok (.iload_n 1, 1) := by decide +kernel
theorem dJ3_checkIndex_8e157_6 : decode cJ3_checkIndex_8e157 6 = .ok (.if_icmp .lt 10, 3) := by decide +kernel
theorem dJ3_checkIndex_8e157_9 : decode cJ3_checkIndex_8e157 9 = .ok (.aload_n 2, 1) := by decide +kernel
theorem dJ3_checkIndex_8e157_10 : decode cJ3_checkIndex_8e157 10 = .ok (.iload_n 0, 1) := by decide +kernel
theorem dJ3_checkIndex_8e157_11 : decode cJ3_checkIndex_8e157 11 = .ok (.iload_n 1, 1) := by decide +kernel
theorem dJ3_checkIndex_8e157_12 : decode cJ3_checkIndex_8e157 12 = .ok (.invokestatic 95, 3) := by decide +kernel
theorem dJ3_checkIndex_8e157_15 : decode cJ3_checkIndex_8e157 15 = .ok (.athrow, 1) := by decide +kernel
theorem dJ3_checkIndex_8e157_16 : decode cJ3_checkIndex_8e157 16 = .ok (.iload_n 0, 1) := by decide +kernel
theorem dJ3_checkIndex_8e157_17 : decode cJ3_checkIndex_8e157 17 = .ok (.ireturn, 1) := by decide +kernel
theorem dL_law_0 : decode cL_law 0 = .ok (.new 7, 3) := by decide +kernel
theorem dL_law_3 : decode cL_law 3 = .ok (.dup, 1) := by decide +kernel
theorem dL_law_4 : decode cL_law 4 = .ok (.invokespecial 9, 3) := by decide +kernel
theorem dL_law_7 : decode cL_law 7 = .ok (.astore_n 1, 1) := by decide +kernel
theorem dL_law_8 : decode cL_law 8 = .ok (.new 10, 3) := by decide +kernel
theorem dL_law_11 : decode cL_law 11 = .ok (.dup, 1) := by decide +kernel
theorem dL_law_12 : decode cL_law 12 = .ok (.invokespecial 12, 3) := by decide +kernel
theorem dL_law_15 : decode cL_law 15 = .ok (.astore_n 2, 1) := by decide +kernel
theorem dL_law_16 : decode cL_law 16 = .ok (.iconst 0, 1) := by decide +kernel
theorem dL_law_17 : decode cL_law 17 = .ok (.istore_n 3, 1) := by decide +kernel
theorem dL_law_18 : decode cL_law 18 = .ok (.iload_n 3, 1) := by decide +kernel
theorem dL_law_19 : decode cL_law 19 = .ok (.aload_n 0, 1) := by decide +kernel
theorem dL_law_20 : decode cL_law 20 = .ok (.arraylength, 1) := by decide +kernel
theorem dL_law_21 : decode cL_law 21 = .ok (.bipush 6, 2) := by decide +kernel
theorem dL_law_23 : decode cL_law 23 = .ok (.isub, 1) := by decide +kernel
theorem dL_law_24 : decode cL_law 24 = .ok (.if_icmp .gt 987, 3) := by decide +kernel
theorem dL_law_27 : decode cL_law 27 = .ok (.aload_n 0, 1) := by decide +kernel
theorem dL_law_28 : decode cL_law 28 = .ok (.iload_n 3, 1) := by decide +kernel
theorem dL_law_29 : decode cL_law 29 = .ok (.iaload, 1) := by decide +kernel
theorem dL_law_30 : decode cL_law 30 = .ok (.bipush 31, 2) := by decide +kernel
theorem dL_law_32 : decode cL_law 32 = .ok (.iand, 1) := by decide +kernel
theorem dL_law_33 : decode cL_law 33 = .ok (.tableswitch 972 0 24 #[115, 159, 203, 267, 291, 355, 369, 382, 426, 460, 494, 538, 572, 616, 650, 694, 738, 762, 796, 820, 844, 878, 912, 935, 959], 115) := by decide +kernel
theorem dL_law_148 : decode cL_law 148 = .ok (.aload_n 1, 1) := by decide +kernel
theorem dL_law_149 : decode cL_law 149 = .ok (.aload_n 0, 1) := by decide +kernel
theorem dL_law_150 : decode cL_law 150 = .ok (.iload_n 3, 1) := by decide +kernel
theorem dL_law_151 : decode cL_law 151 = .ok (.iconst 1, 1) := by decide +kernel
theorem dL_law_152 : decode cL_law 152 = .ok (.iadd, 1) := by decide +kernel
theorem dL_law_153 : decode cL_law 153 = .ok (.iaload, 1) := by decide +kernel
theorem dL_law_154 : decode cL_law 154 = .ok (.aload_n 0, 1) := by decide +kernel
theorem dL_law_155 : decode cL_law 155 = .ok (.iload_n 3, 1) := by decide +kernel
theorem dL_law_156 : decode cL_law 156 = .ok (.iconst 2, 1) := by decide +kernel
theorem dL_law_157 : decode cL_law 157 = .ok (.iadd, 1) := by decide +kernel
theorem dL_law_158 : decode cL_law 158 = .ok (.iaload, 1) := by decide +kernel
theorem dL_law_159 : decode cL_law 159 = .ok (.aload_n 0, 1) := by decide +kernel
theorem dL_law_160 : decode cL_law 160 = .ok (.iload_n 3, 1) := by decide +kernel
theorem dL_law_161 : decode cL_law 161 = .ok (.iconst 3, 1) := by decide +kernel
theorem dL_law_162 : decode cL_law 162 = .ok (.iadd, 1) := by decide +kernel
theorem dL_law_163 : decode cL_law 163 = .ok (.iaload, 1) := by decide +kernel
theorem dL_law_164 : decode cL_law 164 = .ok (.invokevirtual 13, 3) := by decide +kernel
theorem dL_law_167 : decode cL_law 167 = .ok (.aload_n 2, 1) := by decide +kernel
theorem dL_law_168 : decode cL_law 168 = .ok (.aload_n 0, 1) := by decide +kernel
theorem dL_law_169 : decode cL_law 169 = .ok (.iload_n 3, 1) := by decide +kernel
theorem dL_law_170 : decode cL_law 170 = .ok (.iconst 1, 1) := by decide +kernel
theorem dL_law_171 : decode cL_law 171 = .ok (.iadd, 1) := by decide +kernel
theorem dL_law_172 : decode cL_law 172 = .ok (.iaload, 1) := by decide +kernel
theorem dL_law_173 : decode cL_law 173 = .ok (.aload_n 0, 1) := by decide +kernel
theorem dL_law_174 : decode cL_law 174 = .ok (.iload_n 3, 1) := by decide +kernel
theorem dL_law_175 : decode cL_law 175 = .ok (.iconst 2, 1) := by decide +kernel
theorem dL_law_176 : decode cL_law 176 = .ok (.iadd, 1) := by decide +kernel
theorem dL_law_177 : decode cL_law 177 = .ok (.iaload, 1) := by decide +kernel
theorem dL_law_178 : decode cL_law 178 = .ok (.aload_n 0, 1) := by decide +kernel
theorem dL_law_179 : decode cL_law 179 = .ok (.iload_n 3, 1) := by decide +kernel
theorem dL_law_180 : decode cL_law 180 = .ok (.iconst 3, 1) := by decide +kernel
theorem dL_law_181 : decode cL_law 181 = .ok (.iadd, 1) := by decide +kernel
theorem dL_law_182 : decode cL_law 182 = .ok (.iaload, 1) := by decide +kernel
theorem dL_law_183 : decode cL_law 183 = .ok (.invokevirtual 17, 3) := by decide +kernel
theorem dL_law_186 : decode cL_law 186 = .ok (.lcmp, 1) := by decide +kernel
theorem dL_law_187 : decode cL_law 187 = .ok (.ifCond .eq 818, 3) := by decide +kernel
theorem dL_law_190 : decode cL_law 190 = .ok (.iconst 0, 1) := by decide +kernel
theorem dL_law_191 : decode cL_law 191 = .ok (.ireturn, 1) := by decide +kernel
theorem dL_law_192 : decode cL_law 192 = .ok (.aload_n 1, 1) := by decide +kernel
theorem dL_law_193 : decode cL_law 193 = .ok (.aload_n 0, 1) := by decide +kernel
theorem dL_law_194 : decode cL_law 194 = .ok (.iload_n 3, 1) := by decide +kernel
theorem dL_law_195 : decode cL_law 195 = .ok (.iconst 1, 1) := by decide +kernel
theorem dL_law_196 : decode cL_law 196 = .ok (.iadd, 1) := by decide +kernel
theorem dL_law_197 : decode cL_law 197 = .ok (.iaload, 1) := by decide +kernel
theorem dL_law_198 : decode cL_law 198 = .ok (.aload_n 0, 1) := by decide +kernel
theorem dL_law_199 : decode cL_law 199 = .ok (.iload_n 3, 1) := by decide +kernel
theorem dL_law_200 : decode cL_law 200 = .ok (.iconst 2, 1) := by decide +kernel
theorem dL_law_201 : decode cL_law 201 = .ok (.iadd, 1) := by decide +kernel
theorem dL_law_202 : decode cL_law 202 = .ok (.iaload, 1) := by decide +kernel
theorem dL_law_203 : decode cL_law 203 = .ok (.aload_n 0, 1) := by decide +kernel
theorem dL_law_204 : decode cL_law 204 = .ok (.iload_n 3, 1) := by decide +kernel
theorem dL_law_205 : decode cL_law 205 = .ok (.iconst 3, 1) := by decide +kernel
theorem dL_law_206 : decode cL_law 206 = .ok (.iadd, 1) := by decide +kernel
theorem dL_law_207 : decode cL_law 207 = .ok (.iaload, 1) := by decide +kernel
theorem dL_law_208 : decode cL_law 208 = .ok (.invokevirtual 18, 3) := by decide +kernel
theorem dL_law_211 : decode cL_law 211 = .ok (.aload_n 2, 1) := by decide +kernel
theorem dL_law_212 : decode cL_law 212 = .ok (.aload_n 0, 1) := by decide +kernel
theorem dL_law_213 : decode cL_law 213 = .ok (.iload_n 3, 1) := by decide +kernel
theorem dL_law_214 : decode cL_law 214 = .ok (.iconst 1, 1) := by decide +kernel
theorem dL_law_215 : decode cL_law 215 = .ok (.iadd, 1) := by decide +kernel
theorem dL_law_216 : decode cL_law 216 = .ok (.iaload, 1) := by decide +kernel
theorem dL_law_217 : decode cL_law 217 = .ok (.aload_n 0, 1) := by decide +kernel
theorem dL_law_218 : decode cL_law 218 = .ok (.iload_n 3, 1) := by decide +kernel
theorem dL_law_219 : decode cL_law 219 = .ok (.iconst 2, 1) := by decide +kernel
theorem dL_law_220 : decode cL_law 220 = .ok (.iadd, 1) := by decide +kernel
theorem dL_law_221 : decode cL_law 221 = .ok (.iaload, 1) := by decide +kernel
theorem dL_law_222 : decode cL_law 222 = .ok (.aload_n 0, 1) := by decide +kernel
theorem dL_law_223 : decode cL_law 223 = .ok (.iload_n 3, 1) := by decide +kernel
theorem dL_law_224 : decode cL_law 224 = .ok (.iconst 3, 1) := by decide +kernel
theorem dL_law_225 : decode cL_law 225 = .ok (.iadd, 1) := by decide +kernel
theorem dL_law_226 : decode cL_law 226 = .ok (.iaload, 1) := by decide +kernel
theorem dL_law_227 : decode cL_law 227 = .ok (.invokevirtual 21, 3) := by decide +kernel
theorem dL_law_230 : decode cL_law 230 = .ok (.lcmp, 1) := by decide +kernel
theorem dL_law_231 : decode cL_law 231 = .ok (.ifCond .eq 774, 3) := by decide +kernel
theorem dL_law_234 : decode cL_law 234 = .ok (.iconst 0, 1) := by decide +kernel
theorem dL_law_235 : decode cL_law 235 = .ok (.ireturn, 1) := by decide +kernel
theorem dL_law_236 : decode cL_law 236 = .ok (.aload_n 1, 1) := by decide +kernel
theorem dL_law_237 : decode cL_law 237 = .ok (.aload_n 0, 1) := by decide +kernel
theorem dL_law_238 : decode cL_law 238 = .ok (.iload_n 3, 1) := by decide +kernel
theorem dL_law_239 : decode cL_law 239 = .ok (.iconst 1, 1) := by decide +kernel
theorem dL_law_240 : decode cL_law 240 = .ok (.iadd, 1) := by decide +kernel
theorem dL_law_241 : decode cL_law 241 = .ok (.iaload, 1) := by decide +kernel
theorem dL_law_242 : decode cL_law 242 = .ok (.aload_n 0, 1) := by decide +kernel
theorem dL_law_243 : decode cL_law 243 = .ok (.iload_n 3, 1) := by decide +kernel
theorem dL_law_244 : decode cL_law 244 = .ok (.iconst 2, 1) := by decide +kernel
theorem dL_law_245 : decode cL_law 245 = .ok (.iadd, 1) := by decide +kernel
theorem dL_law_246 : decode cL_law 246 = .ok (.iaload, 1) := by decide +kernel
theorem dL_law_247 : decode cL_law 247 = .ok (.aload_n 0, 1) := by decide +kernel
theorem dL_law_248 : decode cL_law 248 = .ok (.iload_n 3, 1) := by decide +kernel
theorem dL_law_249 : decode cL_law 249 = .ok (.iconst 3, 1) := by decide +kernel
theorem dL_law_250 : decode cL_law 250 = .ok (.iadd, 1) := by decide +kernel
theorem dL_law_251 : decode cL_law 251 = .ok (.iaload, 1) := by decide +kernel
theorem dL_law_252 : decode cL_law 252 = .ok (.aload_n 0, 1) := by decide +kernel
theorem dL_law_253 : decode cL_law 253 = .ok (.iload_n 3, 1) := by decide +kernel
theorem dL_law_254 : decode cL_law 254 = .ok (.iconst 4, 1) := by decide +kernel
theorem dL_law_255 : decode cL_law 255 = .ok (.iadd, 1) := by decide +kernel
theorem dL_law_256 : decode cL_law 256 = .ok (.iaload, 1) := by decide +kernel
theorem dL_law_257 : decode cL_law 257 = .ok (.aload_n 0, 1) := by decide +kernel
theorem dL_law_258 : decode cL_law 258 = .ok (.iload_n 3, 1) := by decide +kernel
theorem dL_law_259 : decode cL_law 259 = .ok (.iconst 5, 1) := by decide +kernel
theorem dL_law_260 : decode cL_law 260 = .ok (.iadd, 1) := by decide +kernel
theorem dL_law_261 : decode cL_law 261 = .ok (.iaload, 1) := by decide +kernel
theorem dL_law_262 : decode cL_law 262 = .ok (.invokevirtual 22, 3) := by decide +kernel
theorem dL_law_265 : decode cL_law 265 = .ok (.aload_n 2, 1) := by decide +kernel
theorem dL_law_266 : decode cL_law 266 = .ok (.aload_n 0, 1) := by decide +kernel
theorem dL_law_267 : decode cL_law 267 = .ok (.iload_n 3, 1) := by decide +kernel
theorem dL_law_268 : decode cL_law 268 = .ok (.iconst 1, 1) := by decide +kernel
theorem dL_law_269 : decode cL_law 269 = .ok (.iadd, 1) := by decide +kernel
theorem dL_law_270 : decode cL_law 270 = .ok (.iaload, 1) := by decide +kernel
theorem dL_law_271 : decode cL_law 271 = .ok (.aload_n 0, 1) := by decide +kernel
theorem dL_law_272 : decode cL_law 272 = .ok (.iload_n 3, 1) := by decide +kernel
theorem dL_law_273 : decode cL_law 273 = .ok (.iconst 2, 1) := by decide +kernel
theorem dL_law_274 : decode cL_law 274 = .ok (.iadd, 1) := by decide +kernel
theorem dL_law_275 : decode cL_law 275 = .ok (.iaload, 1) := by decide +kernel
theorem dL_law_276 : decode cL_law 276 = .ok (.aload_n 0, 1) := by decide +kernel
theorem dL_law_277 : decode cL_law 277 = .ok (.iload_n 3, 1) := by decide +kernel
theorem dL_law_278 : decode cL_law 278 = .ok (.iconst 3, 1) := by decide +kernel
theorem dL_law_279 : decode cL_law 279 = .ok (.iadd, 1) := by decide +kernel
theorem dL_law_280 : decode cL_law 280 = .ok (.iaload, 1) := by decide +kernel
theorem dL_law_281 : decode cL_law 281 = .ok (.aload_n 0, 1) := by decide +kernel
theorem dL_law_282 : decode cL_law 282 = .ok (.iload_n 3, 1) := by decide +kernel
theorem dL_law_283 : decode cL_law 283 = .ok (.iconst 4, 1) := by decide +kernel
theorem dL_law_284 : decode cL_law 284 = .ok (.iadd, 1) := by decide +kernel
theorem dL_law_285 : decode cL_law 285 = .ok (.iaload, 1) := by decide +kernel
theorem dL_law_286 : decode cL_law 286 = .ok (.aload_n 0, 1) := by decide +kernel
theorem dL_law_287 : decode cL_law 287 = .ok (.iload_n 3, 1) := by decide +kernel
theorem dL_law_288 : decode cL_law 288 = .ok (.iconst 5, 1) := by decide +kernel
theorem dL_law_289 : decode cL_law 289 = .ok (.iadd, 1) := by decide +kernel
theorem dL_law_290 : decode cL_law 290 = .ok (.iaload, 1) := by decide +kernel
theorem dL_law_291 : decode cL_law 291 = .ok (.invokevirtual 26, 3) := by decide +kernel
theorem dL_law_294 : decode cL_law 294 = .ok (.lcmp, 1) := by decide +kernel
theorem dL_law_295 : decode cL_law 295 = .ok (.ifCond .eq 710, 3) := by decide +kernel
theorem dL_law_298 : decode cL_law 298 = .ok (.iconst 0, 1) := by decide +kernel
theorem dL_law_299 : decode cL_law 299 = .ok (.ireturn, 1) := by decide +kernel
theorem dL_law_300 : decode cL_law 300 = .ok (.aload_n 1, 1) := by decide +kernel
theorem dL_law_301 : decode cL_law 301 = .ok (.aload_n 0, 1) := by decide +kernel
theorem dL_law_302 : decode cL_law 302 = .ok (.iload_n 3, 1) := by decide +kernel
theorem dL_law_303 : decode cL_law 303 = .ok (.iconst 1, 1) := by decide +kernel
theorem dL_law_304 : decode cL_law 304 = .ok (.iadd, 1) := by decide +kernel
theorem dL_law_305 : decode cL_law 305 = .ok (.iaload, 1) := by decide +kernel
theorem dL_law_306 : decode cL_law 306 = .ok (.invokevirtual 27, 3) := by decide +kernel
theorem dL_law_309 : decode cL_law 309 = .ok (.aload_n 2, 1) := by decide +kernel
theorem dL_law_310 : decode cL_law 310 = .ok (.aload_n 0, 1) := by decide +kernel
theorem dL_law_311 : decode cL_law 311 = .ok (.iload_n 3, 1) := by decide +kernel
theorem dL_law_312 : decode cL_law 312 = .ok (.iconst 1, 1) := by decide +kernel
theorem dL_law_313 : decode cL_law 313 = .ok (.iadd, 1) := by decide +kernel
theorem dL_law_314 : decode cL_law 314 = .ok (.iaload, 1) := by decide +kernel
theorem dL_law_315 : decode cL_law 315 = .ok (.invokevirtual 31, 3) := by decide +kernel
theorem dL_law_318 : decode cL_law 318 = .ok (.lcmp, 1) := by decide +kernel
theorem dL_law_319 : decode cL_law 319 = .ok (.ifCond .eq 686, 3) := by decide +kernel
theorem dL_law_322 : decode cL_law 322 = .ok (.iconst 0, 1) := by decide +kernel
theorem dL_law_323 : decode cL_law 323 = .ok (.ireturn, 1) := by decide +kernel
theorem dL_law_324 : decode cL_law 324 = .ok (.aload_n 1, 1) := by decide +kernel
theorem dL_law_325 : decode cL_law 325 = .ok (.aload_n 0, 1) := by decide +kernel
theorem dL_law_326 : decode cL_law 326 = .ok (.iload_n 3, 1) := by decide +kernel
theorem dL_law_327 : decode cL_law 327 = .ok (.iconst 1, 1) := by decide +kernel
theorem dL_law_328 : decode cL_law 328 = .ok (.iadd, 1) := by decide +kernel
theorem dL_law_329 : decode cL_law 329 = .ok (.iaload, 1) := by decide +kernel
theorem dL_law_330 : decode cL_law 330 = .ok (.i2l, 1) := by decide +kernel
theorem dL_law_331 : decode cL_law 331 = .ok (.bipush 32, 2) := by decide +kernel
theorem dL_law_333 : decode cL_law 333 = .ok (.lshl, 1) := by decide +kernel
theorem dL_law_334 : decode cL_law 334 = .ok (.aload_n 0, 1) := by decide +kernel
theorem dL_law_335 : decode cL_law 335 = .ok (.iload_n 3, 1) := by decide +kernel
theorem dL_law_336 : decode cL_law 336 = .ok (.iconst 2, 1) := by decide +kernel
theorem dL_law_337 : decode cL_law 337 = .ok (.iadd, 1) := by decide +kernel
theorem dL_law_338 : decode cL_law 338 = .ok (.iaload, 1) := by decide +kernel
theorem dL_law_339 : decode cL_law 339 = .ok (.i2l, 1) := by decide +kernel
theorem dL_law_340 : decode cL_law 340 = .ok (.ldc2_w 32, 3) := by decide +kernel
theorem dL_law_343 : decode cL_law 343 = .ok (.land, 1) := by decide +kernel
theorem dL_law_344 : decode cL_law 344 = .ok (.lor, 1) := by decide +kernel
theorem dL_law_345 : decode cL_law 345 = .ok (.aload_n 0, 1) := by decide +kernel
theorem dL_law_346 : decode cL_law 346 = .ok (.iload_n 3, 1) := by decide +kernel
theorem dL_law_347 : decode cL_law 347 = .ok (.iconst 3, 1) := by decide +kernel
theorem dL_law_348 : decode cL_law 348 = .ok (.iadd, 1) := by decide +kernel
theorem dL_law_349 : decode cL_law 349 = .ok (.iaload, 1) := by decide +kernel
theorem dL_law_350 : decode cL_law 350 = .ok (.invokevirtual 34, 3) := by decide +kernel
theorem dL_law_353 : decode cL_law 353 = .ok (.aload_n 2, 1) := by decide +kernel
theorem dL_law_354 : decode cL_law 354 = .ok (.aload_n 0, 1) := by decide +kernel
theorem dL_law_355 : decode cL_law 355 = .ok (.iload_n 3, 1) := by decide +kernel
theorem dL_law_356 : decode cL_law 356 = .ok (.iconst 1, 1) := by decide +kernel
theorem dL_law_357 : decode cL_law 357 = .ok (.iadd, 1) := by decide +kernel
theorem dL_law_358 : decode cL_law 358 = .ok (.iaload, 1) := by decide +kernel
theorem dL_law_359 : decode cL_law 359 = .ok (.i2l, 1) := by decide +kernel
theorem dL_law_360 : decode cL_law 360 = .ok (.bipush 32, 2) := by decide +kernel
theorem dL_law_362 : decode cL_law 362 = .ok (.lshl, 1) := by decide +kernel
theorem dL_law_363 : decode cL_law 363 = .ok (.aload_n 0, 1) := by decide +kernel
theorem dL_law_364 : decode cL_law 364 = .ok (.iload_n 3, 1) := by decide +kernel
theorem dL_law_365 : decode cL_law 365 = .ok (.iconst 2, 1) := by decide +kernel
theorem dL_law_366 : decode cL_law 366 = .ok (.iadd, 1) := by decide +kernel
theorem dL_law_367 : decode cL_law 367 = .ok (.iaload, 1) := by decide +kernel
theorem dL_law_368 : decode cL_law 368 = .ok (.i2l, 1) := by decide +kernel
theorem dL_law_369 : decode cL_law 369 = .ok (.ldc2_w 32, 3) := by decide +kernel
theorem dL_law_372 : decode cL_law 372 = .ok (.land, 1) := by decide +kernel
theorem dL_law_373 : decode cL_law 373 = .ok (.lor, 1) := by decide +kernel
theorem dL_law_374 : decode cL_law 374 = .ok (.aload_n 0, 1) := by decide +kernel
theorem dL_law_375 : decode cL_law 375 = .ok (.iload_n 3, 1) := by decide +kernel
theorem dL_law_376 : decode cL_law 376 = .ok (.iconst 3, 1) := by decide +kernel
theorem dL_law_377 : decode cL_law 377 = .ok (.iadd, 1) := by decide +kernel
theorem dL_law_378 : decode cL_law 378 = .ok (.iaload, 1) := by decide +kernel
theorem dL_law_379 : decode cL_law 379 = .ok (.invokevirtual 38, 3) := by decide +kernel
theorem dL_law_382 : decode cL_law 382 = .ok (.lcmp, 1) := by decide +kernel
theorem dL_law_383 : decode cL_law 383 = .ok (.ifCond .eq 622, 3) := by decide +kernel
theorem dL_law_386 : decode cL_law 386 = .ok (.iconst 0, 1) := by decide +kernel
theorem dL_law_387 : decode cL_law 387 = .ok (.ireturn, 1) := by decide +kernel
theorem dL_law_388 : decode cL_law 388 = .ok (.aload_n 1, 1) := by decide +kernel
theorem dL_law_389 : decode cL_law 389 = .ok (.invokevirtual 39, 3) := by decide +kernel
theorem dL_law_392 : decode cL_law 392 = .ok (.aload_n 2, 1) := by decide +kernel
theorem dL_law_393 : decode cL_law 393 = .ok (.invokevirtual 43, 3) := by decide +kernel
theorem dL_law_396 : decode cL_law 396 = .ok (.lcmp, 1) := by decide +kernel
theorem dL_law_397 : decode cL_law 397 = .ok (.ifCond .eq 608, 3) := by decide +kernel
theorem dL_law_400 : decode cL_law 400 = .ok (.iconst 0, 1) := by decide +kernel
theorem dL_law_401 : decode cL_law 401 = .ok (.ireturn, 1) := by decide +kernel
theorem dL_law_402 : decode cL_law 402 = .ok (.aload_n 1, 1) := by decide +kernel
theorem dL_law_403 : decode cL_law 403 = .ok (.invokevirtual 44, 3) := by decide +kernel
theorem dL_law_406 : decode cL_law 406 = .ok (.aload_n 2, 1) := by decide +kernel
theorem dL_law_407 : decode cL_law 407 = .ok (.invokevirtual 48, 3) := by decide +kernel
theorem dL_law_410 : decode cL_law 410 = .ok (.if_icmp .eq 595, 3) := by decide +kernel
theorem dL_law_413 : decode cL_law 413 = .ok (.iconst 0, 1) := by decide +kernel
theorem dL_law_414 : decode cL_law 414 = .ok (.ireturn, 1) := by decide +kernel
theorem dL_law_415 : decode cL_law 415 = .ok (.aload_n 1, 1) := by decide +kernel
theorem dL_law_416 : decode cL_law 416 = .ok (.aload_n 0, 1) := by decide +kernel
theorem dL_law_417 : decode cL_law 417 = .ok (.iload_n 3, 1) := by decide +kernel
theorem dL_law_418 : decode cL_law 418 = .ok (.iconst 1, 1) := by decide +kernel
theorem dL_law_419 : decode cL_law 419 = .ok (.iadd, 1) := by decide +kernel
theorem dL_law_420 : decode cL_law 420 = .ok (.iaload, 1) := by decide +kernel
theorem dL_law_421 : decode cL_law 421 = .ok (.aload_n 0, 1) := by decide +kernel
theorem dL_law_422 : decode cL_law 422 = .ok (.iload_n 3, 1) := by decide +kernel
theorem dL_law_423 : decode cL_law 423 = .ok (.iconst 2, 1) := by decide +kernel
theorem dL_law_424 : decode cL_law 424 = .ok (.iadd, 1) := by decide +kernel
theorem dL_law_425 : decode cL_law 425 = .ok (.iaload, 1) := by decide +kernel
theorem dL_law_426 : decode cL_law 426 = .ok (.aload_n 0, 1) := by decide +kernel
theorem dL_law_427 : decode cL_law 427 = .ok (.iload_n 3, 1) := by decide +kernel
theorem dL_law_428 : decode cL_law 428 = .ok (.iconst 3, 1) := by decide +kernel
theorem dL_law_429 : decode cL_law 429 = .ok (.iadd, 1) := by decide +kernel
theorem dL_law_430 : decode cL_law 430 = .ok (.iaload, 1) := by decide +kernel
theorem dL_law_431 : decode cL_law 431 = .ok (.invokevirtual 49, 3) := by decide +kernel
theorem dL_law_434 : decode cL_law 434 = .ok (.aload_n 2, 1) := by decide +kernel
theorem dL_law_435 : decode cL_law 435 = .ok (.aload_n 0, 1) := by decide +kernel
theorem dL_law_436 : decode cL_law 436 = .ok (.iload_n 3, 1) := by decide +kernel
theorem dL_law_437 : decode cL_law 437 = .ok (.iconst 1, 1) := by decide +kernel
theorem dL_law_438 : decode cL_law 438 = .ok (.iadd, 1) := by decide +kernel
theorem dL_law_439 : decode cL_law 439 = .ok (.iaload, 1) := by decide +kernel
theorem dL_law_440 : decode cL_law 440 = .ok (.aload_n 0, 1) := by decide +kernel
theorem dL_law_441 : decode cL_law 441 = .ok (.iload_n 3, 1) := by decide +kernel
theorem dL_law_442 : decode cL_law 442 = .ok (.iconst 2, 1) := by decide +kernel
theorem dL_law_443 : decode cL_law 443 = .ok (.iadd, 1) := by decide +kernel
theorem dL_law_444 : decode cL_law 444 = .ok (.iaload, 1) := by decide +kernel
theorem dL_law_445 : decode cL_law 445 = .ok (.aload_n 0, 1) := by decide +kernel
theorem dL_law_446 : decode cL_law 446 = .ok (.iload_n 3, 1) := by decide +kernel
theorem dL_law_447 : decode cL_law 447 = .ok (.iconst 3, 1) := by decide +kernel
theorem dL_law_448 : decode cL_law 448 = .ok (.iadd, 1) := by decide +kernel
theorem dL_law_449 : decode cL_law 449 = .ok (.iaload, 1) := by decide +kernel
theorem dL_law_450 : decode cL_law 450 = .ok (.invokevirtual 52, 3) := by decide +kernel
theorem dL_law_453 : decode cL_law 453 = .ok (.lcmp, 1) := by decide +kernel
theorem dL_law_454 : decode cL_law 454 = .ok (.ifCond .eq 551, 3) := by decide +kernel
theorem dL_law_457 : decode cL_law 457 = .ok (.iconst 0, 1) := by decide +kernel
theorem dL_law_458 : decode cL_law 458 = .ok (.ireturn, 1) := by decide +kernel
theorem dL_law_459 : decode cL_law 459 = .ok (.aload_n 1, 1) := by decide +kernel
theorem dL_law_460 : decode cL_law 460 = .ok (.aload_n 0, 1) := by decide +kernel
theorem dL_law_461 : decode cL_law 461 = .ok (.iload_n 3, 1) := by decide +kernel
theorem dL_law_462 : decode cL_law 462 = .ok (.iconst 1, 1) := by decide +kernel
theorem dL_law_463 : decode cL_law 463 = .ok (.iadd, 1) := by decide +kernel
theorem dL_law_464 : decode cL_law 464 = .ok (.iaload, 1) := by decide +kernel
theorem dL_law_465 : decode cL_law 465 = .ok (.aload_n 0, 1) := by decide +kernel
theorem dL_law_466 : decode cL_law 466 = .ok (.iload_n 3, 1) := by decide +kernel
theorem dL_law_467 : decode cL_law 467 = .ok (.iconst 2, 1) := by decide +kernel
theorem dL_law_468 : decode cL_law 468 = .ok (.iadd, 1) := by decide +kernel
theorem dL_law_469 : decode cL_law 469 = .ok (.iaload, 1) := by decide +kernel
theorem dL_law_470 : decode cL_law 470 = .ok (.invokevirtual 53, 3) := by decide +kernel
theorem dL_law_473 : decode cL_law 473 = .ok (.aload_n 2, 1) := by decide +kernel
theorem dL_law_474 : decode cL_law 474 = .ok (.aload_n 0, 1) := by decide +kernel
theorem dL_law_475 : decode cL_law 475 = .ok (.iload_n 3, 1) := by decide +kernel
theorem dL_law_476 : decode cL_law 476 = .ok (.iconst 1, 1) := by decide +kernel
theorem dL_law_477 : decode cL_law 477 = .ok (.iadd, 1) := by decide +kernel
theorem dL_law_478 : decode cL_law 478 = .ok (.iaload, 1) := by decide +kernel
theorem dL_law_479 : decode cL_law 479 = .ok (.aload_n 0, 1) := by decide +kernel
theorem dL_law_480 : decode cL_law 480 = .ok (.iload_n 3, 1) := by decide +kernel
theorem dL_law_481 : decode cL_law 481 = .ok (.iconst 2, 1) := by decide +kernel
theorem dL_law_482 : decode cL_law 482 = .ok (.iadd, 1) := by decide +kernel
theorem dL_law_483 : decode cL_law 483 = .ok (.iaload, 1) := by decide +kernel
theorem dL_law_484 : decode cL_law 484 = .ok (.invokevirtual 57, 3) := by decide +kernel
theorem dL_law_487 : decode cL_law 487 = .ok (.lcmp, 1) := by decide +kernel
theorem dL_law_488 : decode cL_law 488 = .ok (.ifCond .eq 517, 3) := by decide +kernel
theorem dL_law_491 : decode cL_law 491 = .ok (.iconst 0, 1) := by decide +kernel
theorem dL_law_492 : decode cL_law 492 = .ok (.ireturn, 1) := by decide +kernel
theorem dL_law_493 : decode cL_law 493 = .ok (.aload_n 1, 1) := by decide +kernel
theorem dL_law_494 : decode cL_law 494 = .ok (.aload_n 0, 1) := by decide +kernel
theorem dL_law_495 : decode cL_law 495 = .ok (.iload_n 3, 1) := by decide +kernel
theorem dL_law_496 : decode cL_law 496 = .ok (.iconst 1, 1) := by decide +kernel
theorem dL_law_497 : decode cL_law 497 = .ok (.iadd, 1) := by decide +kernel
theorem dL_law_498 : decode cL_law 498 = .ok (.iaload, 1) := by decide +kernel
theorem dL_law_499 : decode cL_law 499 = .ok (.aload_n 0, 1) := by decide +kernel
theorem dL_law_500 : decode cL_law 500 = .ok (.iload_n 3, 1) := by decide +kernel
theorem dL_law_501 : decode cL_law 501 = .ok (.iconst 2, 1) := by decide +kernel
theorem dL_law_502 : decode cL_law 502 = .ok (.iadd, 1) := by decide +kernel
theorem dL_law_503 : decode cL_law 503 = .ok (.iaload, 1) := by decide +kernel
theorem dL_law_504 : decode cL_law 504 = .ok (.invokevirtual 58, 3) := by decide +kernel
theorem dL_law_507 : decode cL_law 507 = .ok (.aload_n 2, 1) := by decide +kernel
theorem dL_law_508 : decode cL_law 508 = .ok (.aload_n 0, 1) := by decide +kernel
theorem dL_law_509 : decode cL_law 509 = .ok (.iload_n 3, 1) := by decide +kernel
theorem dL_law_510 : decode cL_law 510 = .ok (.iconst 1, 1) := by decide +kernel
theorem dL_law_511 : decode cL_law 511 = .ok (.iadd, 1) := by decide +kernel
theorem dL_law_512 : decode cL_law 512 = .ok (.iaload, 1) := by decide +kernel
theorem dL_law_513 : decode cL_law 513 = .ok (.aload_n 0, 1) := by decide +kernel
theorem dL_law_514 : decode cL_law 514 = .ok (.iload_n 3, 1) := by decide +kernel
theorem dL_law_515 : decode cL_law 515 = .ok (.iconst 2, 1) := by decide +kernel
theorem dL_law_516 : decode cL_law 516 = .ok (.iadd, 1) := by decide +kernel
theorem dL_law_517 : decode cL_law 517 = .ok (.iaload, 1) := by decide +kernel
theorem dL_law_518 : decode cL_law 518 = .ok (.invokevirtual 61, 3) := by decide +kernel
theorem dL_law_521 : decode cL_law 521 = .ok (.lcmp, 1) := by decide +kernel
theorem dL_law_522 : decode cL_law 522 = .ok (.ifCond .eq 483, 3) := by decide +kernel
theorem dL_law_525 : decode cL_law 525 = .ok (.iconst 0, 1) := by decide +kernel
theorem dL_law_526 : decode cL_law 526 = .ok (.ireturn, 1) := by decide +kernel
theorem dL_law_527 : decode cL_law 527 = .ok (.aload_n 1, 1) := by decide +kernel
theorem dL_law_528 : decode cL_law 528 = .ok (.aload_n 0, 1) := by decide +kernel
theorem dL_law_529 : decode cL_law 529 = .ok (.iload_n 3, 1) := by decide +kernel
theorem dL_law_530 : decode cL_law 530 = .ok (.iconst 1, 1) := by decide +kernel
theorem dL_law_531 : decode cL_law 531 = .ok (.iadd, 1) := by decide +kernel
theorem dL_law_532 : decode cL_law 532 = .ok (.iaload, 1) := by decide +kernel
theorem dL_law_533 : decode cL_law 533 = .ok (.aload_n 0, 1) := by decide +kernel
theorem dL_law_534 : decode cL_law 534 = .ok (.iload_n 3, 1) := by decide +kernel
theorem dL_law_535 : decode cL_law 535 = .ok (.iconst 2, 1) := by decide +kernel
theorem dL_law_536 : decode cL_law 536 = .ok (.iadd, 1) := by decide +kernel
theorem dL_law_537 : decode cL_law 537 = .ok (.iaload, 1) := by decide +kernel
theorem dL_law_538 : decode cL_law 538 = .ok (.aload_n 0, 1) := by decide +kernel
theorem dL_law_539 : decode cL_law 539 = .ok (.iload_n 3, 1) := by decide +kernel
theorem dL_law_540 : decode cL_law 540 = .ok (.iconst 3, 1) := by decide +kernel
theorem dL_law_541 : decode cL_law 541 = .ok (.iadd, 1) := by decide +kernel
theorem dL_law_542 : decode cL_law 542 = .ok (.iaload, 1) := by decide +kernel
theorem dL_law_543 : decode cL_law 543 = .ok (.invokevirtual 62, 3) := by decide +kernel
theorem dL_law_546 : decode cL_law 546 = .ok (.aload_n 2, 1) := by decide +kernel
theorem dL_law_547 : decode cL_law 547 = .ok (.aload_n 0, 1) := by decide +kernel
theorem dL_law_548 : decode cL_law 548 = .ok (.iload_n 3, 1) := by decide +kernel
theorem dL_law_549 : decode cL_law 549 = .ok (.iconst 1, 1) := by decide +kernel
theorem dL_law_550 : decode cL_law 550 = .ok (.iadd, 1) := by decide +kernel
theorem dL_law_551 : decode cL_law 551 = .ok (.iaload, 1) := by decide +kernel
theorem dL_law_552 : decode cL_law 552 = .ok (.aload_n 0, 1) := by decide +kernel
theorem dL_law_553 : decode cL_law 553 = .ok (.iload_n 3, 1) := by decide +kernel
theorem dL_law_554 : decode cL_law 554 = .ok (.iconst 2, 1) := by decide +kernel
theorem dL_law_555 : decode cL_law 555 = .ok (.iadd, 1) := by decide +kernel
theorem dL_law_556 : decode cL_law 556 = .ok (.iaload, 1) := by decide +kernel
theorem dL_law_557 : decode cL_law 557 = .ok (.aload_n 0, 1) := by decide +kernel
theorem dL_law_558 : decode cL_law 558 = .ok (.iload_n 3, 1) := by decide +kernel
theorem dL_law_559 : decode cL_law 559 = .ok (.iconst 3, 1) := by decide +kernel
theorem dL_law_560 : decode cL_law 560 = .ok (.iadd, 1) := by decide +kernel
theorem dL_law_561 : decode cL_law 561 = .ok (.iaload, 1) := by decide +kernel
theorem dL_law_562 : decode cL_law 562 = .ok (.invokevirtual 65, 3) := by decide +kernel
theorem dL_law_565 : decode cL_law 565 = .ok (.lcmp, 1) := by decide +kernel
theorem dL_law_566 : decode cL_law 566 = .ok (.ifCond .eq 439, 3) := by decide +kernel
theorem dL_law_569 : decode cL_law 569 = .ok (.iconst 0, 1) := by decide +kernel
theorem dL_law_570 : decode cL_law 570 = .ok (.ireturn, 1) := by decide +kernel
theorem dL_law_571 : decode cL_law 571 = .ok (.aload_n 1, 1) := by decide +kernel
theorem dL_law_572 : decode cL_law 572 = .ok (.aload_n 0, 1) := by decide +kernel
theorem dL_law_573 : decode cL_law 573 = .ok (.iload_n 3, 1) := by decide +kernel
theorem dL_law_574 : decode cL_law 574 = .ok (.iconst 1, 1) := by decide +kernel
theorem dL_law_575 : decode cL_law 575 = .ok (.iadd, 1) := by decide +kernel
theorem dL_law_576 : decode cL_law 576 = .ok (.iaload, 1) := by decide +kernel
theorem dL_law_577 : decode cL_law 577 = .ok (.aload_n 0, 1) := by decide +kernel
theorem dL_law_578 : decode cL_law 578 = .ok (.iload_n 3, 1) := by decide +kernel
theorem dL_law_579 : decode cL_law 579 = .ok (.iconst 2, 1) := by decide +kernel
theorem dL_law_580 : decode cL_law 580 = .ok (.iadd, 1) := by decide +kernel
theorem dL_law_581 : decode cL_law 581 = .ok (.iaload, 1) := by decide +kernel
theorem dL_law_582 : decode cL_law 582 = .ok (.invokevirtual 66, 3) := by decide +kernel
theorem dL_law_585 : decode cL_law 585 = .ok (.aload_n 2, 1) := by decide +kernel
theorem dL_law_586 : decode cL_law 586 = .ok (.aload_n 0, 1) := by decide +kernel
theorem dL_law_587 : decode cL_law 587 = .ok (.iload_n 3, 1) := by decide +kernel
theorem dL_law_588 : decode cL_law 588 = .ok (.iconst 1, 1) := by decide +kernel
theorem dL_law_589 : decode cL_law 589 = .ok (.iadd, 1) := by decide +kernel
theorem dL_law_590 : decode cL_law 590 = .ok (.iaload, 1) := by decide +kernel
theorem dL_law_591 : decode cL_law 591 = .ok (.aload_n 0, 1) := by decide +kernel
theorem dL_law_592 : decode cL_law 592 = .ok (.iload_n 3, 1) := by decide +kernel
theorem dL_law_593 : decode cL_law 593 = .ok (.iconst 2, 1) := by decide +kernel
theorem dL_law_594 : decode cL_law 594 = .ok (.iadd, 1) := by decide +kernel
theorem dL_law_595 : decode cL_law 595 = .ok (.iaload, 1) := by decide +kernel
theorem dL_law_596 : decode cL_law 596 = .ok (.invokevirtual 69, 3) := by decide +kernel
theorem dL_law_599 : decode cL_law 599 = .ok (.lcmp, 1) := by decide +kernel
theorem dL_law_600 : decode cL_law 600 = .ok (.ifCond .eq 405, 3) := by decide +kernel
theorem dL_law_603 : decode cL_law 603 = .ok (.iconst 0, 1) := by decide +kernel
theorem dL_law_604 : decode cL_law 604 = .ok (.ireturn, 1) := by decide +kernel
theorem dL_law_605 : decode cL_law 605 = .ok (.aload_n 1, 1) := by decide +kernel
theorem dL_law_606 : decode cL_law 606 = .ok (.aload_n 0, 1) := by decide +kernel
theorem dL_law_607 : decode cL_law 607 = .ok (.iload_n 3, 1) := by decide +kernel
theorem dL_law_608 : decode cL_law 608 = .ok (.iconst 1, 1) := by decide +kernel
theorem dL_law_609 : decode cL_law 609 = .ok (.iadd, 1) := by decide +kernel
theorem dL_law_610 : decode cL_law 610 = .ok (.iaload, 1) := by decide +kernel
theorem dL_law_611 : decode cL_law 611 = .ok (.aload_n 0, 1) := by decide +kernel
theorem dL_law_612 : decode cL_law 612 = .ok (.iload_n 3, 1) := by decide +kernel
theorem dL_law_613 : decode cL_law 613 = .ok (.iconst 2, 1) := by decide +kernel
theorem dL_law_614 : decode cL_law 614 = .ok (.iadd, 1) := by decide +kernel
theorem dL_law_615 : decode cL_law 615 = .ok (.iaload, 1) := by decide +kernel
theorem dL_law_616 : decode cL_law 616 = .ok (.aload_n 0, 1) := by decide +kernel
theorem dL_law_617 : decode cL_law 617 = .ok (.iload_n 3, 1) := by decide +kernel
theorem dL_law_618 : decode cL_law 618 = .ok (.iconst 3, 1) := by decide +kernel
theorem dL_law_619 : decode cL_law 619 = .ok (.iadd, 1) := by decide +kernel
theorem dL_law_620 : decode cL_law 620 = .ok (.iaload, 1) := by decide +kernel
theorem dL_law_621 : decode cL_law 621 = .ok (.invokevirtual 70, 3) := by decide +kernel
theorem dL_law_624 : decode cL_law 624 = .ok (.aload_n 2, 1) := by decide +kernel
theorem dL_law_625 : decode cL_law 625 = .ok (.aload_n 0, 1) := by decide +kernel
theorem dL_law_626 : decode cL_law 626 = .ok (.iload_n 3, 1) := by decide +kernel
theorem dL_law_627 : decode cL_law 627 = .ok (.iconst 1, 1) := by decide +kernel
theorem dL_law_628 : decode cL_law 628 = .ok (.iadd, 1) := by decide +kernel
theorem dL_law_629 : decode cL_law 629 = .ok (.iaload, 1) := by decide +kernel
theorem dL_law_630 : decode cL_law 630 = .ok (.aload_n 0, 1) := by decide +kernel
theorem dL_law_631 : decode cL_law 631 = .ok (.iload_n 3, 1) := by decide +kernel
theorem dL_law_632 : decode cL_law 632 = .ok (.iconst 2, 1) := by decide +kernel
theorem dL_law_633 : decode cL_law 633 = .ok (.iadd, 1) := by decide +kernel
theorem dL_law_634 : decode cL_law 634 = .ok (.iaload, 1) := by decide +kernel
theorem dL_law_635 : decode cL_law 635 = .ok (.aload_n 0, 1) := by decide +kernel
theorem dL_law_636 : decode cL_law 636 = .ok (.iload_n 3, 1) := by decide +kernel
theorem dL_law_637 : decode cL_law 637 = .ok (.iconst 3, 1) := by decide +kernel
theorem dL_law_638 : decode cL_law 638 = .ok (.iadd, 1) := by decide +kernel
theorem dL_law_639 : decode cL_law 639 = .ok (.iaload, 1) := by decide +kernel
theorem dL_law_640 : decode cL_law 640 = .ok (.invokevirtual 73, 3) := by decide +kernel
theorem dL_law_643 : decode cL_law 643 = .ok (.lcmp, 1) := by decide +kernel
theorem dL_law_644 : decode cL_law 644 = .ok (.ifCond .eq 361, 3) := by decide +kernel
theorem dL_law_647 : decode cL_law 647 = .ok (.iconst 0, 1) := by decide +kernel
theorem dL_law_648 : decode cL_law 648 = .ok (.ireturn, 1) := by decide +kernel
theorem dL_law_649 : decode cL_law 649 = .ok (.aload_n 1, 1) := by decide +kernel
theorem dL_law_650 : decode cL_law 650 = .ok (.aload_n 0, 1) := by decide +kernel
theorem dL_law_651 : decode cL_law 651 = .ok (.iload_n 3, 1) := by decide +kernel
theorem dL_law_652 : decode cL_law 652 = .ok (.iconst 1, 1) := by decide +kernel
theorem dL_law_653 : decode cL_law 653 = .ok (.iadd, 1) := by decide +kernel
theorem dL_law_654 : decode cL_law 654 = .ok (.iaload, 1) := by decide +kernel
theorem dL_law_655 : decode cL_law 655 = .ok (.aload_n 0, 1) := by decide +kernel
theorem dL_law_656 : decode cL_law 656 = .ok (.iload_n 3, 1) := by decide +kernel
theorem dL_law_657 : decode cL_law 657 = .ok (.iconst 2, 1) := by decide +kernel
theorem dL_law_658 : decode cL_law 658 = .ok (.iadd, 1) := by decide +kernel
theorem dL_law_659 : decode cL_law 659 = .ok (.iaload, 1) := by decide +kernel
theorem dL_law_660 : decode cL_law 660 = .ok (.invokevirtual 74, 3) := by decide +kernel
theorem dL_law_663 : decode cL_law 663 = .ok (.aload_n 2, 1) := by decide +kernel
theorem dL_law_664 : decode cL_law 664 = .ok (.aload_n 0, 1) := by decide +kernel
theorem dL_law_665 : decode cL_law 665 = .ok (.iload_n 3, 1) := by decide +kernel
theorem dL_law_666 : decode cL_law 666 = .ok (.iconst 1, 1) := by decide +kernel
theorem dL_law_667 : decode cL_law 667 = .ok (.iadd, 1) := by decide +kernel
theorem dL_law_668 : decode cL_law 668 = .ok (.iaload, 1) := by decide +kernel
theorem dL_law_669 : decode cL_law 669 = .ok (.aload_n 0, 1) := by decide +kernel
theorem dL_law_670 : decode cL_law 670 = .ok (.iload_n 3, 1) := by decide +kernel
theorem dL_law_671 : decode cL_law 671 = .ok (.iconst 2, 1) := by decide +kernel
theorem dL_law_672 : decode cL_law 672 = .ok (.iadd, 1) := by decide +kernel
theorem dL_law_673 : decode cL_law 673 = .ok (.iaload, 1) := by decide +kernel
theorem dL_law_674 : decode cL_law 674 = .ok (.invokevirtual 77, 3) := by decide +kernel
theorem dL_law_677 : decode cL_law 677 = .ok (.lcmp, 1) := by decide +kernel
theorem dL_law_678 : decode cL_law 678 = .ok (.ifCond .eq 327, 3) := by decide +kernel
theorem dL_law_681 : decode cL_law 681 = .ok (.iconst 0, 1) := by decide +kernel
theorem dL_law_682 : decode cL_law 682 = .ok (.ireturn, 1) := by decide +kernel
theorem dL_law_683 : decode cL_law 683 = .ok (.aload_n 1, 1) := by decide +kernel
theorem dL_law_684 : decode cL_law 684 = .ok (.aload_n 0, 1) := by decide +kernel
theorem dL_law_685 : decode cL_law 685 = .ok (.iload_n 3, 1) := by decide +kernel
theorem dL_law_686 : decode cL_law 686 = .ok (.iconst 1, 1) := by decide +kernel
theorem dL_law_687 : decode cL_law 687 = .ok (.iadd, 1) := by decide +kernel
theorem dL_law_688 : decode cL_law 688 = .ok (.iaload, 1) := by decide +kernel
theorem dL_law_689 : decode cL_law 689 = .ok (.aload_n 0, 1) := by decide +kernel
theorem dL_law_690 : decode cL_law 690 = .ok (.iload_n 3, 1) := by decide +kernel
theorem dL_law_691 : decode cL_law 691 = .ok (.iconst 2, 1) := by decide +kernel
theorem dL_law_692 : decode cL_law 692 = .ok (.iadd, 1) := by decide +kernel
theorem dL_law_693 : decode cL_law 693 = .ok (.iaload, 1) := by decide +kernel
theorem dL_law_694 : decode cL_law 694 = .ok (.aload_n 0, 1) := by decide +kernel
theorem dL_law_695 : decode cL_law 695 = .ok (.iload_n 3, 1) := by decide +kernel
theorem dL_law_696 : decode cL_law 696 = .ok (.iconst 3, 1) := by decide +kernel
theorem dL_law_697 : decode cL_law 697 = .ok (.iadd, 1) := by decide +kernel
theorem dL_law_698 : decode cL_law 698 = .ok (.iaload, 1) := by decide +kernel
theorem dL_law_699 : decode cL_law 699 = .ok (.invokevirtual 78, 3) := by decide +kernel
theorem dL_law_702 : decode cL_law 702 = .ok (.aload_n 2, 1) := by decide +kernel
theorem dL_law_703 : decode cL_law 703 = .ok (.aload_n 0, 1) := by decide +kernel
theorem dL_law_704 : decode cL_law 704 = .ok (.iload_n 3, 1) := by decide +kernel
theorem dL_law_705 : decode cL_law 705 = .ok (.iconst 1, 1) := by decide +kernel
theorem dL_law_706 : decode cL_law 706 = .ok (.iadd, 1) := by decide +kernel
theorem dL_law_707 : decode cL_law 707 = .ok (.iaload, 1) := by decide +kernel
theorem dL_law_708 : decode cL_law 708 = .ok (.aload_n 0, 1) := by decide +kernel
theorem dL_law_709 : decode cL_law 709 = .ok (.iload_n 3, 1) := by decide +kernel
theorem dL_law_710 : decode cL_law 710 = .ok (.iconst 2, 1) := by decide +kernel
theorem dL_law_711 : decode cL_law 711 = .ok (.iadd, 1) := by decide +kernel
theorem dL_law_712 : decode cL_law 712 = .ok (.iaload, 1) := by decide +kernel
theorem dL_law_713 : decode cL_law 713 = .ok (.aload_n 0, 1) := by decide +kernel
theorem dL_law_714 : decode cL_law 714 = .ok (.iload_n 3, 1) := by decide +kernel
theorem dL_law_715 : decode cL_law 715 = .ok (.iconst 3, 1) := by decide +kernel
theorem dL_law_716 : decode cL_law 716 = .ok (.iadd, 1) := by decide +kernel
theorem dL_law_717 : decode cL_law 717 = .ok (.iaload, 1) := by decide +kernel
theorem dL_law_718 : decode cL_law 718 = .ok (.invokevirtual 81, 3) := by decide +kernel
theorem dL_law_721 : decode cL_law 721 = .ok (.lcmp, 1) := by decide +kernel
theorem dL_law_722 : decode cL_law 722 = .ok (.ifCond .eq 283, 3) := by decide +kernel
theorem dL_law_725 : decode cL_law 725 = .ok (.iconst 0, 1) := by decide +kernel
theorem dL_law_726 : decode cL_law 726 = .ok (.ireturn, 1) := by decide +kernel
theorem dL_law_727 : decode cL_law 727 = .ok (.aload_n 1, 1) := by decide +kernel
theorem dL_law_728 : decode cL_law 728 = .ok (.aload_n 0, 1) := by decide +kernel
theorem dL_law_729 : decode cL_law 729 = .ok (.iload_n 3, 1) := by decide +kernel
theorem dL_law_730 : decode cL_law 730 = .ok (.iconst 1, 1) := by decide +kernel
theorem dL_law_731 : decode cL_law 731 = .ok (.iadd, 1) := by decide +kernel
theorem dL_law_732 : decode cL_law 732 = .ok (.iaload, 1) := by decide +kernel
theorem dL_law_733 : decode cL_law 733 = .ok (.aload_n 0, 1) := by decide +kernel
theorem dL_law_734 : decode cL_law 734 = .ok (.iload_n 3, 1) := by decide +kernel
theorem dL_law_735 : decode cL_law 735 = .ok (.iconst 2, 1) := by decide +kernel
theorem dL_law_736 : decode cL_law 736 = .ok (.iadd, 1) := by decide +kernel
theorem dL_law_737 : decode cL_law 737 = .ok (.iaload, 1) := by decide +kernel
theorem dL_law_738 : decode cL_law 738 = .ok (.aload_n 0, 1) := by decide +kernel
theorem dL_law_739 : decode cL_law 739 = .ok (.iload_n 3, 1) := by decide +kernel
theorem dL_law_740 : decode cL_law 740 = .ok (.iconst 3, 1) := by decide +kernel
theorem dL_law_741 : decode cL_law 741 = .ok (.iadd, 1) := by decide +kernel
theorem dL_law_742 : decode cL_law 742 = .ok (.iaload, 1) := by decide +kernel
theorem dL_law_743 : decode cL_law 743 = .ok (.invokevirtual 82, 3) := by decide +kernel
theorem dL_law_746 : decode cL_law 746 = .ok (.aload_n 2, 1) := by decide +kernel
theorem dL_law_747 : decode cL_law 747 = .ok (.aload_n 0, 1) := by decide +kernel
theorem dL_law_748 : decode cL_law 748 = .ok (.iload_n 3, 1) := by decide +kernel
theorem dL_law_749 : decode cL_law 749 = .ok (.iconst 1, 1) := by decide +kernel
theorem dL_law_750 : decode cL_law 750 = .ok (.iadd, 1) := by decide +kernel
theorem dL_law_751 : decode cL_law 751 = .ok (.iaload, 1) := by decide +kernel
theorem dL_law_752 : decode cL_law 752 = .ok (.aload_n 0, 1) := by decide +kernel
theorem dL_law_753 : decode cL_law 753 = .ok (.iload_n 3, 1) := by decide +kernel
theorem dL_law_754 : decode cL_law 754 = .ok (.iconst 2, 1) := by decide +kernel
theorem dL_law_755 : decode cL_law 755 = .ok (.iadd, 1) := by decide +kernel
theorem dL_law_756 : decode cL_law 756 = .ok (.iaload, 1) := by decide +kernel
theorem dL_law_757 : decode cL_law 757 = .ok (.aload_n 0, 1) := by decide +kernel
theorem dL_law_758 : decode cL_law 758 = .ok (.iload_n 3, 1) := by decide +kernel
theorem dL_law_759 : decode cL_law 759 = .ok (.iconst 3, 1) := by decide +kernel
theorem dL_law_760 : decode cL_law 760 = .ok (.iadd, 1) := by decide +kernel
theorem dL_law_761 : decode cL_law 761 = .ok (.iaload, 1) := by decide +kernel
theorem dL_law_762 : decode cL_law 762 = .ok (.invokevirtual 85, 3) := by decide +kernel
theorem dL_law_765 : decode cL_law 765 = .ok (.lcmp, 1) := by decide +kernel
theorem dL_law_766 : decode cL_law 766 = .ok (.ifCond .eq 239, 3) := by decide +kernel
theorem dL_law_769 : decode cL_law 769 = .ok (.iconst 0, 1) := by decide +kernel
theorem dL_law_770 : decode cL_law 770 = .ok (.ireturn, 1) := by decide +kernel
theorem dL_law_771 : decode cL_law 771 = .ok (.aload_n 1, 1) := by decide +kernel
theorem dL_law_772 : decode cL_law 772 = .ok (.aload_n 0, 1) := by decide +kernel
theorem dL_law_773 : decode cL_law 773 = .ok (.iload_n 3, 1) := by decide +kernel
theorem dL_law_774 : decode cL_law 774 = .ok (.iconst 1, 1) := by decide +kernel
theorem dL_law_775 : decode cL_law 775 = .ok (.iadd, 1) := by decide +kernel
theorem dL_law_776 : decode cL_law 776 = .ok (.iaload, 1) := by decide +kernel
theorem dL_law_777 : decode cL_law 777 = .ok (.invokevirtual 86, 3) := by decide +kernel
theorem dL_law_780 : decode cL_law 780 = .ok (.aload_n 2, 1) := by decide +kernel
theorem dL_law_781 : decode cL_law 781 = .ok (.aload_n 0, 1) := by decide +kernel
theorem dL_law_782 : decode cL_law 782 = .ok (.iload_n 3, 1) := by decide +kernel
theorem dL_law_783 : decode cL_law 783 = .ok (.iconst 1, 1) := by decide +kernel
theorem dL_law_784 : decode cL_law 784 = .ok (.iadd, 1) := by decide +kernel
theorem dL_law_785 : decode cL_law 785 = .ok (.iaload, 1) := by decide +kernel
theorem dL_law_786 : decode cL_law 786 = .ok (.invokevirtual 89, 3) := by decide +kernel
theorem dL_law_789 : decode cL_law 789 = .ok (.lcmp, 1) := by decide +kernel
theorem dL_law_790 : decode cL_law 790 = .ok (.ifCond .eq 215, 3) := by decide +kernel
theorem dL_law_793 : decode cL_law 793 = .ok (.iconst 0, 1) := by decide +kernel
theorem dL_law_794 : decode cL_law 794 = .ok (.ireturn, 1) := by decide +kernel
theorem dL_law_795 : decode cL_law 795 = .ok (.aload_n 1, 1) := by decide +kernel
theorem dL_law_796 : decode cL_law 796 = .ok (.aload_n 0, 1) := by decide +kernel
theorem dL_law_797 : decode cL_law 797 = .ok (.iload_n 3, 1) := by decide +kernel
theorem dL_law_798 : decode cL_law 798 = .ok (.iconst 1, 1) := by decide +kernel
theorem dL_law_799 : decode cL_law 799 = .ok (.iadd, 1) := by decide +kernel
theorem dL_law_800 : decode cL_law 800 = .ok (.iaload, 1) := by decide +kernel
theorem dL_law_801 : decode cL_law 801 = .ok (.aload_n 0, 1) := by decide +kernel
theorem dL_law_802 : decode cL_law 802 = .ok (.iload_n 3, 1) := by decide +kernel
theorem dL_law_803 : decode cL_law 803 = .ok (.iconst 2, 1) := by decide +kernel
theorem dL_law_804 : decode cL_law 804 = .ok (.iadd, 1) := by decide +kernel
theorem dL_law_805 : decode cL_law 805 = .ok (.iaload, 1) := by decide +kernel
theorem dL_law_806 : decode cL_law 806 = .ok (.invokevirtual 90, 3) := by decide +kernel
theorem dL_law_809 : decode cL_law 809 = .ok (.aload_n 2, 1) := by decide +kernel
theorem dL_law_810 : decode cL_law 810 = .ok (.aload_n 0, 1) := by decide +kernel
theorem dL_law_811 : decode cL_law 811 = .ok (.iload_n 3, 1) := by decide +kernel
theorem dL_law_812 : decode cL_law 812 = .ok (.iconst 1, 1) := by decide +kernel
theorem dL_law_813 : decode cL_law 813 = .ok (.iadd, 1) := by decide +kernel
theorem dL_law_814 : decode cL_law 814 = .ok (.iaload, 1) := by decide +kernel
theorem dL_law_815 : decode cL_law 815 = .ok (.aload_n 0, 1) := by decide +kernel
theorem dL_law_816 : decode cL_law 816 = .ok (.iload_n 3, 1) := by decide +kernel
theorem dL_law_817 : decode cL_law 817 = .ok (.iconst 2, 1) := by decide +kernel
theorem dL_law_818 : decode cL_law 818 = .ok (.iadd, 1) := by decide +kernel
theorem dL_law_819 : decode cL_law 819 = .ok (.iaload, 1) := by decide +kernel
theorem dL_law_820 : decode cL_law 820 = .ok (.invokevirtual 93, 3) := by decide +kernel
theorem dL_law_823 : decode cL_law 823 = .ok (.lcmp, 1) := by decide +kernel
theorem dL_law_824 : decode cL_law 824 = .ok (.ifCond .eq 181, 3) := by decide +kernel
theorem dL_law_827 : decode cL_law 827 = .ok (.iconst 0, 1) := by decide +kernel
theorem dL_law_828 : decode cL_law 828 = .ok (.ireturn, 1) := by decide +kernel
theorem dL_law_829 : decode cL_law 829 = .ok (.aload_n 1, 1) := by decide +kernel
theorem dL_law_830 : decode cL_law 830 = .ok (.aload_n 0, 1) := by decide +kernel
theorem dL_law_831 : decode cL_law 831 = .ok (.iload_n 3, 1) := by decide +kernel
theorem dL_law_832 : decode cL_law 832 = .ok (.iconst 1, 1) := by decide +kernel
theorem dL_law_833 : decode cL_law 833 = .ok (.iadd, 1) := by decide +kernel
theorem dL_law_834 : decode cL_law 834 = .ok (.iaload, 1) := by decide +kernel
theorem dL_law_835 : decode cL_law 835 = .ok (.invokevirtual 94, 3) := by decide +kernel
theorem dL_law_838 : decode cL_law 838 = .ok (.aload_n 2, 1) := by decide +kernel
theorem dL_law_839 : decode cL_law 839 = .ok (.aload_n 0, 1) := by decide +kernel
theorem dL_law_840 : decode cL_law 840 = .ok (.iload_n 3, 1) := by decide +kernel
theorem dL_law_841 : decode cL_law 841 = .ok (.iconst 1, 1) := by decide +kernel
theorem dL_law_842 : decode cL_law 842 = .ok (.iadd, 1) := by decide +kernel
theorem dL_law_843 : decode cL_law 843 = .ok (.iaload, 1) := by decide +kernel
theorem dL_law_844 : decode cL_law 844 = .ok (.invokevirtual 97, 3) := by decide +kernel
theorem dL_law_847 : decode cL_law 847 = .ok (.lcmp, 1) := by decide +kernel
theorem dL_law_848 : decode cL_law 848 = .ok (.ifCond .eq 157, 3) := by decide +kernel
theorem dL_law_851 : decode cL_law 851 = .ok (.iconst 0, 1) := by decide +kernel
theorem dL_law_852 : decode cL_law 852 = .ok (.ireturn, 1) := by decide +kernel
theorem dL_law_853 : decode cL_law 853 = .ok (.aload_n 1, 1) := by decide +kernel
theorem dL_law_854 : decode cL_law 854 = .ok (.aload_n 0, 1) := by decide +kernel
theorem dL_law_855 : decode cL_law 855 = .ok (.iload_n 3, 1) := by decide +kernel
theorem dL_law_856 : decode cL_law 856 = .ok (.iconst 1, 1) := by decide +kernel
theorem dL_law_857 : decode cL_law 857 = .ok (.iadd, 1) := by decide +kernel
theorem dL_law_858 : decode cL_law 858 = .ok (.iaload, 1) := by decide +kernel
theorem dL_law_859 : decode cL_law 859 = .ok (.invokevirtual 98, 3) := by decide +kernel
theorem dL_law_862 : decode cL_law 862 = .ok (.aload_n 2, 1) := by decide +kernel
theorem dL_law_863 : decode cL_law 863 = .ok (.aload_n 0, 1) := by decide +kernel
theorem dL_law_864 : decode cL_law 864 = .ok (.iload_n 3, 1) := by decide +kernel
theorem dL_law_865 : decode cL_law 865 = .ok (.iconst 1, 1) := by decide +kernel
theorem dL_law_866 : decode cL_law 866 = .ok (.iadd, 1) := by decide +kernel
theorem dL_law_867 : decode cL_law 867 = .ok (.iaload, 1) := by decide +kernel
theorem dL_law_868 : decode cL_law 868 = .ok (.invokevirtual 101, 3) := by decide +kernel
theorem dL_law_871 : decode cL_law 871 = .ok (.lcmp, 1) := by decide +kernel
theorem dL_law_872 : decode cL_law 872 = .ok (.ifCond .eq 133, 3) := by decide +kernel
theorem dL_law_875 : decode cL_law 875 = .ok (.iconst 0, 1) := by decide +kernel
theorem dL_law_876 : decode cL_law 876 = .ok (.ireturn, 1) := by decide +kernel
theorem dL_law_877 : decode cL_law 877 = .ok (.aload_n 1, 1) := by decide +kernel
theorem dL_law_878 : decode cL_law 878 = .ok (.aload_n 0, 1) := by decide +kernel
theorem dL_law_879 : decode cL_law 879 = .ok (.iload_n 3, 1) := by decide +kernel
theorem dL_law_880 : decode cL_law 880 = .ok (.iconst 1, 1) := by decide +kernel
theorem dL_law_881 : decode cL_law 881 = .ok (.iadd, 1) := by decide +kernel
theorem dL_law_882 : decode cL_law 882 = .ok (.iaload, 1) := by decide +kernel
theorem dL_law_883 : decode cL_law 883 = .ok (.aload_n 0, 1) := by decide +kernel
theorem dL_law_884 : decode cL_law 884 = .ok (.iload_n 3, 1) := by decide +kernel
theorem dL_law_885 : decode cL_law 885 = .ok (.iconst 2, 1) := by decide +kernel
theorem dL_law_886 : decode cL_law 886 = .ok (.iadd, 1) := by decide +kernel
theorem dL_law_887 : decode cL_law 887 = .ok (.iaload, 1) := by decide +kernel
theorem dL_law_888 : decode cL_law 888 = .ok (.invokevirtual 102, 3) := by decide +kernel
theorem dL_law_891 : decode cL_law 891 = .ok (.aload_n 2, 1) := by decide +kernel
theorem dL_law_892 : decode cL_law 892 = .ok (.aload_n 0, 1) := by decide +kernel
theorem dL_law_893 : decode cL_law 893 = .ok (.iload_n 3, 1) := by decide +kernel
theorem dL_law_894 : decode cL_law 894 = .ok (.iconst 1, 1) := by decide +kernel
theorem dL_law_895 : decode cL_law 895 = .ok (.iadd, 1) := by decide +kernel
theorem dL_law_896 : decode cL_law 896 = .ok (.iaload, 1) := by decide +kernel
theorem dL_law_897 : decode cL_law 897 = .ok (.aload_n 0, 1) := by decide +kernel
theorem dL_law_898 : decode cL_law 898 = .ok (.iload_n 3, 1) := by decide +kernel
theorem dL_law_899 : decode cL_law 899 = .ok (.iconst 2, 1) := by decide +kernel
theorem dL_law_900 : decode cL_law 900 = .ok (.iadd, 1) := by decide +kernel
theorem dL_law_901 : decode cL_law 901 = .ok (.iaload, 1) := by decide +kernel
theorem dL_law_902 : decode cL_law 902 = .ok (.invokevirtual 105, 3) := by decide +kernel
theorem dL_law_905 : decode cL_law 905 = .ok (.lcmp, 1) := by decide +kernel
theorem dL_law_906 : decode cL_law 906 = .ok (.ifCond .eq 99, 3) := by decide +kernel
theorem dL_law_909 : decode cL_law 909 = .ok (.iconst 0, 1) := by decide +kernel
theorem dL_law_910 : decode cL_law 910 = .ok (.ireturn, 1) := by decide +kernel
theorem dL_law_911 : decode cL_law 911 = .ok (.aload_n 1, 1) := by decide +kernel
theorem dL_law_912 : decode cL_law 912 = .ok (.aload_n 0, 1) := by decide +kernel
theorem dL_law_913 : decode cL_law 913 = .ok (.iload_n 3, 1) := by decide +kernel
theorem dL_law_914 : decode cL_law 914 = .ok (.iconst 1, 1) := by decide +kernel
theorem dL_law_915 : decode cL_law 915 = .ok (.iadd, 1) := by decide +kernel
theorem dL_law_916 : decode cL_law 916 = .ok (.iaload, 1) := by decide +kernel
theorem dL_law_917 : decode cL_law 917 = .ok (.aload_n 0, 1) := by decide +kernel
theorem dL_law_918 : decode cL_law 918 = .ok (.iload_n 3, 1) := by decide +kernel
theorem dL_law_919 : decode cL_law 919 = .ok (.iconst 2, 1) := by decide +kernel
theorem dL_law_920 : decode cL_law 920 = .ok (.iadd, 1) := by decide +kernel
theorem dL_law_921 : decode cL_law 921 = .ok (.iaload, 1) := by decide +kernel
theorem dL_law_922 : decode cL_law 922 = .ok (.invokevirtual 106, 3) := by decide +kernel
theorem dL_law_925 : decode cL_law 925 = .ok (.aload_n 2, 1) := by decide +kernel
theorem dL_law_926 : decode cL_law 926 = .ok (.aload_n 0, 1) := by decide +kernel
theorem dL_law_927 : decode cL_law 927 = .ok (.iload_n 3, 1) := by decide +kernel
theorem dL_law_928 : decode cL_law 928 = .ok (.iconst 1, 1) := by decide +kernel
theorem dL_law_929 : decode cL_law 929 = .ok (.iadd, 1) := by decide +kernel
theorem dL_law_930 : decode cL_law 930 = .ok (.iaload, 1) := by decide +kernel
theorem dL_law_931 : decode cL_law 931 = .ok (.aload_n 0, 1) := by decide +kernel
theorem dL_law_932 : decode cL_law 932 = .ok (.iload_n 3, 1) := by decide +kernel
theorem dL_law_933 : decode cL_law 933 = .ok (.iconst 2, 1) := by decide +kernel
theorem dL_law_934 : decode cL_law 934 = .ok (.iadd, 1) := by decide +kernel
theorem dL_law_935 : decode cL_law 935 = .ok (.iaload, 1) := by decide +kernel
theorem dL_law_936 : decode cL_law 936 = .ok (.invokevirtual 109, 3) := by decide +kernel
theorem dL_law_939 : decode cL_law 939 = .ok (.lcmp, 1) := by decide +kernel
theorem dL_law_940 : decode cL_law 940 = .ok (.ifCond .eq 65, 3) := by decide +kernel
theorem dL_law_943 : decode cL_law 943 = .ok (.iconst 0, 1) := by decide +kernel
theorem dL_law_944 : decode cL_law 944 = .ok (.ireturn, 1) := by decide +kernel
theorem dL_law_945 : decode cL_law 945 = .ok (.aload_n 1, 1) := by decide +kernel
theorem dL_law_946 : decode cL_law 946 = .ok (.aload_n 0, 1) := by decide +kernel
theorem dL_law_947 : decode cL_law 947 = .ok (.iload_n 3, 1) := by decide +kernel
theorem dL_law_948 : decode cL_law 948 = .ok (.iconst 1, 1) := by decide +kernel
theorem dL_law_949 : decode cL_law 949 = .ok (.iadd, 1) := by decide +kernel
theorem dL_law_950 : decode cL_law 950 = .ok (.iaload, 1) := by decide +kernel
theorem dL_law_951 : decode cL_law 951 = .ok (.invokevirtual 110, 3) := by decide +kernel
theorem dL_law_954 : decode cL_law 954 = .ok (.aload_n 2, 1) := by decide +kernel
theorem dL_law_955 : decode cL_law 955 = .ok (.aload_n 0, 1) := by decide +kernel
theorem dL_law_956 : decode cL_law 956 = .ok (.iload_n 3, 1) := by decide +kernel
theorem dL_law_957 : decode cL_law 957 = .ok (.iconst 1, 1) := by decide +kernel
theorem dL_law_958 : decode cL_law 958 = .ok (.iadd, 1) := by decide +kernel
theorem dL_law_959 : decode cL_law 959 = .ok (.iaload, 1) := by decide +kernel
theorem dL_law_960 : decode cL_law 960 = .ok (.invokevirtual 114, 3) := by decide +kernel
theorem dL_law_963 : decode cL_law 963 = .ok (.if_icmp .eq 42, 3) := by decide +kernel
theorem dL_law_966 : decode cL_law 966 = .ok (.iconst 0, 1) := by decide +kernel
theorem dL_law_967 : decode cL_law 967 = .ok (.ireturn, 1) := by decide +kernel
theorem dL_law_968 : decode cL_law 968 = .ok (.aload_n 1, 1) := by decide +kernel
theorem dL_law_969 : decode cL_law 969 = .ok (.aload_n 0, 1) := by decide +kernel
theorem dL_law_970 : decode cL_law 970 = .ok (.iload_n 3, 1) := by decide +kernel
theorem dL_law_971 : decode cL_law 971 = .ok (.iconst 1, 1) := by decide +kernel
theorem dL_law_972 : decode cL_law 972 = .ok (.iadd, 1) := by decide +kernel
theorem dL_law_973 : decode cL_law 973 = .ok (.iaload, 1) := by decide +kernel
theorem dL_law_974 : decode cL_law 974 = .ok (.invokevirtual 115, 3) := by decide +kernel
theorem dL_law_977 : decode cL_law 977 = .ok (.aload_n 2, 1) := by decide +kernel
theorem dL_law_978 : decode cL_law 978 = .ok (.aload_n 0, 1) := by decide +kernel
theorem dL_law_979 : decode cL_law 979 = .ok (.iload_n 3, 1) := by decide +kernel
theorem dL_law_980 : decode cL_law 980 = .ok (.iconst 1, 1) := by decide +kernel
theorem dL_law_981 : decode cL_law 981 = .ok (.iadd, 1) := by decide +kernel
theorem dL_law_982 : decode cL_law 982 = .ok (.iaload, 1) := by decide +kernel
theorem dL_law_983 : decode cL_law 983 = .ok (.invokevirtual 118, 3) := by decide +kernel
theorem dL_law_986 : decode cL_law 986 = .ok (.lcmp, 1) := by decide +kernel
theorem dL_law_987 : decode cL_law 987 = .ok (.ifCond .eq 18, 3) := by decide +kernel
theorem dL_law_990 : decode cL_law 990 = .ok (.iconst 0, 1) := by decide +kernel
theorem dL_law_991 : decode cL_law 991 = .ok (.ireturn, 1) := by decide +kernel
theorem dL_law_992 : decode cL_law 992 = .ok (.aload_n 1, 1) := by decide +kernel
theorem dL_law_993 : decode cL_law 993 = .ok (.invokevirtual 119, 3) := by decide +kernel
theorem dL_law_996 : decode cL_law 996 = .ok (.aload_n 2, 1) := by decide +kernel
theorem dL_law_997 : decode cL_law 997 = .ok (.invokevirtual 122, 3) := by decide +kernel
theorem dL_law_1000 : decode cL_law 1000 = .ok (.if_icmp .eq 5, 3) := by decide +kernel
theorem dL_law_1003 : decode cL_law 1003 = .ok (.iconst 0, 1) := by decide +kernel
theorem dL_law_1004 : decode cL_law 1004 = .ok (.ireturn, 1) := by decide +kernel
theorem dL_law_1005 : decode cL_law 1005 = .ok (.iinc 3 6, 3) := by decide +kernel
theorem dL_law_1008 : decode cL_law 1008 = .ok (.goto (-990), 3) := by decide +kernel
theorem dL_law_1011 : decode cL_law 1011 = .ok (.iconst 1, 1) := by decide +kernel
theorem dL_law_1012 : decode cL_law 1012 = .ok (.ireturn, 1) := by decide +kernel
end
section
/-! THE COMPRESSED WORLD: a list of shapes (fixed) and two tables of contents: ints and longs by cell and slot -/
abbrev Zs : Type := (Nat → Nat → Int32) × (Nat → Nat → Int64)
def zI (S : Zs) (k j : Nat) (v : Int32) : Zs := (fun a b => if a = k ∧ b = j then v else S.1 a b, S.2)
def zL (S : Zs) (k j : Nat) (v : Int64) : Zs := (S.1, fun a b => if a = k ∧ b = j then v else S.2 a b)
def zcI (S : Zs) (q0 sp q1 dp n : Nat) : Zs := (fun a b => if a = q1 then va_cpy (S.1 q0) (S.1 q1) sp dp n b else S.1 a b, S.2)
def zcL (S : Zs) (q0 sp q1 dp n : Nat) : Zs := (S.1, fun a b => if a = q1 then va_cpy (S.2 q0) (S.2 q1) sp dp n b else S.2 a b)
/-- a value with a name -/
def lt_ {α β : Type} (x : α) (F : α → β) : β := F x
def inb (i : Int32) (n : Nat) : Bool := decide (¬ (i < 0 ∨ n ≤ i.toNatClampNeg))
def bd1 {α γ : Type} (x : Option α) (k : α → Option γ) : Option γ := match x with
  | none => none
  | some a => k a
def bd2 {α β γ : Type} (x : Option (α × β)) (k : α → β → Option γ) : Option γ := match x with
  | none => none
  | some a => k a.1 a.2
/-- a field: .inl 0 an int, .inl 1 a long, .inr q a fixed reference to cell q -/
abbrev Zf : Type := Nat ⊕ Nat
/-- a cell: .inl (number of its kind, fields), .inr (0 ints, 1 longs, 2 bytes, 3 references; length; the references) -/
abbrev Zc : Type := (Nat × List Zf) ⊕ (Nat × Nat × List Nat)
def zfv (ad : Nat → Nat) (S : Zs) (k j : Nat) (f : Zf) : Value := match f with
  | .inl 0 => .int (S.1 k j)
  | .inl _ => .long (S.2 k j)
  | .inr q => .ref (ad q)
def zcel (ad : Nat → Nat) (cA : Nat → ClassId) (S : Zs) (k : Nat) (x : Zc) : va_E := match x with
  | .inl o => .inr (o.1, o.2.mapIdx (fun j f => zfv ad S k j f))
  | .inr (0, n, _) => .inl (cA 0, n, .inl (S.1 k))
  | .inr (1, n, _) => .inl (cA 1, n, .inr (.inl (S.2 k)))
  | .inr (2, n, _) => .inl (cA 2, n, .inl (S.1 k))
  | .inr (_, n, rs) => .inl (cA 3, n, .inr (.inr (.inr (.inr (fun j => (rs[j]?).map ad)))))
def zw (sh : List Zc) (ad : Nat → Nat) (cA : Nat → ClassId) (S : Zs) : va_W := sh.mapIdx (fun k x => (ad k, zcel ad cA S k x))
theorem zw_at {sh : List Zc} {ad : Nat → Nat} {cA : Nat → ClassId} {S : Zs} {k : Nat} {x : Zc} (h : sh[k]? = some x) : (zw sh ad cA S)[k]? = some (ad k, zcel ad cA S k x) := by
  unfold zw; rw [List.getElem?_mapIdx, h]; rfl
theorem zw_set {sh : List Zc} {ad : Nat → Nat} {cA : Nat → ClassId} {S S' : Zs} {k : Nat} {x : Zc} (h : sh[k]? = some x) (hk : ∀ (i : Nat) (y : Zc), i ≠ k → zcel ad cA S' i y = zcel ad cA S i y) : (zw sh ad cA S).set k (ad k, zcel ad cA S' k x) = zw sh ad cA S' := by
  apply List.ext_getElem?
  intro i
  by_cases hi : i = k
  · subst hi
    rw [List.getElem?_set_self (List.getElem?_eq_some_iff.mp (zw_at (ad := ad) (cA := cA) (S := S) h)).1, zw_at h]
  · rw [List.getElem?_set_ne (Ne.symm hi)]
    unfold zw
    rw [List.getElem?_mapIdx, List.getElem?_mapIdx]
    cases sh[i]? with
    | none => rfl
    | some y => simp only [Option.map_some, hk i y hi]
theorem zcel_eq {ad : Nat → Nat} {cA : Nat → ClassId} {S S' : Zs} {i : Nat} (e1 : S'.1 i = S.1 i) (e2 : S'.2 i = S.2 i) (y : Zc) : zcel ad cA S' i y = zcel ad cA S i y := by
  have ef : (fun j f => zfv ad S' i j f) = (fun j f => zfv ad S i j f) := by
    funext j f
    unfold zfv
    rw [e1, e2]
  unfold zcel
  rw [e1, e2, ef]
theorem zI_1 (S : Zs) (k j : Nat) (v : Int32) : (zI S k j v).1 k = upd (S.1 k) j v := by
  funext b
  simp [zI, upd]
theorem zI_1n (S : Zs) {k i : Nat} (j : Nat) (v : Int32) (h : i ≠ k) : (zI S k j v).1 i = S.1 i := by
  funext b
  simp [zI, h]
theorem zL_2 (S : Zs) (k j : Nat) (v : Int64) : (zL S k j v).2 k = vp_updL (S.2 k) j v := by
  funext b
  simp [zL, vp_updL]
theorem zL_2n (S : Zs) {k i : Nat} (j : Nat) (v : Int64) (h : i ≠ k) : (zL S k j v).2 i = S.2 i := by
  funext b
  simp [zL, h]
theorem zcI_1 (S : Zs) (q0 sp q1 dp n : Nat) : (zcI S q0 sp q1 dp n).1 q1 = va_cpy (S.1 q0) (S.1 q1) sp dp n := by
  funext b
  simp [zcI]
theorem zcI_1n (S : Zs) {q1 i : Nat} (q0 sp dp n : Nat) (h : i ≠ q1) : (zcI S q0 sp q1 dp n).1 i = S.1 i := by
  funext b
  simp [zcI, h]
theorem zcL_2 (S : Zs) (q0 sp q1 dp n : Nat) : (zcL S q0 sp q1 dp n).2 q1 = va_cpy (S.2 q0) (S.2 q1) sp dp n := by
  funext b
  simp [zcL]
theorem zcL_2n (S : Zs) {q1 i : Nat} (q0 sp dp n : Nat) (h : i ≠ q1) : (zcL S q0 sp q1 dp n).2 i = S.2 i := by
  funext b
  simp [zcL, h]
theorem zfs_I {ad : Nat → Nat} {S : Zs} {k j : Nat} {fs : List Zf} {v : Int32} (hf : fs[j]? = some (.inl 0)) : (fs.mapIdx (fun j f => zfv ad S k j f)).set j (.int v) = fs.mapIdx (fun i f => zfv ad (zI S k j v) k i f) := by
  apply List.ext_getElem?
  intro i
  by_cases hi : i = j
  · subst hi
    rw [List.getElem?_set_self (by simp; exact (List.getElem?_eq_some_iff.mp hf).1), List.getElem?_mapIdx, hf]
    simp [zfv, zI]
  · rw [List.getElem?_set_ne (Ne.symm hi), List.getElem?_mapIdx, List.getElem?_mapIdx]
    cases fs[i]? with
    | none => rfl
    | some f =>
      have e : zfv ad (zI S k j v) k i f = zfv ad S k i f := by
        unfold zfv
        have : (zI S k j v).1 k i = S.1 k i := by simp [zI, hi]
        rw [this]
        rfl
      simp [e]
theorem zfs_L {ad : Nat → Nat} {S : Zs} {k j : Nat} {fs : List Zf} {v : Int64} (hf : fs[j]? = some (.inl 1)) : (fs.mapIdx (fun j f => zfv ad S k j f)).set j (.long v) = fs.mapIdx (fun i f => zfv ad (zL S k j v) k i f) := by
  apply List.ext_getElem?
  intro i
  by_cases hi : i = j
  · subst hi
    rw [List.getElem?_set_self (by simp; exact (List.getElem?_eq_some_iff.mp hf).1), List.getElem?_mapIdx, hf]
    simp [zfv, zL]
  · rw [List.getElem?_set_ne (Ne.symm hi), List.getElem?_mapIdx, List.getElem?_mapIdx]
    cases fs[i]? with
    | none => rfl
    | some f =>
      have e : zfv ad (zL S k j v) k i f = zfv ad S k i f := by
        unfold zfv
        have : (zL S k j v).2 k i = S.2 k i := by simp [zL, hi]
        rw [this]
        rfl
      simp [e]
/-! the kinds of objects, the kinds of arrays -/
abbrev zcl : List vw_C := [(RX0, TX0, 9), (RX1, TX1, 3), (RX2, TX2, 3), (RX3, TX3, 8), (RX4, TX4, 2), (RX5, TX5, 7), (RX6, TX6, 12), (RX7, TX7, 37)]
abbrev ztys (cA : Nat → ClassId) : List (ClassId × FieldType) := [(cA 0, .int), (cA 1, .long), (cA 2, .byte), (cA 3, .array .int)]
/-- the tables' words that serve a callee -/
def ztb : List Cond := lw_tbl.filter goodWord
theorem zgood : ∀ w ∈ ztb, (w.onTables && w.keeps) = true ∨ ∃ ty, w = .arrayClass ty := fun w hw => good_of_word (List.mem_filter.mp hw).2
theorem zGood {ws : List Cond} (h : ∀ w ∈ ws, w ∈ ztb) : GoodIn ztb ws := fun w hw => ⟨h w hw, zgood w (h w hw)⟩
theorem zmem {w : Cond} (i : Nat) (h : lw_tbl[i]? = some w) (g : goodWord w = true) : w ∈ ztb := List.mem_filter.mpr ⟨List.mem_of_getElem? h, g⟩
/-! what stays through a method; what changes -/
def zCx (p : Program) (s : State) (m : MethodId) (args : Array Value) (meth : Method) (c : Code) (cc : ByteArray) (nL : Nat) (own : String) (ret : Option FieldType) (D : va_G) (cA : Nat → ClassId) (A : Nat → Prop) : Prop :=
  p.tables.exec = Jvm.exec ∧ c.code = cc ∧ c.maxLocals = nL ∧ s.vm.findClass own = some m.cls ∧ (∀ w ∈ ztb, w.before args s = true) ∧ va_K D zcl (ztys cA) s ∧ (∀ q, s.heap.size ≤ q → A q) ∧ meth.sig.returnType = ret ∧ meth.locks = false
def zP (D : va_G) (sh : List Zc) (ad : Nat → Nat) (cA : Nat → ClassId) (A : Nat → Prop) (S : Zs) (s : State) (H : Heap) (locs : List Loc) : Prop :=
  va_P D zcl (zw sh ad cA S) H ∧ va_D A (zw sh ad cA S) ∧ va_S A s.heap H locs
def zB (D : va_G) (sh : List Zc) (ad : Nat → Nat) (cA : Nat → ClassId) (A : Nat → Prop) (S : Zs) (t : State) : Prop :=
  va_P D zcl (zw sh ad cA S) t.heap ∧ va_K D zcl (ztys cA) t ∧ va_D A (zw sh ad cA S)
abbrev zQi (D : va_G) (sh : List Zc) (ad : Nat → Nat) (cA : Nat → ClassId) (A : Nat → Prop) (z : Int32 × Zs) : Array Value → State → Outcome → State → Prop :=
  va_Qi (fun (r : Int32) (S : Zs) => r = z.1 ∧ S = z.2) (zB D sh ad cA A) A
abbrev zQb (D : va_G) (sh : List Zc) (ad : Nat → Nat) (cA : Nat → ClassId) (A : Nat → Prop) (z : Int32 × Zs) : Array Value → State → Outcome → State → Prop :=
  va_Qi (fun (r : Int32) (S : Zs) => (r = z.1 ∧ S = z.2) ∧ narrow .boolean (.int r) = .int r) (zB D sh ad cA A) A
abbrev zQl (D : va_G) (sh : List Zc) (ad : Nat → Nat) (cA : Nat → ClassId) (A : Nat → Prop) (z : Int64 × Zs) : Array Value → State → Outcome → State → Prop :=
  va_Ql (fun (r : Int64) (S : Zs) => r = z.1 ∧ S = z.2) (zB D sh ad cA A) A
abbrev zQv (D : va_G) (sh : List Zc) (ad : Nat → Nat) (cA : Nat → ClassId) (A : Nat → Prop) (z : Zs) : Array Value → State → Outcome → State → Prop :=
  va_Qv (fun (S : Zs) => S = z) (zB D sh ad cA A) A
abbrev zPc (D : va_G) (sh : List Zc) (ad : Nat → Nat) (cA : Nat → ClassId) (sz : Nat) (S : Zs) (av : List Value) : Array Value → State → Prop :=
  va_Pc av (fun U => U.heap.size = sz ∧ va_P D zcl (zw sh ad cA S) U.heap ∧ va_K D zcl (ztys cA) U ∧ va_D (fun _ => True) (zw sh ad cA S))
abbrev zA (sh : List Zc) (ad : Nat → Nat) (cA : Nat → ClassId) (S : Zs) (sz : Nat) : Nat → Prop := va_A (zw sh ad cA S) sz
abbrev zrm (f k : Nat) : Room := { frames := f, cells := 0, slots := 0, locals := k }
/-- the contracts: of an int, a boolean, a long, nothing -/
def zMi (l : Launch) (y : MethodName) (bytes : ByteArray) (maxL : Nat) (fr lo : Nat) (D : va_G) (sh : List Zc) (ad : Nat → Nat) (cA : Nat → ClassId) (S : Zs) (av : List Value) (z : Int32 × Zs) : Prop :=
  ∀ sz : Nat, Met l y (.code y bytes maxL (some .int) :: ztb) (zrm fr lo) (zPc D sh ad cA sz S av) (zQi D sh ad cA (zA sh ad cA S sz) z) 0 0 (zA sh ad cA S sz)
def zMb (l : Launch) (y : MethodName) (bytes : ByteArray) (maxL : Nat) (fr lo : Nat) (D : va_G) (sh : List Zc) (ad : Nat → Nat) (cA : Nat → ClassId) (S : Zs) (av : List Value) (z : Int32 × Zs) : Prop :=
  ∀ sz : Nat, Met l y (.code y bytes maxL (some .boolean) :: ztb) (zrm fr lo) (zPc D sh ad cA sz S av) (zQb D sh ad cA (zA sh ad cA S sz) z) 0 0 (zA sh ad cA S sz)
def zMl (l : Launch) (y : MethodName) (bytes : ByteArray) (maxL : Nat) (fr lo : Nat) (D : va_G) (sh : List Zc) (ad : Nat → Nat) (cA : Nat → ClassId) (S : Zs) (av : List Value) (z : Int64 × Zs) : Prop :=
  ∀ sz : Nat, Met l y (.code y bytes maxL (some .long) :: ztb) (zrm fr lo) (zPc D sh ad cA sz S av) (zQl D sh ad cA (zA sh ad cA S sz) z) 0 0 (zA sh ad cA S sz)
def zMv (l : Launch) (y : MethodName) (bytes : ByteArray) (maxL : Nat) (fr lo : Nat) (D : va_G) (sh : List Zc) (ad : Nat → Nat) (cA : Nat → ClassId) (S : Zs) (av : List Value) (z : Zs) : Prop :=
  ∀ sz : Nat, Met l y (.code y bytes maxL none :: ztb) (zrm fr lo) (zPc D sh ad cA sz S av) (zQv D sh ad cA (zA sh ad cA S sz) z) 0 0 (zA sh ad cA S sz)
/-- from a walk of the body to a contract -/
theorem z_enter {l : Launch} {y : MethodName} {bytes : ByteArray} {maxL fr lo : Nat} {ret : Option FieldType} {D : va_G} {sh : List Zc} {ad : Nat → Nat} {cA : Nat → ClassId} {S : Zs} {av : List Value} {Qc : (Nat → Prop) → Array Value → State → Outcome → State → Prop} (hy : plainName y.cls = true) (hav : (lg_sl av).length ≤ maxL)
    (body : ∀ (p : Program) (e : Env) (s : State) (m : MethodId) (below : List Frame) (meth : Method) (c : Code) (A : Nat → Prop), zCx p s m av.toArray meth c bytes maxL y.cls ret D cA A → zP D sh ad cA A S s s.heap [] → ∀ ls : Array Slot, lv_has ls maxL (lv_args 0 av) →
      W p l e (zrm fr lo) s m av.toArray below meth c s.heap [] 0 0 (MQ below (Qc A) av.toArray s 0 0 A) (F0 m 0 ls [])) :
    ∀ sz : Nat, Met l y (.code y bytes maxL ret :: ztb) (zrm fr lo) (zPc D sh ad cA sz S av) (Qc (zA sh ad cA S sz)) 0 0 (zA sh ad cA S sz) := by
  intro sz
  refine Met.ofW (cc := bytes) (maxL := maxL) (ret := ret) hy rfl ?_
  intro p e s m args below meth c s₁ B hml hv
  obtain ⟨rfl, hsz, hP, hK, hD0⟩ := hv
  have hts := atoms_spec (ws := .code y bytes maxL ret :: ztb) B.pre
  subst hsz
  rw [lg_entry_eq]
  exact body p e s m below meth c (zA sh ad cA S s.heap.size) ⟨B.exec, B.bytes, hml, findClass_of_methodNamed B.named, fun w hw => hts w (List.mem_cons_of_mem _ hw), hK, fun q h => Or.inr h, B.returns, B.notSynchronized⟩ ⟨hP, hD0.self, va_S.rf⟩ _ (lv_entry av hav)
section ZK
variable {p : Program} {l : Launch} {e : Env} {R : Room} {s : State} {m : MethodId} {args : Array Value} {below : List Frame} {meth : Method} {c : Code} {H : Heap} {locs : List Loc} {cells slots : Nat} {Q : State → Prop}
variable {cc : ByteArray} {nL pc : Nat} {own : String} {ret : Option FieldType} {D : va_G} {cA : Nat → ClassId} {A : Nat → Prop} {ls : Array Slot} {rest : List Value} {sh : List Zc} {ad : Nat → Nat} {S : Zs}
/-! a name for a value -/
theorem z_topi {β : Type} {z : β} {x : Int32} {F : Int32 → β} (h : lt_ x F = z) (k : ∀ v : Int32, F v = z → W p l e R s m args below meth c H locs cells slots Q (F0 m pc ls (.int v :: rest))) : W p l e R s m args below meth c H locs cells slots Q (F0 m pc ls (.int x :: rest)) := k x h
theorem z_topl {β : Type} {z : β} {x : Int64} {F : Int64 → β} (h : lt_ x F = z) (k : ∀ v : Int64, F v = z → W p l e R s m args below meth c H locs cells slots Q (F0 m pc ls (.long v :: rest))) : W p l e R s m args below meth c H locs cells slots Q (F0 m pc ls (.long x :: rest)) := k x h
/-! ends -/
theorem z_iret (C : zCx p s m args meth c cc nL own (some .int) D cA A) (P : zP D sh ad cA A S s H locs) {v : Int32} {z : Int32 × Zs} (hz : (v, S) = z) (hdg : decode cc pc = .ok (.ireturn, 1)) : W p l e R s m args below meth c H locs cells slots (MQ below (zQi D sh ad cA A z) args s cells slots A) (F0 m pc ls [.int v]) := by
  subst hz
  obtain ⟨hx, hb, hml, hown, hts, hK, hA, hr, hlk⟩ := C
  exact W.iret hx hb hr (fun t ht hW => ⟨⟨v, S, rfl, ⟨rfl, rfl⟩, by rw [ht]; exact P.1, va_K.moved hW.alike hK, P.2.1⟩, P.2.2.F ht⟩) P.2.2.2.2 hdg hlk
theorem z_zret (C : zCx p s m args meth c cc nL own (some .boolean) D cA A) (P : zP D sh ad cA A S s H locs) {v : Int32} {z : Int32 × Zs} (hz : (v, S) = z) (hn : narrow .boolean (.int v) = .int v) (hdg : decode cc pc = .ok (.ireturn, 1)) : W p l e R s m args below meth c H locs cells slots (MQ below (zQb D sh ad cA A z) args s cells slots A) (F0 m pc ls [.int v]) := by
  subst hz
  obtain ⟨hx, hb, hml, hown, hts, hK, hA, hr, hlk⟩ := C
  exact W.zret hx hb hr hn (fun t ht hW => ⟨⟨v, S, rfl, ⟨⟨rfl, rfl⟩, hn⟩, by rw [ht]; exact P.1, va_K.moved hW.alike hK, P.2.1⟩, P.2.2.F ht⟩) P.2.2.2.2 hdg hlk
theorem z_lret (C : zCx p s m args meth c cc nL own (some .long) D cA A) (P : zP D sh ad cA A S s H locs) {v : Int64} {z : Int64 × Zs} (hz : (v, S) = z) (hdg : decode cc pc = .ok (.lreturn, 1)) : W p l e R s m args below meth c H locs cells slots (MQ below (zQl D sh ad cA A z) args s cells slots A) (F0 m pc ls [.long v]) := by
  subst hz
  obtain ⟨hx, hb, hml, hown, hts, hK, hA, hr, hlk⟩ := C
  exact W.lret hx hb hr (fun t ht hW => ⟨⟨v, S, rfl, ⟨rfl, rfl⟩, by rw [ht]; exact P.1, va_K.moved hW.alike hK, P.2.1⟩, P.2.2.F ht⟩) P.2.2.2.2 hdg hlk
theorem z_vret (C : zCx p s m args meth c cc nL own none D cA A) (P : zP D sh ad cA A S s H locs) {z : Zs} (hz : S = z) (hdg : decode cc pc = .ok (.return_, 1)) : W p l e R s m args below meth c H locs cells slots (MQ below (zQv D sh ad cA A z) args s cells slots A) (F0 m pc ls []) := by
  subst hz
  obtain ⟨hx, hb, hml, hown, hts, hK, hA, hr, hlk⟩ := C
  exact W.vret hx hb hr (fun t ht hW => ⟨⟨S, rfl, rfl, by rw [ht]; exact P.1, va_K.moved hW.alike hK, P.2.1⟩, P.2.2.F ht⟩) P.2.2.2.2 hdg hlk
/-! fields -/
theorem z_getI (C : zCx p s m args meth c cc nL own ret D cA A) (P : zP D sh ad cA A S s H locs) {ci N index : Nat} {Cn ref : String} {T : u_T} (hc : zcl[ci]? = some (Cn, T, N)) (hin : ∀ w ∈ u_ws Cn T N, w ∈ ztb) (k : Nat) (hk : k < N) (href : (T k).1 = ref) (hlink : Cond.fieldLink own index ref (T k).2.1 (T k).2.2.1 ∈ ztb) {o : Nat} {fs : List Zf} (hs : sh[o]? = some (.inl (ci, fs))) (hf : fs[k]? = some (.inl 0)) (hdg : decode cc pc = .ok (.getfield index, 3))
    (kk : W p l e R s m args below meth c H locs cells slots Q (F0 m (pc + 3) ls (.int (S.1 o k) :: rest))) : W p l e R s m args below meth c H locs cells slots Q (F0 m pc ls (.ref (ad o) :: rest)) := by
  subst href
  obtain ⟨hx, hb, hml, hown, hts, hK, -⟩ := C
  refine va_get (D := D) (ci := ci) (v := .int (S.1 o k)) (C := Cn) (T := T) (N := N) hx hb hts hin hown hK P.1 o (zw_at hs) hc k hk (hts _ hlink) (fun _ h9 => h9) ?_ hdg kk
  rw [List.getElem?_mapIdx, hf]
  rfl
theorem z_getL (C : zCx p s m args meth c cc nL own ret D cA A) (P : zP D sh ad cA A S s H locs) {ci N index : Nat} {Cn ref : String} {T : u_T} (hc : zcl[ci]? = some (Cn, T, N)) (hin : ∀ w ∈ u_ws Cn T N, w ∈ ztb) (k : Nat) (hk : k < N) (href : (T k).1 = ref) (hlink : Cond.fieldLink own index ref (T k).2.1 (T k).2.2.1 ∈ ztb) {o : Nat} {fs : List Zf} (hs : sh[o]? = some (.inl (ci, fs))) (hf : fs[k]? = some (.inl 1)) (hdg : decode cc pc = .ok (.getfield index, 3))
    (kk : W p l e R s m args below meth c H locs cells slots Q (F0 m (pc + 3) ls (.long (S.2 o k) :: rest))) : W p l e R s m args below meth c H locs cells slots Q (F0 m pc ls (.ref (ad o) :: rest)) := by
  subst href
  obtain ⟨hx, hb, hml, hown, hts, hK, -⟩ := C
  refine va_get (D := D) (ci := ci) (v := .long (S.2 o k)) (C := Cn) (T := T) (N := N) hx hb hts hin hown hK P.1 o (zw_at hs) hc k hk (hts _ hlink) (fun _ h9 => h9) ?_ hdg kk
  rw [List.getElem?_mapIdx, hf]
  rfl
theorem z_getR (C : zCx p s m args meth c cc nL own ret D cA A) (P : zP D sh ad cA A S s H locs) {ci N index : Nat} {Cn ref : String} {T : u_T} (hc : zcl[ci]? = some (Cn, T, N)) (hin : ∀ w ∈ u_ws Cn T N, w ∈ ztb) (k : Nat) (hk : k < N) (href : (T k).1 = ref) (hlink : Cond.fieldLink own index ref (T k).2.1 (T k).2.2.1 ∈ ztb) {o q : Nat} {fs : List Zf} (hs : sh[o]? = some (.inl (ci, fs))) (hf : fs[k]? = some (.inr q)) (hdg : decode cc pc = .ok (.getfield index, 3))
    (kk : W p l e R s m args below meth c H locs cells slots Q (F0 m (pc + 3) ls (.ref (ad q) :: rest))) : W p l e R s m args below meth c H locs cells slots Q (F0 m pc ls (.ref (ad o) :: rest)) := by
  subst href
  obtain ⟨hx, hb, hml, hown, hts, hK, -⟩ := C
  refine va_get (D := D) (ci := ci) (v := .ref (ad q)) (C := Cn) (T := T) (N := N) hx hb hts hin hown hK P.1 o (zw_at hs) hc k hk (hts _ hlink) (fun _ h9 => h9) ?_ hdg kk
  rw [List.getElem?_mapIdx, hf]
  rfl
theorem z_putI (C : zCx p s m args meth c cc nL own ret D cA A) (P : zP D sh ad cA A S s H locs) {ci N index : Nat} {Cn ref : String} {T : u_T} (hc : zcl[ci]? = some (Cn, T, N)) (hin : ∀ w ∈ u_ws Cn T N, w ∈ ztb) (ty0 : Nat → FieldType) (hty : ∀ k, k < N → parseFieldDescriptor (T k).2.2.1 = some (ty0 k)) (hnm : ∀ a, a < N → ∀ b, b < N → a ≠ b → (T a).2.1 ≠ (T b).2.1) (k : Nat) (hk : k < N) (href : (T k).1 = ref) (hfin : (T k).2.2.2 = false) (hlink : Cond.fieldLink own index ref (T k).2.1 (T k).2.2.1 ∈ ztb) {o : Nat} {fs : List Zf} (hs : sh[o]? = some (.inl (ci, fs))) (hf : fs[k]? = some (.inl 0)) (hdg : decode cc pc = .ok (.putfield index, 3)) {v : Int32} (hn : narrow (ty0 k) (.int v) = .int v) (hfit : fits (ty0 k) (.int v) = true) {β : Type} {z : β} {F : Zs → β} (h : lt_ (zI S o k v) F = z)
    (kk : ∀ (S1 : Zs) (H1 : Heap) (locs1 : List Loc), F S1 = z → zP D sh ad cA A S1 s H1 locs1 → W p l e R s m args below meth c H1 locs1 cells slots Q (F0 m (pc + 3) ls rest)) : W p l e R s m args below meth c H locs cells slots Q (F0 m pc ls (.int v :: .ref (ad o) :: rest)) := by
  subst href
  obtain ⟨hx, hb, hml, hown, hts, hK, -⟩ := C
  refine va_put (D := D) (ci := ci) (v := .int v) (ty := ty0 k) (C := Cn) (T := T) (N := N) hx hb hts hin ty0 hty hnm hown hK P.1 P.2.1 P.2.2 o (zw_at hs) hc k hk (hts _ hlink) (fun _ h9 => h9) hfin (hty k hk) hn hfit (by simp; exact (List.getElem?_eq_some_iff.mp hf).1) hdg (fun H1 locs1 hP hD hS => ?_)
  rw [zfs_I hf, show ((ad o, (.inr (ci, fs.mapIdx (fun i f => zfv ad (zI S o k v) o i f)) : va_E)) : Nat × va_E) = (ad o, zcel ad cA (zI S o k v) o (.inl (ci, fs))) from rfl, zw_set hs (fun i y hi => zcel_eq (zI_1n S k v hi) rfl y)] at hP hD
  exact kk (zI S o k v) H1 locs1 h ⟨hP, hD, hS⟩
theorem z_putL (C : zCx p s m args meth c cc nL own ret D cA A) (P : zP D sh ad cA A S s H locs) {ci N index : Nat} {Cn ref : String} {T : u_T} (hc : zcl[ci]? = some (Cn, T, N)) (hin : ∀ w ∈ u_ws Cn T N, w ∈ ztb) (ty0 : Nat → FieldType) (hty : ∀ k, k < N → parseFieldDescriptor (T k).2.2.1 = some (ty0 k)) (hnm : ∀ a, a < N → ∀ b, b < N → a ≠ b → (T a).2.1 ≠ (T b).2.1) (k : Nat) (hk : k < N) (href : (T k).1 = ref) (hfin : (T k).2.2.2 = false) (hlink : Cond.fieldLink own index ref (T k).2.1 (T k).2.2.1 ∈ ztb) {o : Nat} {fs : List Zf} (hs : sh[o]? = some (.inl (ci, fs))) (hf : fs[k]? = some (.inl 1)) (hdg : decode cc pc = .ok (.putfield index, 3)) {v : Int64} (hn : narrow (ty0 k) (.long v) = .long v) (hfit : fits (ty0 k) (.long v) = true) {β : Type} {z : β} {F : Zs → β} (h : lt_ (zL S o k v) F = z)
    (kk : ∀ (S1 : Zs) (H1 : Heap) (locs1 : List Loc), F S1 = z → zP D sh ad cA A S1 s H1 locs1 → W p l e R s m args below meth c H1 locs1 cells slots Q (F0 m (pc + 3) ls rest)) : W p l e R s m args below meth c H locs cells slots Q (F0 m pc ls (.long v :: .ref (ad o) :: rest)) := by
  subst href
  obtain ⟨hx, hb, hml, hown, hts, hK, -⟩ := C
  refine va_put (D := D) (ci := ci) (v := .long v) (ty := ty0 k) (C := Cn) (T := T) (N := N) hx hb hts hin ty0 hty hnm hown hK P.1 P.2.1 P.2.2 o (zw_at hs) hc k hk (hts _ hlink) (fun _ h9 => h9) hfin (hty k hk) hn hfit (by simp; exact (List.getElem?_eq_some_iff.mp hf).1) hdg (fun H1 locs1 hP hD hS => ?_)
  rw [zfs_L hf, show ((ad o, (.inr (ci, fs.mapIdx (fun i f => zfv ad (zL S o k v) o i f)) : va_E)) : Nat × va_E) = (ad o, zcel ad cA (zL S o k v) o (.inl (ci, fs))) from rfl, zw_set (S := S) (S' := zL S o k v) hs (fun i y hi => zcel_eq (S := S) (S' := zL S o k v) rfl (zL_2n S k v hi) y)] at hP hD
  exact kk (zL S o k v) H1 locs1 h ⟨hP, hD, hS⟩
/-! arrays -/
theorem z_in {i : Int32} {n : Nat} (h : inb i n = true) : vp_in i n := by
  unfold inb at h
  unfold vp_in
  exact of_decide_eq_true h
theorem z_iald (C : zCx p s m args meth c cc nL own ret D cA A) (P : zP D sh ad cA A S s H locs) {q n : Nat} {rs : List Nat} (hs : sh[q]? = some (.inr (0, n, rs))) (hdg : decode cc pc = .ok (.iaload, 1)) {i : Int32} {β : Type} {z : β} {X : Option β} (h : (if inb i n = true then X else none) = some z)
    (kk : X = some z → inb i n = true → W p l e R s m args below meth c H locs cells slots Q (F0 m (pc + 1) ls (.int (S.1 q i.toNatClampNeg) :: rest))) : W p l e R s m args below meth c H locs cells slots Q (F0 m pc ls (.int i :: .ref (ad q) :: rest)) := by
  obtain ⟨hx, hb, hml, hown, hts, hK, -⟩ := C
  by_cases hi : inb i n = true
  · rw [if_pos hi] at h
    exact va_iald hx hb hK P.1 q 0 (zw_at hs) rfl (z_in hi) hdg (kk h hi)
  · rw [if_neg hi] at h
    cases h
theorem z_bald (C : zCx p s m args meth c cc nL own ret D cA A) (P : zP D sh ad cA A S s H locs) {q n : Nat} {rs : List Nat} (hs : sh[q]? = some (.inr (2, n, rs))) (hdg : decode cc pc = .ok (.baload, 1)) {i : Int32} {β : Type} {z : β} {X : Option β} (h : (if inb i n = true then X else none) = some z)
    (kk : X = some z → inb i n = true → W p l e R s m args below meth c H locs cells slots Q (F0 m (pc + 1) ls (.int (S.1 q i.toNatClampNeg) :: rest))) : W p l e R s m args below meth c H locs cells slots Q (F0 m pc ls (.int i :: .ref (ad q) :: rest)) := by
  obtain ⟨hx, hb, hml, hown, hts, hK, -⟩ := C
  by_cases hi : inb i n = true
  · rw [if_pos hi] at h
    exact va_bald hx hb hK P.1 q 2 (zw_at hs) rfl (z_in hi) hdg (kk h hi)
  · rw [if_neg hi] at h
    cases h
theorem z_lald (C : zCx p s m args meth c cc nL own ret D cA A) (P : zP D sh ad cA A S s H locs) {q n : Nat} {rs : List Nat} (hs : sh[q]? = some (.inr (1, n, rs))) (hdg : decode cc pc = .ok (.laload, 1)) {i : Int32} {β : Type} {z : β} {X : Option β} (h : (if inb i n = true then X else none) = some z)
    (kk : X = some z → inb i n = true → W p l e R s m args below meth c H locs cells slots Q (F0 m (pc + 1) ls (.long (S.2 q i.toNatClampNeg) :: rest))) : W p l e R s m args below meth c H locs cells slots Q (F0 m pc ls (.int i :: .ref (ad q) :: rest)) := by
  obtain ⟨hx, hb, hml, hown, hts, hK, -⟩ := C
  by_cases hi : inb i n = true
  · rw [if_pos hi] at h
    exact va_lald hx hb hK P.1 q 1 (zw_at hs) rfl (z_in hi) hdg (kk h hi)
  · rw [if_neg hi] at h
    cases h
theorem z_aald (C : zCx p s m args meth c cc nL own ret D cA A) (P : zP D sh ad cA A S s H locs) {q n w base : Nat} {rs : List Nat} (hs : sh[q]? = some (.inr (3, n, rs))) (hrs : ∀ j, j < n → rs[j]? = some (base + j)) (hrow : ∀ j, j < n → sh[base + j]? = some (.inr (0, w, []))) (hdg : decode cc pc = .ok (.aaload, 1)) {i : Int32} {β : Type} {z : β} {X : Option β} (h : (if inb i n = true then X else none) = some z)
    (kk : X = some z → sh[base + i.toNatClampNeg]? = some (.inr (0, w, [])) → W p l e R s m args below meth c H locs cells slots Q (F0 m (pc + 1) ls (.ref (ad (base + i.toNatClampNeg)) :: rest))) : W p l e R s m args below meth c H locs cells slots Q (F0 m pc ls (.int i :: .ref (ad q) :: rest)) := by
  obtain ⟨hx, hb, hml, hown, hts, hK, -⟩ := C
  by_cases hi : inb i n = true
  · rw [if_pos hi] at h
    have hin := z_in hi
    have hlt : i.toNatClampNeg < n := Nat.not_le.mp fun q => hin (Or.inr q)
    refine W.aald (v := .ref (ad (base + i.toNatClampNeg))) (ty := .array .int) hx hb (P.1 q _ (zw_at hs)) ((hK.2 3 (cA 3, .array .int) rfl).1 n (fun j => va_rf ((rs[j]?).map ad))) rfl (fun q => by cases q) (by show ¬ (i < 0 ∨ (arrV _ _ _).slots.size ≤ _); rw [arrV_size]; exact hin) (by show (arrV _ _ _).slots[_]? = _; rw [arrV_read _ _ hlt]; show some (va_rf ((rs[_]?).map ad)) = _; rw [hrs _ hlt]; rfl) rfl rfl hdg (kk h (hrow _ hlt))
  · rw [if_neg hi] at h
    cases h
theorem z_iast (C : zCx p s m args meth c cc nL own ret D cA A) (P : zP D sh ad cA A S s H locs) {q n : Nat} {rs : List Nat} (hs : sh[q]? = some (.inr (0, n, rs))) (hdg : decode cc pc = .ok (.iastore, 1)) {i v : Int32} {β : Type} {z : β} {F : Zs → Option β} (h : (if inb i n = true then lt_ (zI S q i.toNatClampNeg v) F else none) = some z)
    (kk : ∀ (S1 : Zs) (H1 : Heap) (locs1 : List Loc), F S1 = some z → zP D sh ad cA A S1 s H1 locs1 → W p l e R s m args below meth c H1 locs1 cells slots Q (F0 m (pc + 1) ls rest)) : W p l e R s m args below meth c H locs cells slots Q (F0 m pc ls (.int v :: .int i :: .ref (ad q) :: rest)) := by
  obtain ⟨hx, hb, hml, hown, hts, hK, -⟩ := C
  by_cases hi : inb i n = true
  · rw [if_pos hi] at h
    refine va_iast hx hb hK P.1 P.2.1 P.2.2 q 0 (zw_at hs) rfl (z_in hi) hdg (fun H1 locs1 hP hD hS => ?_)
    rw [← zI_1 S q i.toNatClampNeg v, show ((ad q, (.inl (cA 0, n, .inl ((zI S q i.toNatClampNeg v).1 q)) : va_E)) : Nat × va_E) = (ad q, zcel ad cA (zI S q i.toNatClampNeg v) q (.inr (0, n, rs))) from rfl, zw_set hs (fun i9 y hi9 => zcel_eq (zI_1n S _ v hi9) rfl y)] at hP hD
    exact kk _ H1 locs1 h ⟨hP, hD, hS⟩
  · rw [if_neg hi] at h
    cases h
theorem z_bast (C : zCx p s m args meth c cc nL own ret D cA A) (P : zP D sh ad cA A S s H locs) {q n : Nat} {rs : List Nat} (hs : sh[q]? = some (.inr (2, n, rs))) (hdg : decode cc pc = .ok (.bastore, 1)) {i v : Int32} {β : Type} {z : β} {F : Zs → Option β} (h : (if inb i n = true then lt_ (zI S q i.toNatClampNeg v.toInt8.toInt32) F else none) = some z)
    (kk : ∀ (S1 : Zs) (H1 : Heap) (locs1 : List Loc), F S1 = some z → zP D sh ad cA A S1 s H1 locs1 → W p l e R s m args below meth c H1 locs1 cells slots Q (F0 m (pc + 1) ls rest)) : W p l e R s m args below meth c H locs cells slots Q (F0 m pc ls (.int v :: .int i :: .ref (ad q) :: rest)) := by
  obtain ⟨hx, hb, hml, hown, hts, hK, -⟩ := C
  by_cases hi : inb i n = true
  · rw [if_pos hi] at h
    refine va_bast hx hb hK P.1 P.2.1 P.2.2 q 2 (zw_at hs) rfl (z_in hi) hdg (fun H1 locs1 hP hD hS => ?_)
    rw [vp_nar_byte, ← zI_1 S q i.toNatClampNeg v.toInt8.toInt32, show ((ad q, (.inl (cA 2, n, .inl ((zI S q i.toNatClampNeg v.toInt8.toInt32).1 q)) : va_E)) : Nat × va_E) = (ad q, zcel ad cA (zI S q i.toNatClampNeg v.toInt8.toInt32) q (.inr (2, n, rs))) from rfl, zw_set hs (fun i9 y hi9 => zcel_eq (zI_1n S _ _ hi9) rfl y)] at hP hD
    exact kk _ H1 locs1 h ⟨hP, hD, hS⟩
  · rw [if_neg hi] at h
    cases h
theorem z_last (C : zCx p s m args meth c cc nL own ret D cA A) (P : zP D sh ad cA A S s H locs) {q n : Nat} {rs : List Nat} (hs : sh[q]? = some (.inr (1, n, rs))) (hdg : decode cc pc = .ok (.lastore, 1)) {i : Int32} {v : Int64} {β : Type} {z : β} {F : Zs → Option β} (h : (if inb i n = true then lt_ (zL S q i.toNatClampNeg v) F else none) = some z)
    (kk : ∀ (S1 : Zs) (H1 : Heap) (locs1 : List Loc), F S1 = some z → zP D sh ad cA A S1 s H1 locs1 → W p l e R s m args below meth c H1 locs1 cells slots Q (F0 m (pc + 1) ls rest)) : W p l e R s m args below meth c H locs cells slots Q (F0 m pc ls (.long v :: .int i :: .ref (ad q) :: rest)) := by
  obtain ⟨hx, hb, hml, hown, hts, hK, -⟩ := C
  by_cases hi : inb i n = true
  · rw [if_pos hi] at h
    refine va_last hx hb hK P.1 P.2.1 P.2.2 q 1 (zw_at hs) rfl (z_in hi) hdg (fun H1 locs1 hP hD hS => ?_)
    rw [← zL_2 S q i.toNatClampNeg v, show ((ad q, (.inl (cA 1, n, .inr (.inl ((zL S q i.toNatClampNeg v).2 q))) : va_E)) : Nat × va_E) = (ad q, zcel ad cA (zL S q i.toNatClampNeg v) q (.inr (1, n, rs))) from rfl, zw_set (S := S) (S' := zL S q i.toNatClampNeg v) hs (fun i9 y hi9 => zcel_eq (S := S) (S' := zL S q i.toNatClampNeg v) rfl (zL_2n S _ v hi9) y)] at hP hD
    exact kk _ H1 locs1 h ⟨hP, hD, hS⟩
  · rw [if_neg hi] at h
    cases h
theorem z_idiv (hx : p.tables.exec = Jvm.exec) (hb : c.code = cc) {x y : Int32} (hdg : decode cc pc = .ok (.idiv, 1)) {β : Type} {z : β} {X : Option β} (h : (if y = 0 then none else X) = some z) (kk : X = some z → W p l e R s m args below meth c H locs cells slots Q (F0 m (pc + 1) ls (.int (x / y) :: rest))) : W p l e R s m args below meth c H locs cells slots Q (F0 m pc ls (.int y :: .int x :: rest)) := by
  by_cases hy : y = 0
  · rw [if_pos hy] at h; cases h
  · rw [if_neg hy] at h; exact lv_idiv hx hb hdg hy (kk h)
theorem z_irem (hx : p.tables.exec = Jvm.exec) (hb : c.code = cc) {x y : Int32} (hdg : decode cc pc = .ok (.irem, 1)) {β : Type} {z : β} {X : Option β} (h : (if y = 0 then none else X) = some z) (kk : X = some z → W p l e R s m args below meth c H locs cells slots Q (F0 m (pc + 1) ls (.int (x - x / y * y) :: rest))) : W p l e R s m args below meth c H locs cells slots Q (F0 m pc ls (.int y :: .int x :: rest)) := by
  by_cases hy : y = 0
  · rw [if_pos hy] at h; cases h
  · rw [if_neg hy] at h; exact lv_irem hx hb hdg hy (kk h)
theorem z_ldiv (hx : p.tables.exec = Jvm.exec) (hb : c.code = cc) {x y : Int64} (hdg : decode cc pc = .ok (.ldiv, 1)) {β : Type} {z : β} {X : Option β} (h : (if y = 0 then none else X) = some z) (kk : X = some z → W p l e R s m args below meth c H locs cells slots Q (F0 m (pc + 1) ls (.long (x / y) :: rest))) : W p l e R s m args below meth c H locs cells slots Q (F0 m pc ls (.long y :: .long x :: rest)) := by
  by_cases hy : y = 0
  · rw [if_pos hy] at h; cases h
  · rw [if_neg hy] at h; exact lv_ldiv hx hb hdg hy (kk h)
theorem z_lrem (hx : p.tables.exec = Jvm.exec) (hb : c.code = cc) {x y : Int64} (hdg : decode cc pc = .ok (.lrem, 1)) {β : Type} {z : β} {X : Option β} (h : (if y = 0 then none else X) = some z) (kk : X = some z → W p l e R s m args below meth c H locs cells slots Q (F0 m (pc + 1) ls (.long (x - x / y * y) :: rest))) : W p l e R s m args below meth c H locs cells slots Q (F0 m pc ls (.long y :: .long x :: rest)) := by
  by_cases hy : y = 0
  · rw [if_pos hy] at h; cases h
  · rw [if_neg hy] at h; exact lv_lrem hx hb hdg hy (kk h)
/-! branches, in step with an 'if' of the function -/
theorem z_if_eq (hx : p.tables.exec = Jvm.exec) (hb : c.code = cc) {x : Int32} {off : Int} {tgt : Nat} (hdg : decode cc pc = .ok (.ifCond .eq off, 3)) (ht : (pc : Int) + off = (tgt : Int)) {β : Type} {z X Y : β} (h : (if x = 0 then X else Y) = z) (kt : X = z → W p l e R s m args below meth c H locs cells slots Q (F0 m tgt ls rest)) (kf : Y = z → W p l e R s m args below meth c H locs cells slots Q (F0 m (pc + 3) ls rest)) : W p l e R s m args below meth c H locs cells slots Q (F0 m pc ls (.int x :: rest)) :=
  lv_if_eq hx hb hdg ht (fun q => kt (by rw [if_pos q] at h; exact h)) (fun q => kf (by rw [if_neg q] at h; exact h))
theorem z_icmp_eq (hx : p.tables.exec = Jvm.exec) (hb : c.code = cc) {x y : Int32} {off : Int} {tgt : Nat} (hdg : decode cc pc = .ok (.if_icmp .eq off, 3)) (ht : (pc : Int) + off = (tgt : Int)) {β : Type} {z X Y : β} (h : (if x = y then X else Y) = z) (kt : X = z → W p l e R s m args below meth c H locs cells slots Q (F0 m tgt ls rest)) (kf : Y = z → W p l e R s m args below meth c H locs cells slots Q (F0 m (pc + 3) ls rest)) : W p l e R s m args below meth c H locs cells slots Q (F0 m pc ls (.int y :: .int x :: rest)) :=
  lv_icmp_eq hx hb hdg ht (fun q => kt (by rw [if_pos q] at h; exact h)) (fun q => kf (by rw [if_neg q] at h; exact h))
theorem z_if_ne (hx : p.tables.exec = Jvm.exec) (hb : c.code = cc) {x : Int32} {off : Int} {tgt : Nat} (hdg : decode cc pc = .ok (.ifCond .ne off, 3)) (ht : (pc : Int) + off = (tgt : Int)) {β : Type} {z X Y : β} (h : (if x = 0 then X else Y) = z) (kt : Y = z → W p l e R s m args below meth c H locs cells slots Q (F0 m tgt ls rest)) (kf : X = z → W p l e R s m args below meth c H locs cells slots Q (F0 m (pc + 3) ls rest)) : W p l e R s m args below meth c H locs cells slots Q (F0 m pc ls (.int x :: rest)) :=
  lv_if_ne hx hb hdg ht (fun q => kt (by rw [if_neg q] at h; exact h)) (fun q => kf (by rw [if_pos q] at h; exact h))
theorem z_icmp_ne (hx : p.tables.exec = Jvm.exec) (hb : c.code = cc) {x y : Int32} {off : Int} {tgt : Nat} (hdg : decode cc pc = .ok (.if_icmp .ne off, 3)) (ht : (pc : Int) + off = (tgt : Int)) {β : Type} {z X Y : β} (h : (if x = y then X else Y) = z) (kt : Y = z → W p l e R s m args below meth c H locs cells slots Q (F0 m tgt ls rest)) (kf : X = z → W p l e R s m args below meth c H locs cells slots Q (F0 m (pc + 3) ls rest)) : W p l e R s m args below meth c H locs cells slots Q (F0 m pc ls (.int y :: .int x :: rest)) :=
  lv_icmp_ne hx hb hdg ht (fun q => kt (by rw [if_neg q] at h; exact h)) (fun q => kf (by rw [if_pos q] at h; exact h))
theorem z_if_lt (hx : p.tables.exec = Jvm.exec) (hb : c.code = cc) {x : Int32} {off : Int} {tgt : Nat} (hdg : decode cc pc = .ok (.ifCond .lt off, 3)) (ht : (pc : Int) + off = (tgt : Int)) {β : Type} {z X Y : β} (h : (if x < 0 then X else Y) = z) (kt : X = z → W p l e R s m args below meth c H locs cells slots Q (F0 m tgt ls rest)) (kf : Y = z → W p l e R s m args below meth c H locs cells slots Q (F0 m (pc + 3) ls rest)) : W p l e R s m args below meth c H locs cells slots Q (F0 m pc ls (.int x :: rest)) :=
  lv_if_lt hx hb hdg ht (fun q => kt (by rw [if_pos q] at h; exact h)) (fun q => kf (by rw [if_neg q] at h; exact h))
theorem z_icmp_lt (hx : p.tables.exec = Jvm.exec) (hb : c.code = cc) {x y : Int32} {off : Int} {tgt : Nat} (hdg : decode cc pc = .ok (.if_icmp .lt off, 3)) (ht : (pc : Int) + off = (tgt : Int)) {β : Type} {z X Y : β} (h : (if x < y then X else Y) = z) (kt : X = z → W p l e R s m args below meth c H locs cells slots Q (F0 m tgt ls rest)) (kf : Y = z → W p l e R s m args below meth c H locs cells slots Q (F0 m (pc + 3) ls rest)) : W p l e R s m args below meth c H locs cells slots Q (F0 m pc ls (.int y :: .int x :: rest)) :=
  lv_icmp_lt hx hb hdg ht (fun q => kt (by rw [if_pos q] at h; exact h)) (fun q => kf (by rw [if_neg q] at h; exact h))
theorem z_if_ge (hx : p.tables.exec = Jvm.exec) (hb : c.code = cc) {x : Int32} {off : Int} {tgt : Nat} (hdg : decode cc pc = .ok (.ifCond .ge off, 3)) (ht : (pc : Int) + off = (tgt : Int)) {β : Type} {z X Y : β} (h : (if 0 ≤ x then X else Y) = z) (kt : X = z → W p l e R s m args below meth c H locs cells slots Q (F0 m tgt ls rest)) (kf : Y = z → W p l e R s m args below meth c H locs cells slots Q (F0 m (pc + 3) ls rest)) : W p l e R s m args below meth c H locs cells slots Q (F0 m pc ls (.int x :: rest)) :=
  lv_if_ge hx hb hdg ht (fun q => kt (by rw [if_pos q] at h; exact h)) (fun q => kf (by rw [if_neg q] at h; exact h))
theorem z_icmp_ge (hx : p.tables.exec = Jvm.exec) (hb : c.code = cc) {x y : Int32} {off : Int} {tgt : Nat} (hdg : decode cc pc = .ok (.if_icmp .ge off, 3)) (ht : (pc : Int) + off = (tgt : Int)) {β : Type} {z X Y : β} (h : (if y ≤ x then X else Y) = z) (kt : X = z → W p l e R s m args below meth c H locs cells slots Q (F0 m tgt ls rest)) (kf : Y = z → W p l e R s m args below meth c H locs cells slots Q (F0 m (pc + 3) ls rest)) : W p l e R s m args below meth c H locs cells slots Q (F0 m pc ls (.int y :: .int x :: rest)) :=
  lv_icmp_ge hx hb hdg ht (fun q => kt (by rw [if_pos q] at h; exact h)) (fun q => kf (by rw [if_neg q] at h; exact h))
theorem z_if_gt (hx : p.tables.exec = Jvm.exec) (hb : c.code = cc) {x : Int32} {off : Int} {tgt : Nat} (hdg : decode cc pc = .ok (.ifCond .gt off, 3)) (ht : (pc : Int) + off = (tgt : Int)) {β : Type} {z X Y : β} (h : (if 0 < x then X else Y) = z) (kt : X = z → W p l e R s m args below meth c H locs cells slots Q (F0 m tgt ls rest)) (kf : Y = z → W p l e R s m args below meth c H locs cells slots Q (F0 m (pc + 3) ls rest)) : W p l e R s m args below meth c H locs cells slots Q (F0 m pc ls (.int x :: rest)) :=
  lv_if_gt hx hb hdg ht (fun q => kt (by rw [if_pos q] at h; exact h)) (fun q => kf (by rw [if_neg q] at h; exact h))
theorem z_icmp_gt (hx : p.tables.exec = Jvm.exec) (hb : c.code = cc) {x y : Int32} {off : Int} {tgt : Nat} (hdg : decode cc pc = .ok (.if_icmp .gt off, 3)) (ht : (pc : Int) + off = (tgt : Int)) {β : Type} {z X Y : β} (h : (if y < x then X else Y) = z) (kt : X = z → W p l e R s m args below meth c H locs cells slots Q (F0 m tgt ls rest)) (kf : Y = z → W p l e R s m args below meth c H locs cells slots Q (F0 m (pc + 3) ls rest)) : W p l e R s m args below meth c H locs cells slots Q (F0 m pc ls (.int y :: .int x :: rest)) :=
  lv_icmp_gt hx hb hdg ht (fun q => kt (by rw [if_pos q] at h; exact h)) (fun q => kf (by rw [if_neg q] at h; exact h))
theorem z_if_le (hx : p.tables.exec = Jvm.exec) (hb : c.code = cc) {x : Int32} {off : Int} {tgt : Nat} (hdg : decode cc pc = .ok (.ifCond .le off, 3)) (ht : (pc : Int) + off = (tgt : Int)) {β : Type} {z X Y : β} (h : (if x ≤ 0 then X else Y) = z) (kt : X = z → W p l e R s m args below meth c H locs cells slots Q (F0 m tgt ls rest)) (kf : Y = z → W p l e R s m args below meth c H locs cells slots Q (F0 m (pc + 3) ls rest)) : W p l e R s m args below meth c H locs cells slots Q (F0 m pc ls (.int x :: rest)) :=
  lv_if_le hx hb hdg ht (fun q => kt (by rw [if_pos q] at h; exact h)) (fun q => kf (by rw [if_neg q] at h; exact h))
theorem z_icmp_le (hx : p.tables.exec = Jvm.exec) (hb : c.code = cc) {x y : Int32} {off : Int} {tgt : Nat} (hdg : decode cc pc = .ok (.if_icmp .le off, 3)) (ht : (pc : Int) + off = (tgt : Int)) {β : Type} {z X Y : β} (h : (if x ≤ y then X else Y) = z) (kt : X = z → W p l e R s m args below meth c H locs cells slots Q (F0 m tgt ls rest)) (kf : Y = z → W p l e R s m args below meth c H locs cells slots Q (F0 m (pc + 3) ls rest)) : W p l e R s m args below meth c H locs cells slots Q (F0 m pc ls (.int y :: .int x :: rest)) :=
  lv_icmp_le hx hb hdg ht (fun q => kt (by rw [if_pos q] at h; exact h)) (fun q => kf (by rw [if_neg q] at h; exact h))
theorem z_lcmp_eq (hx : p.tables.exec = Jvm.exec) (hb : c.code = cc) {x y : Int64} {off : Int} {tgt : Nat} (hd0 : decode cc pc = .ok (.lcmp, 1)) (hdg : decode cc (pc + 1) = .ok (.ifCond .eq off, 3)) (ht : ((pc + 1 : Nat) : Int) + off = (tgt : Int)) {β : Type} {z X Y : β} (h : (if x = y then X else Y) = z) (kt : X = z → W p l e R s m args below meth c H locs cells slots Q (F0 m tgt ls rest)) (kf : Y = z → W p l e R s m args below meth c H locs cells slots Q (F0 m (pc + 1 + 3) ls rest)) : W p l e R s m args below meth c H locs cells slots Q (F0 m pc ls (.long y :: .long x :: rest)) := by
  refine W.lcmp hx hb hd0 ?_
  exact lv_if_eq hx hb hdg ht (fun q => kt (by rw [if_pos ((lg_cmp_eq x y).mp q)] at h; exact h)) (fun q => kf (by rw [if_neg (fun g => q ((lg_cmp_eq x y).mpr g))] at h; exact h))
theorem z_lcmp_ne (hx : p.tables.exec = Jvm.exec) (hb : c.code = cc) {x y : Int64} {off : Int} {tgt : Nat} (hd0 : decode cc pc = .ok (.lcmp, 1)) (hdg : decode cc (pc + 1) = .ok (.ifCond .ne off, 3)) (ht : ((pc + 1 : Nat) : Int) + off = (tgt : Int)) {β : Type} {z X Y : β} (h : (if x = y then X else Y) = z) (kt : Y = z → W p l e R s m args below meth c H locs cells slots Q (F0 m tgt ls rest)) (kf : X = z → W p l e R s m args below meth c H locs cells slots Q (F0 m (pc + 1 + 3) ls rest)) : W p l e R s m args below meth c H locs cells slots Q (F0 m pc ls (.long y :: .long x :: rest)) := by
  refine W.lcmp hx hb hd0 ?_
  exact lv_if_ne hx hb hdg ht (fun q => kt (by rw [if_neg (fun g => q ((lg_cmp_eq x y).mpr g))] at h; exact h)) (fun q => kf (by rw [if_pos ((lg_cmp_eq x y).mp q)] at h; exact h))
theorem z_lcmp_lt (hx : p.tables.exec = Jvm.exec) (hb : c.code = cc) {x y : Int64} {off : Int} {tgt : Nat} (hd0 : decode cc pc = .ok (.lcmp, 1)) (hdg : decode cc (pc + 1) = .ok (.ifCond .lt off, 3)) (ht : ((pc + 1 : Nat) : Int) + off = (tgt : Int)) {β : Type} {z X Y : β} (h : (if x < y then X else Y) = z) (kt : X = z → W p l e R s m args below meth c H locs cells slots Q (F0 m tgt ls rest)) (kf : Y = z → W p l e R s m args below meth c H locs cells slots Q (F0 m (pc + 1 + 3) ls rest)) : W p l e R s m args below meth c H locs cells slots Q (F0 m pc ls (.long y :: .long x :: rest)) := by
  refine W.lcmp hx hb hd0 ?_
  exact lv_if_lt hx hb hdg ht (fun q => kt (by rw [if_pos ((lg_cmp_lt x y).mp q)] at h; exact h)) (fun q => kf (by rw [if_neg (fun g => q ((lg_cmp_lt x y).mpr g))] at h; exact h))
theorem z_lcmp_ge (hx : p.tables.exec = Jvm.exec) (hb : c.code = cc) {x y : Int64} {off : Int} {tgt : Nat} (hd0 : decode cc pc = .ok (.lcmp, 1)) (hdg : decode cc (pc + 1) = .ok (.ifCond .ge off, 3)) (ht : ((pc + 1 : Nat) : Int) + off = (tgt : Int)) {β : Type} {z X Y : β} (h : (if y ≤ x then X else Y) = z) (kt : X = z → W p l e R s m args below meth c H locs cells slots Q (F0 m tgt ls rest)) (kf : Y = z → W p l e R s m args below meth c H locs cells slots Q (F0 m (pc + 1 + 3) ls rest)) : W p l e R s m args below meth c H locs cells slots Q (F0 m pc ls (.long y :: .long x :: rest)) := by
  refine W.lcmp hx hb hd0 ?_
  exact lv_if_ge hx hb hdg ht (fun q => kt (by rw [if_pos ((lg_cmp_ge x y).mp q)] at h; exact h)) (fun q => kf (by rw [if_neg (fun g => q ((lg_cmp_ge x y).mpr g))] at h; exact h))
theorem z_lcmp_gt (hx : p.tables.exec = Jvm.exec) (hb : c.code = cc) {x y : Int64} {off : Int} {tgt : Nat} (hd0 : decode cc pc = .ok (.lcmp, 1)) (hdg : decode cc (pc + 1) = .ok (.ifCond .gt off, 3)) (ht : ((pc + 1 : Nat) : Int) + off = (tgt : Int)) {β : Type} {z X Y : β} (h : (if y < x then X else Y) = z) (kt : X = z → W p l e R s m args below meth c H locs cells slots Q (F0 m tgt ls rest)) (kf : Y = z → W p l e R s m args below meth c H locs cells slots Q (F0 m (pc + 1 + 3) ls rest)) : W p l e R s m args below meth c H locs cells slots Q (F0 m pc ls (.long y :: .long x :: rest)) := by
  refine W.lcmp hx hb hd0 ?_
  exact lv_if_gt hx hb hdg ht (fun q => kt (by rw [if_pos ((lg_cmp_gt x y).mp q)] at h; exact h)) (fun q => kf (by rw [if_neg (fun g => q ((lg_cmp_gt x y).mpr g))] at h; exact h))
theorem z_lcmp_le (hx : p.tables.exec = Jvm.exec) (hb : c.code = cc) {x y : Int64} {off : Int} {tgt : Nat} (hd0 : decode cc pc = .ok (.lcmp, 1)) (hdg : decode cc (pc + 1) = .ok (.ifCond .le off, 3)) (ht : ((pc + 1 : Nat) : Int) + off = (tgt : Int)) {β : Type} {z X Y : β} (h : (if x ≤ y then X else Y) = z) (kt : X = z → W p l e R s m args below meth c H locs cells slots Q (F0 m tgt ls rest)) (kf : Y = z → W p l e R s m args below meth c H locs cells slots Q (F0 m (pc + 1 + 3) ls rest)) : W p l e R s m args below meth c H locs cells slots Q (F0 m pc ls (.long y :: .long x :: rest)) := by
  refine W.lcmp hx hb hd0 ?_
  exact lv_if_le hx hb hdg ht (fun q => kt (by rw [if_pos ((lg_cmp_le x y).mp q)] at h; exact h)) (fun q => kf (by rw [if_neg (fun g => q ((lg_cmp_le x y).mpr g))] at h; exact h))
end ZK
end
section
/-! calls: the callee gets the whole world -/
theorem zA_free {sh : List Zc} {ad : Nat → Nat} {cA : Nat → ClassId} {A : Nat → Prop} {S : Zs} {H0 H : Heap} {locs : List Loc} (hD : va_D A (zw sh ad cA S)) (hS : va_S A H0 H locs) (hA : ∀ q, H0.size ≤ q → A q) : ∀ q, zA sh ad cA S H.size q → A q := by
  intro q h
  rcases h with ⟨k, e, h⟩ | h
  · exact hD.2 k (q, e) h
  · exact hA q (Nat.le_trans hS.1 h)
theorem zPc_blind {D : va_G} {sh : List Zc} {ad : Nat → Nat} {cA : Nat → ClassId} {sz : Nat} {S : Zs} {av : List Value} : FrameBlind (zPc D sh ad cA sz S av) := fun a U g mk q => by
  obtain ⟨q0, q1, qP, qK, qD⟩ := q
  exact ⟨q0, q1, qP, va_K.moved (u := U) (U := U.calling g mk a) (Vm.Alike.refl U.vm) qK, qD⟩
/-- the words of a call -/
def zWV (own : String) (index : Nat) (C : String) (y : MethodName) (bytes : ByteArray) (maxL : Nat) (ret : Option FieldType) (n : Nat) : Prop :=
  Cond.methodLink own index y ∈ ztb ∧ Cond.instanceMethod y ∈ ztb ∧ Cond.selects C y y ∈ ztb ∧ Cond.initialized C ∈ ztb ∧ Cond.code y bytes maxL ret ∈ ztb ∧ (y.cls = C ∧ y.cls ≠ "java/lang/invoke/MethodHandle" ∧ y.cls ≠ "java/lang/invoke/VarHandle" ∧ (parseMethodDescriptor y.desc).map (fun d => d.parameters.length) = some n)
def zWS (own : String) (index : Nat) (y : MethodName) (bytes : ByteArray) (maxL : Nat) (ret : Option FieldType) (n : Nat) : Prop :=
  Cond.methodLink own index y ∈ ztb ∧ Cond.static y ∈ ztb ∧ Cond.initialized y.cls ∈ ztb ∧ Cond.code y bytes maxL ret ∈ ztb ∧ (y.cls ≠ "java/lang/invoke/MethodHandle" ∧ y.cls ≠ "java/lang/invoke/VarHandle" ∧ (parseMethodDescriptor y.desc).map (fun d => d.parameters.length) = some n)
section ZC
variable {p : Program} {l : Launch} {e : Env} {R : Room} {s : State} {m : MethodId} {args : Array Value} {below : List Frame} {meth : Method} {c : Code} {H : Heap} {locs : List Loc} {cells slots : Nat} {Q : State → Prop}
variable {cc bytes : ByteArray} {nL pc maxL fr lo n index : Nat} {own Cn : String} {ret ret2 : Option FieldType} {D : va_G} {cA : Nat → ClassId} {A : Nat → Prop} {ls : Array Slot} {rest st0 : List Value} {sh : List Zc} {ad : Nat → Nat} {S : Zs} {y : MethodName} {As : List Value}
theorem z_runV {Qc : (Nat → Prop) → Array Value → State → Outcome → State → Prop} (C : zCx p s m args meth c cc nL own ret2 D cA A) (P : zP D sh ad cA A S s H locs) {o ci N : Nat} {T : u_T} {fs : List Zf} (hM : ∀ sz : Nat, Met l y (.code y bytes maxL ret :: ztb) (zrm fr lo) (zPc D sh ad cA sz S (.ref (ad o) :: As)) (Qc (zA sh ad cA S sz)) 0 0 (zA sh ad cA S sz)) (hw : zWV own index Cn y bytes maxL ret n) (hc : zcl[ci]? = some (Cn, T, N)) (hs : sh[o]? = some (.inl (ci, fs))) (hn : As.length = n) (hroom : fr + 1 ≤ R.frames ∧ 8 + (maxL + 11) + lo ≤ R.locals) (hl : ls.size = nL) (hst : st0 = As.reverse ++ .ref (ad o) :: rest) (hcat : (rest.map fun v => v.category).sum ≤ 8) (hdg : decode cc pc = .ok (.invokevirtual index, 3)) (hf : cells ≤ R.cells ∧ slots ≤ R.slots) :
    va_Run p l e R s m args below meth c H locs cells slots 0 0 (F0 m pc ls st0) rest (Qc (zA sh ad cA S H.size) (Value.ref (ad o) :: As).toArray) (zA sh ad cA S H.size) := by
  obtain ⟨hx, hb, hml, hown, hts, hK, hA, -⟩ := C
  obtain ⟨w1, w2, w3, w4, w5, w6⟩ := hw
  have hg : GoodIn ztb (wsV own index Cn y (.code y bytes maxL ret :: ztb)) := zGood (fun w h => by
    rcases List.mem_append.mp h with h | h
    · simp only [List.mem_cons, List.not_mem_nil, or_false] at h
      rcases h with rfl | rfl | rfl | rfl <;> assumption
    · rcases List.mem_cons.mp h with rfl | h
      · exact w5
      · exact h)
  exact va_runV (As := As) (rest := rest) ⟨hx, hb, hml, hown, hts⟩ (hM H.size) (cwV n hts hg rfl rfl rfl w6 hroom) ⟨zPc_blind, va_recv hK P.1 (ci := ci) (q0 := o) hc (zw_at hs), fun U hU hW => ⟨rfl, by rw [hU], by rw [hU]; exact P.1, va_K.moved hW.alike hK, P.2.1.weaken (fun _ _ _ _ => trivial)⟩⟩ rfl hn hl hst (lv_room hcat) hdg hf
theorem z_runS {Qc : (Nat → Prop) → Array Value → State → Outcome → State → Prop} (C : zCx p s m args meth c cc nL own ret2 D cA A) (P : zP D sh ad cA A S s H locs) (hM : ∀ sz : Nat, Met l y (.code y bytes maxL ret :: ztb) (zrm fr lo) (zPc D sh ad cA sz S As) (Qc (zA sh ad cA S sz)) 0 0 (zA sh ad cA S sz)) (hw : zWS own index y bytes maxL ret n) (hn : As.length = n) (hroom : fr + 1 ≤ R.frames ∧ 8 + (maxL + 11) + lo ≤ R.locals) (hl : ls.size = nL) (hst : st0 = As.reverse ++ rest) (hcat : (rest.map fun v => v.category).sum ≤ 8) (hdg : decode cc pc = .ok (.invokestatic index, 3)) (hf : cells ≤ R.cells ∧ slots ≤ R.slots) :
    va_Run p l e R s m args below meth c H locs cells slots 0 0 (F0 m pc ls st0) rest (Qc (zA sh ad cA S H.size) As.toArray) (zA sh ad cA S H.size) := by
  obtain ⟨hx, hb, hml, hown, hts, hK, hA, -⟩ := C
  obtain ⟨w1, w2, w3, w4, w6⟩ := hw
  have hg : GoodIn ztb (.code y bytes maxL ret :: ztb) := zGood (fun w h => by
    rcases List.mem_cons.mp h with rfl | h
    · exact w4
    · exact h)
  exact va_runS (As := As) (rest := rest) ⟨hx, hb, hml, hown, hts⟩ (hM H.size) ⟨callB_of n hts hg rfl rfl rfl (hts _ w3) (hts _ w1) w6 hroom, hts _ w2⟩ ⟨zPc_blind, fun U hU hW => ⟨rfl, by rw [hU], by rw [hU]; exact P.1, va_K.moved hW.alike hK, P.2.1.weaken (fun _ _ _ _ => trivial)⟩⟩ rfl hn hl hst (lv_room hcat) hdg hf
theorem z_callVi (C : zCx p s m args meth c cc nL own ret2 D cA A) (P : zP D sh ad cA A S s H locs) {o ci N : Nat} {T : u_T} {fs : List Zf} {r : Int32} {S' : Zs} (hM : zMi l y bytes maxL fr lo D sh ad cA S (.ref (ad o) :: As) (r, S')) (hw : zWV own index Cn y bytes maxL (some .int) n) (hc : zcl[ci]? = some (Cn, T, N)) (hs : sh[o]? = some (.inl (ci, fs))) (hn : As.length = n) (hroom : fr + 1 ≤ R.frames ∧ 8 + (maxL + 11) + lo ≤ R.locals) (hl : ls.size = nL) (hst : st0 = As.reverse ++ .ref (ad o) :: rest) (hcat : (rest.map fun v => v.category).sum ≤ 8) (hdg : decode cc pc = .ok (.invokevirtual index, 3)) (hf : cells ≤ R.cells ∧ slots ≤ R.slots)
    (kk : ∀ (H1 : Heap) (locs1 : List Loc), zP D sh ad cA A S' s H1 locs1 → W p l e R s m args below meth c H1 locs1 cells slots Q (F0 m (pc + 3) ls (.int r :: rest))) : W p l e R s m args below meth c H locs cells slots Q (F0 m pc ls st0) := by
  have hfr := zA_free P.2.1 P.2.2 C.2.2.2.2.2.2.1
  refine va_calli (z_runV (Qc := fun A => zQi D sh ad cA A (r, S')) C P hM hw hc hs hn hroom hl hst hcat hdg hf) P.2.2 (fun q _ h => hfr q h) hfr (fun r1 S1 t H1 locs1 ht hvm hp hB hz1 hk1 hS => ?_)
  obtain ⟨rfl, rfl⟩ := hp
  obtain ⟨hP1, hK1, hD1⟩ := hB
  rw [ht] at hP1
  exact kk H1 locs1 ⟨hP1, hD1.weaken (fun _ q _ h => hfr q.1 h), hS⟩
theorem z_callSi (C : zCx p s m args meth c cc nL own ret2 D cA A) (P : zP D sh ad cA A S s H locs) {r : Int32} {S' : Zs} (hM : zMi l y bytes maxL fr lo D sh ad cA S As (r, S')) (hw : zWS own index y bytes maxL (some .int) n) (hn : As.length = n) (hroom : fr + 1 ≤ R.frames ∧ 8 + (maxL + 11) + lo ≤ R.locals) (hl : ls.size = nL) (hst : st0 = As.reverse ++ rest) (hcat : (rest.map fun v => v.category).sum ≤ 8) (hdg : decode cc pc = .ok (.invokestatic index, 3)) (hf : cells ≤ R.cells ∧ slots ≤ R.slots)
    (kk : ∀ (H1 : Heap) (locs1 : List Loc), zP D sh ad cA A S' s H1 locs1 → W p l e R s m args below meth c H1 locs1 cells slots Q (F0 m (pc + 3) ls (.int r :: rest))) : W p l e R s m args below meth c H locs cells slots Q (F0 m pc ls st0) := by
  have hfr := zA_free P.2.1 P.2.2 C.2.2.2.2.2.2.1
  refine va_calli (z_runS (Qc := fun A => zQi D sh ad cA A (r, S')) C P hM hw hn hroom hl hst hcat hdg hf) P.2.2 (fun q _ h => hfr q h) hfr (fun r1 S1 t H1 locs1 ht hvm hp hB hz1 hk1 hS => ?_)
  obtain ⟨rfl, rfl⟩ := hp
  obtain ⟨hP1, hK1, hD1⟩ := hB
  rw [ht] at hP1
  exact kk H1 locs1 ⟨hP1, hD1.weaken (fun _ q _ h => hfr q.1 h), hS⟩
theorem z_callVb (C : zCx p s m args meth c cc nL own ret2 D cA A) (P : zP D sh ad cA A S s H locs) {o ci N : Nat} {T : u_T} {fs : List Zf} {r : Int32} {S' : Zs} (hM : zMb l y bytes maxL fr lo D sh ad cA S (.ref (ad o) :: As) (r, S')) (hw : zWV own index Cn y bytes maxL (some .boolean) n) (hc : zcl[ci]? = some (Cn, T, N)) (hs : sh[o]? = some (.inl (ci, fs))) (hn : As.length = n) (hroom : fr + 1 ≤ R.frames ∧ 8 + (maxL + 11) + lo ≤ R.locals) (hl : ls.size = nL) (hst : st0 = As.reverse ++ .ref (ad o) :: rest) (hcat : (rest.map fun v => v.category).sum ≤ 8) (hdg : decode cc pc = .ok (.invokevirtual index, 3)) (hf : cells ≤ R.cells ∧ slots ≤ R.slots)
    (kk : ∀ (H1 : Heap) (locs1 : List Loc), narrow .boolean (.int r) = .int r → zP D sh ad cA A S' s H1 locs1 → W p l e R s m args below meth c H1 locs1 cells slots Q (F0 m (pc + 3) ls (.int r :: rest))) : W p l e R s m args below meth c H locs cells slots Q (F0 m pc ls st0) := by
  have hfr := zA_free P.2.1 P.2.2 C.2.2.2.2.2.2.1
  refine va_calli (z_runV (Qc := fun A => zQb D sh ad cA A (r, S')) C P hM hw hc hs hn hroom hl hst hcat hdg hf) P.2.2 (fun q _ h => hfr q h) hfr (fun r1 S1 t H1 locs1 ht hvm hp hB hz1 hk1 hS => ?_)
  obtain ⟨rfl, rfl⟩ := hp.1
  obtain ⟨hP1, hK1, hD1⟩ := hB
  rw [ht] at hP1
  exact kk H1 locs1 hp.2 ⟨hP1, hD1.weaken (fun _ q _ h => hfr q.1 h), hS⟩
theorem z_callSb (C : zCx p s m args meth c cc nL own ret2 D cA A) (P : zP D sh ad cA A S s H locs) {r : Int32} {S' : Zs} (hM : zMb l y bytes maxL fr lo D sh ad cA S As (r, S')) (hw : zWS own index y bytes maxL (some .boolean) n) (hn : As.length = n) (hroom : fr + 1 ≤ R.frames ∧ 8 + (maxL + 11) + lo ≤ R.locals) (hl : ls.size = nL) (hst : st0 = As.reverse ++ rest) (hcat : (rest.map fun v => v.category).sum ≤ 8) (hdg : decode cc pc = .ok (.invokestatic index, 3)) (hf : cells ≤ R.cells ∧ slots ≤ R.slots)
    (kk : ∀ (H1 : Heap) (locs1 : List Loc), narrow .boolean (.int r) = .int r → zP D sh ad cA A S' s H1 locs1 → W p l e R s m args below meth c H1 locs1 cells slots Q (F0 m (pc + 3) ls (.int r :: rest))) : W p l e R s m args below meth c H locs cells slots Q (F0 m pc ls st0) := by
  have hfr := zA_free P.2.1 P.2.2 C.2.2.2.2.2.2.1
  refine va_calli (z_runS (Qc := fun A => zQb D sh ad cA A (r, S')) C P hM hw hn hroom hl hst hcat hdg hf) P.2.2 (fun q _ h => hfr q h) hfr (fun r1 S1 t H1 locs1 ht hvm hp hB hz1 hk1 hS => ?_)
  obtain ⟨rfl, rfl⟩ := hp.1
  obtain ⟨hP1, hK1, hD1⟩ := hB
  rw [ht] at hP1
  exact kk H1 locs1 hp.2 ⟨hP1, hD1.weaken (fun _ q _ h => hfr q.1 h), hS⟩
theorem z_callVl (C : zCx p s m args meth c cc nL own ret2 D cA A) (P : zP D sh ad cA A S s H locs) {o ci N : Nat} {T : u_T} {fs : List Zf} {r : Int64} {S' : Zs} (hM : zMl l y bytes maxL fr lo D sh ad cA S (.ref (ad o) :: As) (r, S')) (hw : zWV own index Cn y bytes maxL (some .long) n) (hc : zcl[ci]? = some (Cn, T, N)) (hs : sh[o]? = some (.inl (ci, fs))) (hn : As.length = n) (hroom : fr + 1 ≤ R.frames ∧ 8 + (maxL + 11) + lo ≤ R.locals) (hl : ls.size = nL) (hst : st0 = As.reverse ++ .ref (ad o) :: rest) (hcat : (rest.map fun v => v.category).sum ≤ 8) (hdg : decode cc pc = .ok (.invokevirtual index, 3)) (hf : cells ≤ R.cells ∧ slots ≤ R.slots)
    (kk : ∀ (H1 : Heap) (locs1 : List Loc), zP D sh ad cA A S' s H1 locs1 → W p l e R s m args below meth c H1 locs1 cells slots Q (F0 m (pc + 3) ls (.long r :: rest))) : W p l e R s m args below meth c H locs cells slots Q (F0 m pc ls st0) := by
  have hfr := zA_free P.2.1 P.2.2 C.2.2.2.2.2.2.1
  refine va_calll (z_runV (Qc := fun A => zQl D sh ad cA A (r, S')) C P hM hw hc hs hn hroom hl hst hcat hdg hf) P.2.2 (fun q _ h => hfr q h) hfr (fun r1 S1 t H1 locs1 ht hvm hp hB hz1 hk1 hS => ?_)
  obtain ⟨rfl, rfl⟩ := hp
  obtain ⟨hP1, hK1, hD1⟩ := hB
  rw [ht] at hP1
  exact kk H1 locs1 ⟨hP1, hD1.weaken (fun _ q _ h => hfr q.1 h), hS⟩
theorem z_callSl (C : zCx p s m args meth c cc nL own ret2 D cA A) (P : zP D sh ad cA A S s H locs) {r : Int64} {S' : Zs} (hM : zMl l y bytes maxL fr lo D sh ad cA S As (r, S')) (hw : zWS own index y bytes maxL (some .long) n) (hn : As.length = n) (hroom : fr + 1 ≤ R.frames ∧ 8 + (maxL + 11) + lo ≤ R.locals) (hl : ls.size = nL) (hst : st0 = As.reverse ++ rest) (hcat : (rest.map fun v => v.category).sum ≤ 8) (hdg : decode cc pc = .ok (.invokestatic index, 3)) (hf : cells ≤ R.cells ∧ slots ≤ R.slots)
    (kk : ∀ (H1 : Heap) (locs1 : List Loc), zP D sh ad cA A S' s H1 locs1 → W p l e R s m args below meth c H1 locs1 cells slots Q (F0 m (pc + 3) ls (.long r :: rest))) : W p l e R s m args below meth c H locs cells slots Q (F0 m pc ls st0) := by
  have hfr := zA_free P.2.1 P.2.2 C.2.2.2.2.2.2.1
  refine va_calll (z_runS (Qc := fun A => zQl D sh ad cA A (r, S')) C P hM hw hn hroom hl hst hcat hdg hf) P.2.2 (fun q _ h => hfr q h) hfr (fun r1 S1 t H1 locs1 ht hvm hp hB hz1 hk1 hS => ?_)
  obtain ⟨rfl, rfl⟩ := hp
  obtain ⟨hP1, hK1, hD1⟩ := hB
  rw [ht] at hP1
  exact kk H1 locs1 ⟨hP1, hD1.weaken (fun _ q _ h => hfr q.1 h), hS⟩
theorem z_callVv (C : zCx p s m args meth c cc nL own ret2 D cA A) (P : zP D sh ad cA A S s H locs) {o ci N : Nat} {T : u_T} {fs : List Zf} {S' : Zs} (hM : zMv l y bytes maxL fr lo D sh ad cA S (.ref (ad o) :: As) S') (hw : zWV own index Cn y bytes maxL none n) (hc : zcl[ci]? = some (Cn, T, N)) (hs : sh[o]? = some (.inl (ci, fs))) (hn : As.length = n) (hroom : fr + 1 ≤ R.frames ∧ 8 + (maxL + 11) + lo ≤ R.locals) (hl : ls.size = nL) (hst : st0 = As.reverse ++ .ref (ad o) :: rest) (hcat : (rest.map fun v => v.category).sum ≤ 8) (hdg : decode cc pc = .ok (.invokevirtual index, 3)) (hf : cells ≤ R.cells ∧ slots ≤ R.slots)
    (kk : ∀ (H1 : Heap) (locs1 : List Loc), zP D sh ad cA A S' s H1 locs1 → W p l e R s m args below meth c H1 locs1 cells slots Q (F0 m (pc + 3) ls rest)) : W p l e R s m args below meth c H locs cells slots Q (F0 m pc ls st0) := by
  have hfr := zA_free P.2.1 P.2.2 C.2.2.2.2.2.2.1
  refine va_callv (z_runV (Qc := fun A => zQv D sh ad cA A S') C P hM hw hc hs hn hroom hl hst hcat hdg hf) P.2.2 (fun q _ h => hfr q h) hfr (fun S1 t H1 locs1 ht hvm hp hB hz1 hk1 hS => ?_)
  subst hp
  obtain ⟨hP1, hK1, hD1⟩ := hB
  rw [ht] at hP1
  exact kk H1 locs1 ⟨hP1, hD1.weaken (fun _ q _ h => hfr q.1 h), hS⟩
theorem z_callSv (C : zCx p s m args meth c cc nL own ret2 D cA A) (P : zP D sh ad cA A S s H locs) {S' : Zs} (hM : zMv l y bytes maxL fr lo D sh ad cA S As S') (hw : zWS own index y bytes maxL none n) (hn : As.length = n) (hroom : fr + 1 ≤ R.frames ∧ 8 + (maxL + 11) + lo ≤ R.locals) (hl : ls.size = nL) (hst : st0 = As.reverse ++ rest) (hcat : (rest.map fun v => v.category).sum ≤ 8) (hdg : decode cc pc = .ok (.invokestatic index, 3)) (hf : cells ≤ R.cells ∧ slots ≤ R.slots)
    (kk : ∀ (H1 : Heap) (locs1 : List Loc), zP D sh ad cA A S' s H1 locs1 → W p l e R s m args below meth c H1 locs1 cells slots Q (F0 m (pc + 3) ls rest)) : W p l e R s m args below meth c H locs cells slots Q (F0 m pc ls st0) := by
  have hfr := zA_free P.2.1 P.2.2 C.2.2.2.2.2.2.1
  refine va_callv (z_runS (Qc := fun A => zQv D sh ad cA A S') C P hM hw hn hroom hl hst hcat hdg hf) P.2.2 (fun q _ h => hfr q h) hfr (fun S1 t H1 locs1 ht hvm hp hB hz1 hk1 hS => ?_)
  subst hp
  obtain ⟨hP1, hK1, hD1⟩ := hB
  rw [ht] at hP1
  exact kk H1 locs1 ⟨hP1, hD1.weaken (fun _ q _ h => hfr q.1 h), hS⟩
end ZC
theorem bd1_some {α γ : Type} {x : Option α} {k : α → Option γ} {z : γ} (h : bd1 x k = some z) : ∃ a, x = some a ∧ k a = some z := by
  cases x with
  | none => cases h
  | some a => exact ⟨a, rfl, h⟩
theorem bd2_some {α β γ : Type} {x : Option (α × β)} {k : α → β → Option γ} {z : γ} (h : bd2 x k = some z) : ∃ a b, x = some (a, b) ∧ k a b = some z := by
  cases x with
  | none => cases h
  | some a => exact ⟨a.1, a.2, rfl, h⟩
end
section
theorem t_last : True := trivial
end
