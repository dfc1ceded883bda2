section
/-! names: the tables' words, classes, methods (begun from the printed names) -/
-- ===== PART A: goes FIRST, ahead of the names: the tables' words, and 'selects' of the private methods out of them =====
/-- a private method of a class that the tables say can be made, by its rows of tables_1 -/
def lw_okq (q : MethodName × Nat) : Prop := (q.1.cls ≠ "java/lang/invoke/MethodHandle" ∧ q.1.cls ≠ "java/lang/invoke/VarHandle") ∧ Cond.instantiable q.1.cls q.2 ∈ tables_1 ∧ Cond.privateMethod q.1 ∈ tables_1 ∧ Cond.instanceMethod q.1 ∈ tables_1
theorem lw_p0 : lw_okq (⟨"BathNight$House", "takesTank", "(LBathNight$Item;)Z"⟩, 15) := ⟨⟨by decide +kernel, by decide +kernel⟩, List.mem_of_getElem? (i := 44) (by decide +kernel), List.mem_of_getElem? (i := 421) (by decide +kernel), List.mem_of_getElem? (i := 422) (by decide +kernel)⟩
theorem lw_p1 : lw_okq (⟨"BathNight$House", "takesStage", "(LBathNight$Item;)Z"⟩, 15) := ⟨⟨by decide +kernel, by decide +kernel⟩, List.mem_of_getElem? (i := 44) (by decide +kernel), List.mem_of_getElem? (i := 434) (by decide +kernel), List.mem_of_getElem? (i := 435) (by decide +kernel)⟩
theorem lw_p2 : lw_okq (⟨"BathNight$House", "takesBather", "(LBathNight$Item;)Z"⟩, 15) := ⟨⟨by decide +kernel, by decide +kernel⟩, List.mem_of_getElem? (i := 44) (by decide +kernel), List.mem_of_getElem? (i := 438) (by decide +kernel), List.mem_of_getElem? (i := 439) (by decide +kernel)⟩
theorem lw_p3 : lw_okq (⟨"BathNight$House", "takesPair", "(LBathNight$Item;)Z"⟩, 15) := ⟨⟨by decide +kernel, by decide +kernel⟩, List.mem_of_getElem? (i := 44) (by decide +kernel), List.mem_of_getElem? (i := 447) (by decide +kernel), List.mem_of_getElem? (i := 448) (by decide +kernel)⟩
theorem lw_p4 : lw_okq (⟨"BathNight$House", "takesKettle", "(LBathNight$Item;)Z"⟩, 15) := ⟨⟨by decide +kernel, by decide +kernel⟩, List.mem_of_getElem? (i := 44) (by decide +kernel), List.mem_of_getElem? (i := 460) (by decide +kernel), List.mem_of_getElem? (i := 461) (by decide +kernel)⟩
theorem lw_p5 : lw_okq (⟨"BathNight$House", "takesNumber", "(LBathNight$Item;)Z"⟩, 15) := ⟨⟨by decide +kernel, by decide +kernel⟩, List.mem_of_getElem? (i := 44) (by decide +kernel), List.mem_of_getElem? (i := 464) (by decide +kernel), List.mem_of_getElem? (i := 465) (by decide +kernel)⟩
theorem lw_p6 : lw_okq (⟨"BathNight$Tank", "unitsOfPart", "(II)I"⟩, 4) := ⟨⟨by decide +kernel, by decide +kernel⟩, List.mem_of_getElem? (i := 275) (by decide +kernel), List.mem_of_getElem? (i := 513) (by decide +kernel), List.mem_of_getElem? (i := 514) (by decide +kernel)⟩
theorem lw_p7 : lw_okq (⟨"BathNight", "ask", "(I)V"⟩, 11) := ⟨⟨by decide +kernel, by decide +kernel⟩, List.mem_of_getElem? (i := 16) (by decide +kernel), List.mem_of_getElem? (i := 554) (by decide +kernel), List.mem_of_getElem? (i := 555) (by decide +kernel)⟩
theorem lw_p8 : lw_okq (⟨"BathNight$Evening", "begin", "(LBathNight$House;I)V"⟩, 8) := ⟨⟨by decide +kernel, by decide +kernel⟩, List.mem_of_getElem? (i := 269) (by decide +kernel), List.mem_of_getElem? (i := 573) (by decide +kernel), List.mem_of_getElem? (i := 574) (by decide +kernel)⟩
theorem lw_p9 : lw_okq (⟨"BathNight$Evening", "chosen", "(LBathNight$House;LBathNight$Asked;I)LBathNight$Bather;"⟩, 8) := ⟨⟨by decide +kernel, by decide +kernel⟩, List.mem_of_getElem? (i := 269) (by decide +kernel), List.mem_of_getElem? (i := 594) (by decide +kernel), List.mem_of_getElem? (i := 595) (by decide +kernel)⟩
theorem lw_p10 : lw_okq (⟨"BathNight$Evening", "can", "(LBathNight$House;LBathNight$Bather;I)Z"⟩, 8) := ⟨⟨by decide +kernel, by decide +kernel⟩, List.mem_of_getElem? (i := 269) (by decide +kernel), List.mem_of_getElem? (i := 603) (by decide +kernel), List.mem_of_getElem? (i := 604) (by decide +kernel)⟩
theorem lw_p11 : lw_okq (⟨"BathNight$Evening", "goesIn", "(LBathNight$House;LBathNight$Bather;I)V"⟩, 8) := ⟨⟨by decide +kernel, by decide +kernel⟩, List.mem_of_getElem? (i := 269) (by decide +kernel), List.mem_of_getElem? (i := 621) (by decide +kernel), List.mem_of_getElem? (i := 622) (by decide +kernel)⟩
theorem lw_p12 : lw_okq (⟨"BathNight", "nobodyLate", "(J)Z"⟩, 11) := ⟨⟨by decide +kernel, by decide +kernel⟩, List.mem_of_getElem? (i := 16) (by decide +kernel), List.mem_of_getElem? (i := 697) (by decide +kernel), List.mem_of_getElem? (i := 698) (by decide +kernel)⟩
theorem lw_p13 : lw_okq (⟨"BathNight", "sumToldAt", "(LBathNight$Bather;I)I"⟩, 11) := ⟨⟨by decide +kernel, by decide +kernel⟩, List.mem_of_getElem? (i := 16) (by decide +kernel), List.mem_of_getElem? (i := 735) (by decide +kernel), List.mem_of_getElem? (i := 736) (by decide +kernel)⟩
theorem lw_p14 : lw_okq (⟨"BathNight", "bestToCome", "(LBathNight$Bather;)I"⟩, 11) := ⟨⟨by decide +kernel, by decide +kernel⟩, List.mem_of_getElem? (i := 16) (by decide +kernel), List.mem_of_getElem? (i := 743) (by decide +kernel), List.mem_of_getElem? (i := 744) (by decide +kernel)⟩
theorem lw_p15 : lw_okq (⟨"BathNightModel", "layDown", "()V"⟩, 36) := ⟨⟨by decide +kernel, by decide +kernel⟩, List.mem_of_getElem? (i := 770) (by decide +kernel), List.mem_of_getElem? (i := 779) (by decide +kernel), List.mem_of_getElem? (i := 780) (by decide +kernel)⟩
def lw_privs_1 : List (MethodName × Nat) := [(⟨"BathNight$House", "takesTank", "(LBathNight$Item;)Z"⟩, 15), (⟨"BathNight$House", "takesStage", "(LBathNight$Item;)Z"⟩, 15), (⟨"BathNight$House", "takesBather", "(LBathNight$Item;)Z"⟩, 15), (⟨"BathNight$House", "takesPair", "(LBathNight$Item;)Z"⟩, 15), (⟨"BathNight$House", "takesKettle", "(LBathNight$Item;)Z"⟩, 15), (⟨"BathNight$House", "takesNumber", "(LBathNight$Item;)Z"⟩, 15), (⟨"BathNight$Tank", "unitsOfPart", "(II)I"⟩, 4), (⟨"BathNight", "ask", "(I)V"⟩, 11), (⟨"BathNight$Evening", "begin", "(LBathNight$House;I)V"⟩, 8), (⟨"BathNight$Evening", "chosen", "(LBathNight$House;LBathNight$Asked;I)LBathNight$Bather;"⟩, 8), (⟨"BathNight$Evening", "can", "(LBathNight$House;LBathNight$Bather;I)Z"⟩, 8), (⟨"BathNight$Evening", "goesIn", "(LBathNight$House;LBathNight$Bather;I)V"⟩, 8), (⟨"BathNight", "nobodyLate", "(J)Z"⟩, 11), (⟨"BathNight", "sumToldAt", "(LBathNight$Bather;I)I"⟩, 11), (⟨"BathNight", "bestToCome", "(LBathNight$Bather;)I"⟩, 11), (⟨"BathNightModel", "layDown", "()V"⟩, 36)]
theorem lw_r1 : ∀ q ∈ lw_privs_1, lw_okq q := List.forall_mem_cons.mpr ⟨lw_p0, List.forall_mem_cons.mpr ⟨lw_p1, List.forall_mem_cons.mpr ⟨lw_p2, List.forall_mem_cons.mpr ⟨lw_p3, List.forall_mem_cons.mpr ⟨lw_p4, List.forall_mem_cons.mpr ⟨lw_p5, List.forall_mem_cons.mpr ⟨lw_p6, List.forall_mem_cons.mpr ⟨lw_p7, List.forall_mem_cons.mpr ⟨lw_p8, List.forall_mem_cons.mpr ⟨lw_p9, List.forall_mem_cons.mpr ⟨lw_p10, List.forall_mem_cons.mpr ⟨lw_p11, List.forall_mem_cons.mpr ⟨lw_p12, List.forall_mem_cons.mpr ⟨lw_p13, List.forall_mem_cons.mpr ⟨lw_p14, List.forall_mem_cons.mpr ⟨lw_p15, fun _ h => absurd h List.not_mem_nil⟩⟩⟩⟩⟩⟩⟩⟩⟩⟩⟩⟩⟩⟩⟩⟩
theorem lw_p16 : lw_okq (⟨"BathNightModel", "isRead", "()Z"⟩, 36) := ⟨⟨by decide +kernel, by decide +kernel⟩, List.mem_of_getElem? (i := 770) (by decide +kernel), List.mem_of_getElem? (i := 909) (by decide +kernel), List.mem_of_getElem? (i := 910) (by decide +kernel)⟩
theorem lw_p17 : lw_okq (⟨"BathNightModel", "isItem", "(Z)Z"⟩, 36) := ⟨⟨by decide +kernel, by decide +kernel⟩, List.mem_of_getElem? (i := 770) (by decide +kernel), List.mem_of_getElem? (i := 913) (by decide +kernel), List.mem_of_getElem? (i := 914) (by decide +kernel)⟩
theorem lw_p18 : lw_okq (⟨"BathNightModel", "byteNow", "()I"⟩, 36) := ⟨⟨by decide +kernel, by decide +kernel⟩, List.mem_of_getElem? (i := 770) (by decide +kernel), List.mem_of_getElem? (i := 917) (by decide +kernel), List.mem_of_getElem? (i := 918) (by decide +kernel)⟩
theorem lw_p19 : lw_okq (⟨"BathNightModel", "isPut", "(IIII)Z"⟩, 36) := ⟨⟨by decide +kernel, by decide +kernel⟩, List.mem_of_getElem? (i := 770) (by decide +kernel), List.mem_of_getElem? (i := 921) (by decide +kernel), List.mem_of_getElem? (i := 922) (by decide +kernel)⟩
theorem lw_p20 : lw_okq (⟨"BathNightModel", "isNumber", "(III)Z"⟩, 36) := ⟨⟨by decide +kernel, by decide +kernel⟩, List.mem_of_getElem? (i := 770) (by decide +kernel), List.mem_of_getElem? (i := 925) (by decide +kernel), List.mem_of_getElem? (i := 926) (by decide +kernel)⟩
theorem lw_p21 : lw_okq (⟨"BathNightModel", "isFire", "()Z"⟩, 36) := ⟨⟨by decide +kernel, by decide +kernel⟩, List.mem_of_getElem? (i := 770) (by decide +kernel), List.mem_of_getElem? (i := 929) (by decide +kernel), List.mem_of_getElem? (i := 930) (by decide +kernel)⟩
theorem lw_p22 : lw_okq (⟨"BathNightModel", "isBather", "()Z"⟩, 36) := ⟨⟨by decide +kernel, by decide +kernel⟩, List.mem_of_getElem? (i := 770) (by decide +kernel), List.mem_of_getElem? (i := 933) (by decide +kernel), List.mem_of_getElem? (i := 934) (by decide +kernel)⟩
theorem lw_p23 : lw_okq (⟨"BathNightModel", "isPair", "(I)Z"⟩, 36) := ⟨⟨by decide +kernel, by decide +kernel⟩, List.mem_of_getElem? (i := 770) (by decide +kernel), List.mem_of_getElem? (i := 937) (by decide +kernel), List.mem_of_getElem? (i := 938) (by decide +kernel)⟩
theorem lw_p24 : lw_okq (⟨"BathNightModel", "isBatherOf", "(I)Z"⟩, 36) := ⟨⟨by decide +kernel, by decide +kernel⟩, List.mem_of_getElem? (i := 770) (by decide +kernel), List.mem_of_getElem? (i := 949) (by decide +kernel), List.mem_of_getElem? (i := 950) (by decide +kernel)⟩
theorem lw_p25 : lw_okq (⟨"BathNightModel", "many", "()I"⟩, 36) := ⟨⟨by decide +kernel, by decide +kernel⟩, List.mem_of_getElem? (i := 770) (by decide +kernel), List.mem_of_getElem? (i := 953) (by decide +kernel), List.mem_of_getElem? (i := 954) (by decide +kernel)⟩
theorem lw_p26 : lw_okq (⟨"BathNightModel", "of", "(II)I"⟩, 36) := ⟨⟨by decide +kernel, by decide +kernel⟩, List.mem_of_getElem? (i := 770) (by decide +kernel), List.mem_of_getElem? (i := 957) (by decide +kernel), List.mem_of_getElem? (i := 958) (by decide +kernel)⟩
theorem lw_p27 : lw_okq (⟨"BathNightModel", "holds", "()I"⟩, 36) := ⟨⟨by decide +kernel, by decide +kernel⟩, List.mem_of_getElem? (i := 770) (by decide +kernel), List.mem_of_getElem? (i := 965) (by decide +kernel), List.mem_of_getElem? (i := 966) (by decide +kernel)⟩
theorem lw_p28 : lw_okq (⟨"BathNightModel", "fill", "()V"⟩, 36) := ⟨⟨by decide +kernel, by decide +kernel⟩, List.mem_of_getElem? (i := 770) (by decide +kernel), List.mem_of_getElem? (i := 969) (by decide +kernel), List.mem_of_getElem? (i := 970) (by decide +kernel)⟩
theorem lw_p29 : lw_okq (⟨"BathNightModel", "unitsOf", "(II)I"⟩, 36) := ⟨⟨by decide +kernel, by decide +kernel⟩, List.mem_of_getElem? (i := 770) (by decide +kernel), List.mem_of_getElem? (i := 973) (by decide +kernel), List.mem_of_getElem? (i := 974) (by decide +kernel)⟩
theorem lw_p30 : lw_okq (⟨"BathNightModel", "draw", "(I)V"⟩, 36) := ⟨⟨by decide +kernel, by decide +kernel⟩, List.mem_of_getElem? (i := 770) (by decide +kernel), List.mem_of_getElem? (i := 977) (by decide +kernel), List.mem_of_getElem? (i := 978) (by decide +kernel)⟩
theorem lw_p31 : lw_okq (⟨"BathNightModel", "hasBath", "(IZ)Z"⟩, 36) := ⟨⟨by decide +kernel, by decide +kernel⟩, List.mem_of_getElem? (i := 770) (by decide +kernel), List.mem_of_getElem? (i := 985) (by decide +kernel), List.mem_of_getElem? (i := 986) (by decide +kernel)⟩
def lw_privs_2 : List (MethodName × Nat) := [(⟨"BathNightModel", "isRead", "()Z"⟩, 36), (⟨"BathNightModel", "isItem", "(Z)Z"⟩, 36), (⟨"BathNightModel", "byteNow", "()I"⟩, 36), (⟨"BathNightModel", "isPut", "(IIII)Z"⟩, 36), (⟨"BathNightModel", "isNumber", "(III)Z"⟩, 36), (⟨"BathNightModel", "isFire", "()Z"⟩, 36), (⟨"BathNightModel", "isBather", "()Z"⟩, 36), (⟨"BathNightModel", "isPair", "(I)Z"⟩, 36), (⟨"BathNightModel", "isBatherOf", "(I)Z"⟩, 36), (⟨"BathNightModel", "many", "()I"⟩, 36), (⟨"BathNightModel", "of", "(II)I"⟩, 36), (⟨"BathNightModel", "holds", "()I"⟩, 36), (⟨"BathNightModel", "fill", "()V"⟩, 36), (⟨"BathNightModel", "unitsOf", "(II)I"⟩, 36), (⟨"BathNightModel", "draw", "(I)V"⟩, 36), (⟨"BathNightModel", "hasBath", "(IZ)Z"⟩, 36)]
theorem lw_r2 : ∀ q ∈ lw_privs_2, lw_okq q := List.forall_mem_cons.mpr ⟨lw_p16, List.forall_mem_cons.mpr ⟨lw_p17, List.forall_mem_cons.mpr ⟨lw_p18, List.forall_mem_cons.mpr ⟨lw_p19, List.forall_mem_cons.mpr ⟨lw_p20, List.forall_mem_cons.mpr ⟨lw_p21, List.forall_mem_cons.mpr ⟨lw_p22, List.forall_mem_cons.mpr ⟨lw_p23, List.forall_mem_cons.mpr ⟨lw_p24, List.forall_mem_cons.mpr ⟨lw_p25, List.forall_mem_cons.mpr ⟨lw_p26, List.forall_mem_cons.mpr ⟨lw_p27, List.forall_mem_cons.mpr ⟨lw_p28, List.forall_mem_cons.mpr ⟨lw_p29, List.forall_mem_cons.mpr ⟨lw_p30, List.forall_mem_cons.mpr ⟨lw_p31, fun _ h => absurd h List.not_mem_nil⟩⟩⟩⟩⟩⟩⟩⟩⟩⟩⟩⟩⟩⟩⟩⟩
theorem lw_p32 : lw_okq (⟨"BathNightModel", "scoreOf", "(I)I"⟩, 36) := ⟨⟨by decide +kernel, by decide +kernel⟩, List.mem_of_getElem? (i := 770) (by decide +kernel), List.mem_of_getElem? (i := 1009) (by decide +kernel), List.mem_of_getElem? (i := 1010) (by decide +kernel)⟩
theorem lw_p33 : lw_okq (⟨"BathNightModel", "asTold", "()V"⟩, 36) := ⟨⟨by decide +kernel, by decide +kernel⟩, List.mem_of_getElem? (i := 770) (by decide +kernel), List.mem_of_getElem? (i := 1013) (by decide +kernel), List.mem_of_getElem? (i := 1014) (by decide +kernel)⟩
theorem lw_p34 : lw_okq (⟨"BathNightModel", "goThrough", "(IJI)I"⟩, 36) := ⟨⟨by decide +kernel, by decide +kernel⟩, List.mem_of_getElem? (i := 770) (by decide +kernel), List.mem_of_getElem? (i := 1017) (by decide +kernel), List.mem_of_getElem? (i := 1018) (by decide +kernel)⟩
theorem lw_p35 : lw_okq (⟨"BathNightModel", "chosen", "(IIII)I"⟩, 36) := ⟨⟨by decide +kernel, by decide +kernel⟩, List.mem_of_getElem? (i := 770) (by decide +kernel), List.mem_of_getElem? (i := 1021) (by decide +kernel), List.mem_of_getElem? (i := 1022) (by decide +kernel)⟩
theorem lw_p36 : lw_okq (⟨"BathNightModel", "canGo", "(III)Z"⟩, 36) := ⟨⟨by decide +kernel, by decide +kernel⟩, List.mem_of_getElem? (i := 770) (by decide +kernel), List.mem_of_getElem? (i := 1025) (by decide +kernel), List.mem_of_getElem? (i := 1026) (by decide +kernel)⟩
theorem lw_p37 : lw_okq (⟨"BathNightModel", "warm", "()V"⟩, 36) := ⟨⟨by decide +kernel, by decide +kernel⟩, List.mem_of_getElem? (i := 770) (by decide +kernel), List.mem_of_getElem? (i := 1029) (by decide +kernel), List.mem_of_getElem? (i := 1030) (by decide +kernel)⟩
theorem lw_p38 : lw_okq (⟨"BathNightModel", "scoreNow", "()I"⟩, 36) := ⟨⟨by decide +kernel, by decide +kernel⟩, List.mem_of_getElem? (i := 770) (by decide +kernel), List.mem_of_getElem? (i := 1033) (by decide +kernel), List.mem_of_getElem? (i := 1034) (by decide +kernel)⟩
theorem lw_p39 : lw_okq (⟨"BathNightModel", "lateNow", "()I"⟩, 36) := ⟨⟨by decide +kernel, by decide +kernel⟩, List.mem_of_getElem? (i := 770) (by decide +kernel), List.mem_of_getElem? (i := 1037) (by decide +kernel), List.mem_of_getElem? (i := 1038) (by decide +kernel)⟩
theorem lw_p40 : lw_okq (⟨"BathNightModel", "doneNow", "()I"⟩, 36) := ⟨⟨by decide +kernel, by decide +kernel⟩, List.mem_of_getElem? (i := 770) (by decide +kernel), List.mem_of_getElem? (i := 1041) (by decide +kernel), List.mem_of_getElem? (i := 1042) (by decide +kernel)⟩
theorem lw_p41 : lw_okq (⟨"BathNightModel", "turns", "()Z"⟩, 36) := ⟨⟨by decide +kernel, by decide +kernel⟩, List.mem_of_getElem? (i := 770) (by decide +kernel), List.mem_of_getElem? (i := 1057) (by decide +kernel), List.mem_of_getElem? (i := 1058) (by decide +kernel)⟩
theorem lw_p42 : lw_okq (⟨"BathNightModel", "change", "(I)V"⟩, 36) := ⟨⟨by decide +kernel, by decide +kernel⟩, List.mem_of_getElem? (i := 770) (by decide +kernel), List.mem_of_getElem? (i := 1065) (by decide +kernel), List.mem_of_getElem? (i := 1066) (by decide +kernel)⟩
theorem lw_p43 : lw_okq (⟨"BathNightModel", "isNobodyLate", "(IJ)Z"⟩, 36) := ⟨⟨by decide +kernel, by decide +kernel⟩, List.mem_of_getElem? (i := 770) (by decide +kernel), List.mem_of_getElem? (i := 1077) (by decide +kernel), List.mem_of_getElem? (i := 1078) (by decide +kernel)⟩
theorem lw_p44 : lw_okq (⟨"BathNightModel", "grief", "(I)I"⟩, 36) := ⟨⟨by decide +kernel, by decide +kernel⟩, List.mem_of_getElem? (i := 770) (by decide +kernel), List.mem_of_getElem? (i := 1101) (by decide +kernel), List.mem_of_getElem? (i := 1102) (by decide +kernel)⟩
def lw_privs_3 : List (MethodName × Nat) := [(⟨"BathNightModel", "scoreOf", "(I)I"⟩, 36), (⟨"BathNightModel", "asTold", "()V"⟩, 36), (⟨"BathNightModel", "goThrough", "(IJI)I"⟩, 36), (⟨"BathNightModel", "chosen", "(IIII)I"⟩, 36), (⟨"BathNightModel", "canGo", "(III)Z"⟩, 36), (⟨"BathNightModel", "warm", "()V"⟩, 36), (⟨"BathNightModel", "scoreNow", "()I"⟩, 36), (⟨"BathNightModel", "lateNow", "()I"⟩, 36), (⟨"BathNightModel", "doneNow", "()I"⟩, 36), (⟨"BathNightModel", "turns", "()Z"⟩, 36), (⟨"BathNightModel", "change", "(I)V"⟩, 36), (⟨"BathNightModel", "isNobodyLate", "(IJ)Z"⟩, 36), (⟨"BathNightModel", "grief", "(I)I"⟩, 36)]
theorem lw_r3 : ∀ q ∈ lw_privs_3, lw_okq q := List.forall_mem_cons.mpr ⟨lw_p32, List.forall_mem_cons.mpr ⟨lw_p33, List.forall_mem_cons.mpr ⟨lw_p34, List.forall_mem_cons.mpr ⟨lw_p35, List.forall_mem_cons.mpr ⟨lw_p36, List.forall_mem_cons.mpr ⟨lw_p37, List.forall_mem_cons.mpr ⟨lw_p38, List.forall_mem_cons.mpr ⟨lw_p39, List.forall_mem_cons.mpr ⟨lw_p40, List.forall_mem_cons.mpr ⟨lw_p41, List.forall_mem_cons.mpr ⟨lw_p42, List.forall_mem_cons.mpr ⟨lw_p43, List.forall_mem_cons.mpr ⟨lw_p44, fun _ h => absurd h List.not_mem_nil⟩⟩⟩⟩⟩⟩⟩⟩⟩⟩⟩⟩⟩
def lw_privs : List (MethodName × Nat) := lw_privs_1 ++ (lw_privs_2 ++ (lw_privs_3))
def lw_tbl : List Cond := k2_sels lw_privs ++ tables_1
theorem lw_privs_ok : ∀ q ∈ lw_privs, lw_okq q := by
  show ∀ q ∈ lw_privs_1 ++ (lw_privs_2 ++ (lw_privs_3)), lw_okq q
  exact List.forall_mem_append.mpr ⟨lw_r1, List.forall_mem_append.mpr ⟨lw_r2, lw_r3⟩⟩
def RX0 : String := "BathNight$Asked"
def TX0 : u_T := fun k => match k with
  | 0 => ("BathNight$Asked", "rule", "I", false)
  | 1 => ("BathNight$Asked", "hot", "I", false)
  | 2 => ("BathNight$Asked", "fires", "I", false)
  | 3 => ("BathNight$Asked", "plan", "J", false)
  | 4 => ("BathNight$Asked", "row", "[I", true)
  | 5 => ("BathNight$Asked", "tapFrom", "I", false)
  | 6 => ("BathNight$Asked", "tapSteps", "I", false)
  | _ => ("BathNight$Asked", "tapPints", "I", false)
def tyX0 : Nat → FieldType := fun k => match k with
  | 0 => .int
  | 1 => .int
  | 2 => .int
  | 3 => .long
  | 4 => .array .int
  | 5 => .int
  | 6 => .int
  | _ => .int
abbrev wsX00 : List Cond := u_ws RX0 TX0 8
theorem nmX0 : ∀ a, a < 8 → ∀ b, b < 8 → a ≠ b → (TX0 a).2.1 ≠ (TX0 b).2.1 := by decide +kernel
theorem tyX0_ok : ∀ k, k < 8 → parseFieldDescriptor (TX0 k).2.2.1 = some (tyX0 k) := by decide +kernel
abbrev cX0_init : ByteArray := prog_2_method_1_code
def yX0_init : MethodName := ⟨RX0, "<init>", "()V"⟩
abbrev cX0_become : ByteArray := prog_2_method_2_code
def yX0_become : MethodName := ⟨RX0, "become", "(ILBathNight$Wishes;I)V"⟩
abbrev cX0_copyRowTo : ByteArray := prog_2_method_3_code
def yX0_copyRowTo : MethodName := ⟨RX0, "copyRowTo", "([I)V"⟩
abbrev cX0_rowByNumbers : ByteArray := prog_2_method_4_code
def yX0_rowByNumbers : MethodName := ⟨RX0, "rowByNumbers", "()V"⟩
abbrev cX0_changePlaces : ByteArray := prog_2_method_5_code
def yX0_changePlaces : MethodName := ⟨RX0, "changePlaces", "(II)V"⟩
abbrev cX0_nextRow : ByteArray := prog_2_method_6_code
def yX0_nextRow : MethodName := ⟨RX0, "nextRow", "(I)Z"⟩
abbrev cX0_placeInRow : ByteArray := prog_2_method_7_code
def yX0_placeInRow : MethodName := ⟨RX0, "placeInRow", "(I)I"⟩
abbrev cX0_plansFor : ByteArray := prog_2_method_8_code
def yX0_plansFor : MethodName := ⟨RX0, "plansFor", "(I)Z"⟩
abbrev cX0_tapsAt : ByteArray := prog_2_method_9_code
def yX0_tapsAt : MethodName := ⟨RX0, "tapsAt", "(I)Z"⟩
abbrev cX0_prefers : ByteArray := prog_2_method_10_code
def yX0_prefers : MethodName := ⟨RX0, "prefers", "(LBathNight$Bather;LBathNight$Bather;)Z"⟩
def RX1 : String := "BathNight$Bath"
def TX1 : u_T := fun k => match k with
  | 0 => ("BathNight$Bath", "pints", "I", false)
  | 1 => ("BathNight$Bath", "heat", "I", false)
  | 2 => ("BathNight$Bath", "kettle", "I", false)
  | _ => ("BathNight$Bath", "usedWater", "Z", false)
def tyX1 : Nat → FieldType := fun k => match k with
  | 0 => .int
  | 1 => .int
  | 2 => .int
  | _ => .boolean
abbrev wsX10 : List Cond := u_ws RX1 TX1 4
theorem nmX1 : ∀ a, a < 4 → ∀ b, b < 4 → a ≠ b → (TX1 a).2.1 ≠ (TX1 b).2.1 := by decide +kernel
theorem tyX1_ok : ∀ k, k < 4 → parseFieldDescriptor (TX1 k).2.2.1 = some (tyX1 k) := by decide +kernel
abbrev cX1_init : ByteArray := prog_3_method_1_code
def yX1_init : MethodName := ⟨RX1, "<init>", "()V"⟩
abbrev cX1_isLeftBy : ByteArray := prog_3_method_2_code
def yX1_isLeftBy : MethodName := ⟨RX1, "isLeftBy", "(LBathNight$Bather;LBathNight$Bather;I)Z"⟩
abbrev cX1_comesFrom : ByteArray := prog_3_method_3_code
def yX1_comesFrom : MethodName := ⟨RX1, "comesFrom", "(LBathNight$Tank;LBathNight$Bather;I)Z"⟩
def RX2 : String := "BathNight$Bather"
def TX2 : u_T := fun k => match k with
  | 0 => ("BathNight$Bather", "bit", "I", true)
  | 1 => ("BathNight$Bather", "pints", "I", false)
  | 2 => ("BathNight$Bather", "coolest", "I", false)
  | 3 => ("BathNight$Bather", "hottest", "I", false)
  | 4 => ("BathNight$Bather", "stays", "I", false)
  | 5 => ("BathNight$Bather", "from", "I", false)
  | 6 => ("BathNight$Bather", "until", "I", false)
  | 7 => ("BathNight$Bather", "after", "I", false)
  | 8 => ("BathNight$Bather", "waterOf", "I", false)
  | 9 => ("BathNight$Bather", "comes", "I", false)
  | 10 => ("BathNight$Bather", "went", "I", false)
  | 11 => ("BathNight$Bather", "done", "I", false)
  | 12 => ("BathNight$Bather", "heat", "I", false)
  | _ => ("BathNight$Bather", "drew", "I", false)
def tyX2 : Nat → FieldType := fun k => match k with
  | 0 => .int
  | 1 => .int
  | 2 => .int
  | 3 => .int
  | 4 => .int
  | 5 => .int
  | 6 => .int
  | 7 => .int
  | 8 => .int
  | 9 => .int
  | 10 => .int
  | 11 => .int
  | 12 => .int
  | _ => .int
abbrev wsX20 : List Cond := u_ws RX2 TX2 14
theorem nmX2 : ∀ a, a < 14 → ∀ b, b < 14 → a ≠ b → (TX2 a).2.1 ≠ (TX2 b).2.1 := by decide +kernel
theorem tyX2_ok : ∀ k, k < 14 → parseFieldDescriptor (TX2 k).2.2.1 = some (tyX2 k) := by decide +kernel
abbrev cX2_init : ByteArray := prog_4_method_1_code
def yX2_init : MethodName := ⟨RX2, "<init>", "(I)V"⟩
abbrev cX2_become : ByteArray := prog_4_method_2_code
def yX2_become : MethodName := ⟨RX2, "become", "(LBathNight$Item;)V"⟩
abbrev cX2_becomeLike : ByteArray := prog_4_method_3_code
def yX2_becomeLike : MethodName := ⟨RX2, "becomeLike", "(LBathNight$Bather;)V"⟩
abbrev cX2_toldOf : ByteArray := prog_4_method_4_code
def yX2_toldOf : MethodName := ⟨RX2, "toldOf", "(I)I"⟩
abbrev cX2_isNotInYet : ByteArray := prog_4_method_5_code
def yX2_isNotInYet : MethodName := ⟨RX2, "isNotInYet", "()V"⟩
def RX3 : String := "BathNight$Evening"
def TX3 : u_T := fun k => match k with
  | 0 => ("BathNight$Evening", "tank", "LBathNight$Tank;", true)
  | 1 => ("BathNight$Evening", "fire", "LBathNight$Fire;", true)
  | 2 => ("BathNight$Evening", "bath", "LBathNight$Bath;", true)
  | 3 => ("BathNight$Evening", "kettleAge", "I", false)
  | 4 => ("BathNight$Evening", "last", "LBathNight$Bather;", false)
  | 5 => ("BathNight$Evening", "freeFrom", "I", false)
  | 6 => ("BathNight$Evening", "wereIn", "I", false)
  | _ => ("BathNight$Evening", "nextOfRow", "I", false)
def tyX3 : Nat → FieldType := fun k => match k with
  | 0 => .object "BathNight$Tank"
  | 1 => .object "BathNight$Fire"
  | 2 => .object "BathNight$Bath"
  | 3 => .int
  | 4 => .object "BathNight$Bather"
  | 5 => .int
  | 6 => .int
  | _ => .int
abbrev wsX30 : List Cond := u_ws RX3 TX3 8
theorem nmX3 : ∀ a, a < 8 → ∀ b, b < 8 → a ≠ b → (TX3 a).2.1 ≠ (TX3 b).2.1 := by decide +kernel
theorem tyX3_ok : ∀ k, k < 8 → parseFieldDescriptor (TX3 k).2.2.1 = some (tyX3 k) := by decide +kernel
abbrev cX3_init : ByteArray := prog_5_method_1_code
def yX3_init : MethodName := ⟨RX3, "<init>", "()V"⟩
abbrev cX3_run : ByteArray := prog_5_method_2_code
def yX3_run : MethodName := ⟨RX3, "run", "(LBathNight$House;LBathNight$Asked;)I"⟩
abbrev cX3_begin : ByteArray := prog_5_method_3_code
def yX3_begin : MethodName := ⟨RX3, "begin", "(LBathNight$House;I)V"⟩
abbrev cX3_chosen : ByteArray := prog_5_method_4_code
def yX3_chosen : MethodName := ⟨RX3, "chosen", "(LBathNight$House;LBathNight$Asked;I)LBathNight$Bather;"⟩
abbrev cX3_can : ByteArray := prog_5_method_5_code
def yX3_can : MethodName := ⟨RX3, "can", "(LBathNight$House;LBathNight$Bather;I)Z"⟩
abbrev cX3_goesIn : ByteArray := prog_5_method_6_code
def yX3_goesIn : MethodName := ⟨RX3, "goesIn", "(LBathNight$House;LBathNight$Bather;I)V"⟩
def RX4 : String := "BathNight$Fire"
def TX4 : u_T := fun k => match k with
  | 0 => ("BathNight$Fire", "stage", "I", false)
  | 1 => ("BathNight$Fire", "age", "I", false)
  | _ => ("BathNight$Fire", "times", "I", false)
def tyX4 : Nat → FieldType := fun k => match k with
  | 0 => .int
  | 1 => .int
  | _ => .int
abbrev wsX40 : List Cond := u_ws RX4 TX4 3
theorem nmX4 : ∀ a, a < 3 → ∀ b, b < 3 → a ≠ b → (TX4 a).2.1 ≠ (TX4 b).2.1 := by decide +kernel
theorem tyX4_ok : ∀ k, k < 3 → parseFieldDescriptor (TX4 k).2.2.1 = some (tyX4 k) := by decide +kernel
abbrev cX4_init : ByteArray := prog_6_method_1_code
def yX4_init : MethodName := ⟨RX4, "<init>", "()V"⟩
abbrev cX4_begin : ByteArray := prog_6_method_2_code
def yX4_begin : MethodName := ⟨RX4, "begin", "(I)V"⟩
abbrev cX4_makeUp : ByteArray := prog_6_method_3_code
def yX4_makeUp : MethodName := ⟨RX4, "makeUp", "()V"⟩
abbrev cX4_gives : ByteArray := prog_6_method_4_code
def yX4_gives : MethodName := ⟨RX4, "gives", "(LBathNight$House;)I"⟩
abbrev cX4_getOlder : ByteArray := prog_6_method_5_code
def yX4_getOlder : MethodName := ⟨RX4, "getOlder", "(LBathNight$House;)V"⟩
def RX5 : String := "BathNight$House"
def TX5 : u_T := fun k => match k with
  | 0 => ("BathNight$House", "tankTold", "Z", false)
  | 1 => ("BathNight$House", "layers", "I", false)
  | 2 => ("BathNight$House", "pints", "I", false)
  | 3 => ("BathNight$House", "cold", "I", false)
  | 4 => ("BathNight$House", "first", "I", false)
  | 5 => ("BathNight$House", "loses", "I", false)
  | 6 => ("BathNight$House", "stageGives", "[I", true)
  | 7 => ("BathNight$House", "stageLasts", "[I", true)
  | 8 => ("BathNight$House", "fires", "I", false)
  | 9 => ("BathNight$House", "kettle", "I", false)
  | 10 => ("BathNight$House", "kettleSteps", "I", false)
  | 11 => ("BathNight$House", "cools", "I", false)
  | 12 => ("BathNight$House", "steps", "I", false)
  | 13 => ("BathNight$House", "count", "I", false)
  | _ => ("BathNight$House", "bathers", "[LBathNight$Bather;", true)
def tyX5 : Nat → FieldType := fun k => match k with
  | 0 => .boolean
  | 1 => .int
  | 2 => .int
  | 3 => .int
  | 4 => .int
  | 5 => .int
  | 6 => .array .int
  | 7 => .array .int
  | 8 => .int
  | 9 => .int
  | 10 => .int
  | 11 => .int
  | 12 => .int
  | 13 => .int
  | _ => .array (.object "BathNight$Bather")
abbrev wsX50 : List Cond := u_ws RX5 TX5 15
theorem nmX5 : ∀ a, a < 15 → ∀ b, b < 15 → a ≠ b → (TX5 a).2.1 ≠ (TX5 b).2.1 := by decide +kernel
theorem tyX5_ok : ∀ k, k < 15 → parseFieldDescriptor (TX5 k).2.2.1 = some (tyX5 k) := by decide +kernel
abbrev cX5_init : ByteArray := prog_7_method_1_code
def yX5_init : MethodName := ⟨RX5, "<init>", "()V"⟩
abbrev cX5_clear : ByteArray := prog_7_method_2_code
def yX5_clear : MethodName := ⟨RX5, "clear", "()V"⟩
abbrev cX5_becomeLike : ByteArray := prog_7_method_3_code
def yX5_becomeLike : MethodName := ⟨RX5, "becomeLike", "(LBathNight$House;)V"⟩
abbrev cX5_grow : ByteArray := prog_7_method_4_code
def yX5_grow : MethodName := ⟨RX5, "grow", "(I)V"⟩
abbrev cX5_who : ByteArray := prog_7_method_5_code
def yX5_who : MethodName := ⟨RX5, "who", "(I)LBathNight$Bather;"⟩
abbrev cX5_allComeAsTold : ByteArray := prog_7_method_6_code
def yX5_allComeAsTold : MethodName := ⟨RX5, "allComeAsTold", "()V"⟩
abbrev cX5_takes : ByteArray := prog_7_method_7_code
def yX5_takes : MethodName := ⟨RX5, "takes", "(LBathNight$Item;)Z"⟩
abbrev cX5_takesTank : ByteArray := prog_7_method_8_code
def yX5_takesTank : MethodName := ⟨RX5, "takesTank", "(LBathNight$Item;)Z"⟩
abbrev cX5_takesStage : ByteArray := prog_7_method_9_code
def yX5_takesStage : MethodName := ⟨RX5, "takesStage", "(LBathNight$Item;)Z"⟩
abbrev cX5_takesBather : ByteArray := prog_7_method_10_code
def yX5_takesBather : MethodName := ⟨RX5, "takesBather", "(LBathNight$Item;)Z"⟩
abbrev cX5_takesPair : ByteArray := prog_7_method_11_code
def yX5_takesPair : MethodName := ⟨RX5, "takesPair", "(LBathNight$Item;)Z"⟩
abbrev cX5_takesKettle : ByteArray := prog_7_method_12_code
def yX5_takesKettle : MethodName := ⟨RX5, "takesKettle", "(LBathNight$Item;)Z"⟩
abbrev cX5_takesNumber : ByteArray := prog_7_method_13_code
def yX5_takesNumber : MethodName := ⟨RX5, "takesNumber", "(LBathNight$Item;)Z"⟩
abbrev cX5_scoreOfEvening : ByteArray := prog_7_method_14_code
def yX5_scoreOfEvening : MethodName := ⟨RX5, "scoreOfEvening", "()I"⟩
def RX6 : String := "BathNight$Item"
def TX6 : u_T := fun k => match k with
  | 0 => ("BathNight$Item", "numbers", "[I", true)
  | 1 => ("BathNight$Item", "letter", "I", false)
  | _ => ("BathNight$Item", "many", "I", false)
def tyX6 : Nat → FieldType := fun k => match k with
  | 0 => .array .int
  | 1 => .int
  | _ => .int
abbrev wsX60 : List Cond := u_ws RX6 TX6 3
theorem nmX6 : ∀ a, a < 3 → ∀ b, b < 3 → a ≠ b → (TX6 a).2.1 ≠ (TX6 b).2.1 := by decide +kernel
theorem tyX6_ok : ∀ k, k < 3 → parseFieldDescriptor (TX6 k).2.2.1 = some (tyX6 k) := by decide +kernel
abbrev cX6_init : ByteArray := prog_8_method_1_code
def yX6_init : MethodName := ⟨RX6, "<init>", "()V"⟩
abbrev cX6_readFrom : ByteArray := prog_8_method_2_code
def yX6_readFrom : MethodName := ⟨RX6, "readFrom", "([BII)I"⟩
abbrev cX6_number : ByteArray := prog_8_method_3_code
def yX6_number : MethodName := ⟨RX6, "number", "(I)I"⟩
abbrev cX6_isWithin : ByteArray := prog_8_method_4_code
def yX6_isWithin : MethodName := ⟨RX6, "isWithin", "(III)Z"⟩
abbrev cX6_isOneWithin : ByteArray := prog_8_method_5_code
def yX6_isOneWithin : MethodName := ⟨RX6, "isOneWithin", "(II)Z"⟩
abbrev cX6_isPairOf : ByteArray := prog_8_method_6_code
def yX6_isPairOf : MethodName := ⟨RX6, "isPairOf", "(I)Z"⟩
def RX7 : String := "BathNight$Tank"
def TX7 : u_T := fun k => match k with
  | 0 => ("BathNight$Tank", "units", "[I", true)
  | 1 => ("BathNight$Tank", "layers", "I", false)
  | 2 => ("BathNight$Tank", "pints", "I", false)
  | _ => ("BathNight$Tank", "cold", "I", false)
def tyX7 : Nat → FieldType := fun k => match k with
  | 0 => .array .int
  | 1 => .int
  | 2 => .int
  | _ => .int
abbrev wsX70 : List Cond := u_ws RX7 TX7 4
theorem nmX7 : ∀ a, a < 4 → ∀ b, b < 4 → a ≠ b → (TX7 a).2.1 ≠ (TX7 b).2.1 := by decide +kernel
theorem tyX7_ok : ∀ k, k < 4 → parseFieldDescriptor (TX7 k).2.2.1 = some (tyX7 k) := by decide +kernel
abbrev cX7_init : ByteArray := prog_9_method_1_code
def yX7_init : MethodName := ⟨RX7, "<init>", "()V"⟩
abbrev cX7_fill : ByteArray := prog_9_method_2_code
def yX7_fill : MethodName := ⟨RX7, "fill", "(LBathNight$House;)V"⟩
abbrev cX7_holds : ByteArray := prog_9_method_3_code
def yX7_holds : MethodName := ⟨RX7, "holds", "()I"⟩
abbrev cX7_unitsIn : ByteArray := prog_9_method_4_code
def yX7_unitsIn : MethodName := ⟨RX7, "unitsIn", "(I)I"⟩
abbrev cX7_heatOf : ByteArray := prog_9_method_5_code
def yX7_heatOf : MethodName := ⟨RX7, "heatOf", "(I)I"⟩
abbrev cX7_unitsOfPart : ByteArray := prog_9_method_6_code
def yX7_unitsOfPart : MethodName := ⟨RX7, "unitsOfPart", "(II)I"⟩
abbrev cX7_unitsOfTop : ByteArray := prog_9_method_7_code
def yX7_unitsOfTop : MethodName := ⟨RX7, "unitsOfTop", "(I)I"⟩
abbrev cX7_draw : ByteArray := prog_9_method_8_code
def yX7_draw : MethodName := ⟨RX7, "draw", "(I)V"⟩
abbrev cX7_pintsFor : ByteArray := prog_9_method_9_code
def yX7_pintsFor : MethodName := ⟨RX7, "pintsFor", "(II)I"⟩
abbrev cX7_warm : ByteArray := prog_9_method_10_code
def yX7_warm : MethodName := ⟨RX7, "warm", "(I)V"⟩
abbrev cX7_lose : ByteArray := prog_9_method_11_code
def yX7_lose : MethodName := ⟨RX7, "lose", "(I)V"⟩
def RX8 : String := "BathNight$Wishes"
def TX8 : u_T := fun k => match k with
  | 0 => ("BathNight$Wishes", "row", "[I", true)
  | 1 => ("BathNight$Wishes", "hot", "I", false)
  | 2 => ("BathNight$Wishes", "plan", "J", false)
  | _ => ("BathNight$Wishes", "tenths", "[I", true)
def tyX8 : Nat → FieldType := fun k => match k with
  | 0 => .array .int
  | 1 => .int
  | 2 => .long
  | _ => .array .int
abbrev wsX80 : List Cond := u_ws RX8 TX8 4
theorem nmX8 : ∀ a, a < 4 → ∀ b, b < 4 → a ≠ b → (TX8 a).2.1 ≠ (TX8 b).2.1 := by decide +kernel
theorem tyX8_ok : ∀ k, k < 4 → parseFieldDescriptor (TX8 k).2.2.1 = some (tyX8 k) := by decide +kernel
abbrev cX8_init : ByteArray := prog_10_method_1_code
def yX8_init : MethodName := ⟨RX8, "<init>", "()V"⟩
abbrev cX8_clear : ByteArray := prog_10_method_2_code
def yX8_clear : MethodName := ⟨RX8, "clear", "()V"⟩
abbrev cX8_becomeLike : ByteArray := prog_10_method_3_code
def yX8_becomeLike : MethodName := ⟨RX8, "becomeLike", "(LBathNight$Wishes;)V"⟩
abbrev cX8_sumOfTenths : ByteArray := prog_10_method_4_code
def yX8_sumOfTenths : MethodName := ⟨RX8, "sumOfTenths", "()I"⟩
def RX9 : String := "BathNight"
def TX9 : u_T := fun k => match k with
  | 0 => ("BathNight", "text", "[B", true)
  | 1 => ("BathNight", "length", "I", false)
  | 2 => ("BathNight", "item", "LBathNight$Item;", true)
  | 3 => ("BathNight", "house", "LBathNight$House;", false)
  | 4 => ("BathNight", "spare", "LBathNight$House;", false)
  | 5 => ("BathNight", "wishes", "LBathNight$Wishes;", true)
  | 6 => ("BathNight", "kept", "[LBathNight$Wishes;", true)
  | 7 => ("BathNight", "keeps", "I", false)
  | 8 => ("BathNight", "asked", "LBathNight$Asked;", true)
  | 9 => ("BathNight", "night", "LBathNight$Evening;", true)
  | _ => ("BathNight", "bestRow", "[I", true)
def tyX9 : Nat → FieldType := fun k => match k with
  | 0 => .array .byte
  | 1 => .int
  | 2 => .object "BathNight$Item"
  | 3 => .object "BathNight$House"
  | 4 => .object "BathNight$House"
  | 5 => .object "BathNight$Wishes"
  | 6 => .array (.object "BathNight$Wishes")
  | 7 => .int
  | 8 => .object "BathNight$Asked"
  | 9 => .object "BathNight$Evening"
  | _ => .array .int
abbrev wsX90 : List Cond := u_ws RX9 TX9 11
theorem nmX9 : ∀ a, a < 11 → ∀ b, b < 11 → a ≠ b → (TX9 a).2.1 ≠ (TX9 b).2.1 := by decide +kernel
theorem tyX9_ok : ∀ k, k < 11 → parseFieldDescriptor (TX9 k).2.2.1 = some (tyX9 k) := by decide +kernel
abbrev cX9_init : ByteArray := prog_1_method_1_code
def yX9_init : MethodName := ⟨RX9, "<init>", "()V"⟩
abbrev cX9_write : ByteArray := prog_1_method_2_code
def yX9_write : MethodName := ⟨RX9, "write", "(IJ)I"⟩
abbrev cX9_wipe : ByteArray := prog_1_method_3_code
def yX9_wipe : MethodName := ⟨RX9, "wipe", "()I"⟩
abbrev cX9_fault : ByteArray := prog_1_method_4_code
def yX9_fault : MethodName := ⟨RX9, "fault", "()I"⟩
abbrev cX9_lay : ByteArray := prog_1_method_5_code
def yX9_lay : MethodName := ⟨RX9, "lay", "()I"⟩
abbrev cX9_bather : ByteArray := prog_1_method_6_code
def yX9_bather : MethodName := ⟨RX9, "bather", "(II)I"⟩
abbrev cX9_drawn : ByteArray := prog_1_method_7_code
def yX9_drawn : MethodName := ⟨RX9, "drawn", "(II)I"⟩
abbrev cX9_bath : ByteArray := prog_1_method_8_code
def yX9_bath : MethodName := ⟨RX9, "bath", "(IZI)I"⟩
abbrev cX9_row : ByteArray := prog_1_method_9_code
def yX9_row : MethodName := ⟨RX9, "row", "(II)I"⟩
abbrev cX9_hot : ByteArray := prog_1_method_10_code
def yX9_hot : MethodName := ⟨RX9, "hot", "(I)I"⟩
abbrev cX9_plan : ByteArray := prog_1_method_11_code
def yX9_plan : MethodName := ⟨RX9, "plan", "(IZ)I"⟩
abbrev cX9_evening : ByteArray := prog_1_method_12_code
def yX9_evening : MethodName := ⟨RX9, "evening", "(III)I"⟩
abbrev cX9_score : ByteArray := prog_1_method_13_code
def yX9_score : MethodName := ⟨RX9, "score", "(II)I"⟩
abbrev cX9_left : ByteArray := prog_1_method_14_code
def yX9_left : MethodName := ⟨RX9, "left", "(II)I"⟩
abbrev cX9_best : ByteArray := prog_1_method_15_code
def yX9_best : MethodName := ⟨RX9, "best", "(I)I"⟩
abbrev cX9_swapped : ByteArray := prog_1_method_16_code
def yX9_swapped : MethodName := ⟨RX9, "swapped", "()I"⟩
abbrev cX9_when : ByteArray := prog_1_method_17_code
def yX9_when : MethodName := ⟨RX9, "when", "(II)I"⟩
abbrev cX9_fewest : ByteArray := prog_1_method_18_code
def yX9_fewest : MethodName := ⟨RX9, "fewest", "(II)I"⟩
abbrev cX9_bigger : ByteArray := prog_1_method_19_code
def yX9_bigger : MethodName := ⟨RX9, "bigger", "(II)I"⟩
abbrev cX9_tap : ByteArray := prog_1_method_20_code
def yX9_tap : MethodName := ⟨RX9, "tap", "(IIII)I"⟩
abbrev cX9_tenths : ByteArray := prog_1_method_21_code
def yX9_tenths : MethodName := ⟨RX9, "tenths", "(II)I"⟩
abbrev cX9_told : ByteArray := prog_1_method_22_code
def yX9_told : MethodName := ⟨RX9, "told", "(III)I"⟩
abbrev cX9_looks : ByteArray := prog_1_method_23_code
def yX9_looks : MethodName := ⟨RX9, "looks", "(I)I"⟩
abbrev cX9_keep : ByteArray := prog_1_method_24_code
def yX9_keep : MethodName := ⟨RX9, "keep", "()I"⟩
abbrev cX9_back : ByteArray := prog_1_method_25_code
def yX9_back : MethodName := ⟨RX9, "back", "()I"⟩
abbrev cX9_count : ByteArray := prog_1_method_26_code
def yX9_count : MethodName := ⟨RX9, "count", "(I)I"⟩
abbrev cX9_isRule : ByteArray := prog_1_method_27_code
def yX9_isRule : MethodName := ⟨RX9, "isRule", "(I)Z"⟩
abbrev cX9_ask : ByteArray := prog_1_method_28_code
def yX9_ask : MethodName := ⟨RX9, "ask", "(I)V"⟩
abbrev cX9_nobodyLate : ByteArray := prog_1_method_29_code
def yX9_nobodyLate : MethodName := ⟨RX9, "nobodyLate", "(J)Z"⟩
abbrev cX9_sumToldAt : ByteArray := prog_1_method_30_code
def yX9_sumToldAt : MethodName := ⟨RX9, "sumToldAt", "(LBathNight$Bather;I)I"⟩
abbrev cX9_bestToCome : ByteArray := prog_1_method_31_code
def yX9_bestToCome : MethodName := ⟨RX9, "bestToCome", "(LBathNight$Bather;)I"⟩
def RX10 : String := "BathNightModel"
def TX10 : u_T := fun k => match k with
  | 0 => ("BathNightModel", "bytes", "I", false)
  | 1 => ("BathNightModel", "text", "[I", true)
  | 2 => ("BathNightModel", "position", "I", false)
  | 3 => ("BathNightModel", "begin", "I", false)
  | 4 => ("BathNightModel", "number", "I", false)
  | 5 => ("BathNightModel", "read", "[I", true)
  | 6 => ("BathNightModel", "house", "[I", true)
  | 7 => ("BathNightModel", "row", "[I", true)
  | 8 => ("BathNightModel", "hot", "I", false)
  | 9 => ("BathNightModel", "plan", "J", false)
  | 10 => ("BathNightModel", "tenths", "[I", true)
  | 11 => ("BathNightModel", "keeps", "I", false)
  | 12 => ("BathNightModel", "keptRow", "[I", true)
  | 13 => ("BathNightModel", "keptHot", "[I", true)
  | 14 => ("BathNightModel", "keptPlan", "[J", true)
  | 15 => ("BathNightModel", "keptTenths", "[I", true)
  | 16 => ("BathNightModel", "units", "[I", true)
  | 17 => ("BathNightModel", "then", "[I", true)
  | 18 => ("BathNightModel", "comes", "[I", true)
  | 19 => ("BathNightModel", "wentIn", "[I", true)
  | 20 => ("BathNightModel", "isDone", "[I", true)
  | 21 => ("BathNightModel", "heat", "[I", true)
  | 22 => ("BathNightModel", "took", "[I", true)
  | 23 => ("BathNightModel", "order", "[I", true)
  | 24 => ("BathNightModel", "stage", "I", false)
  | 25 => ("BathNightModel", "lasts", "I", false)
  | 26 => ("BathNightModel", "fires", "I", false)
  | 27 => ("BathNightModel", "putOn", "I", false)
  | 28 => ("BathNightModel", "tapFrom", "I", false)
  | 29 => ("BathNightModel", "tapSteps", "I", false)
  | 30 => ("BathNightModel", "tapPints", "I", false)
  | 31 => ("BathNightModel", "bathPints", "I", false)
  | 32 => ("BathNightModel", "bathHeat", "I", false)
  | 33 => ("BathNightModel", "isUsed", "Z", false)
  | 34 => ("BathNightModel", "best", "[I", true)
  | _ => ("BathNightModel", "late", "[I", true)
def tyX10 : Nat → FieldType := fun k => match k with
  | 0 => .int
  | 1 => .array .int
  | 2 => .int
  | 3 => .int
  | 4 => .int
  | 5 => .array .int
  | 6 => .array .int
  | 7 => .array .int
  | 8 => .int
  | 9 => .long
  | 10 => .array .int
  | 11 => .int
  | 12 => .array .int
  | 13 => .array .int
  | 14 => .array .long
  | 15 => .array .int
  | 16 => .array .int
  | 17 => .array .int
  | 18 => .array .int
  | 19 => .array .int
  | 20 => .array .int
  | 21 => .array .int
  | 22 => .array .int
  | 23 => .array .int
  | 24 => .int
  | 25 => .int
  | 26 => .int
  | 27 => .int
  | 28 => .int
  | 29 => .int
  | 30 => .int
  | 31 => .int
  | 32 => .int
  | 33 => .boolean
  | 34 => .array .int
  | _ => .array .int
abbrev wsX100 : List Cond := u_ws RX10 TX10 36
theorem nmX10 : ∀ a, a < 36 → ∀ b, b < 36 → a ≠ b → (TX10 a).2.1 ≠ (TX10 b).2.1 := by decide +kernel
theorem tyX10_ok : ∀ k, k < 36 → parseFieldDescriptor (TX10 k).2.2.1 = some (tyX10 k) := by decide +kernel
abbrev cX10_init : ByteArray := prog_12_method_1_code
def yX10_init : MethodName := ⟨RX10, "<init>", "()V"⟩
abbrev cX10_firstHouse : ByteArray := prog_12_method_2_code
def yX10_firstHouse : MethodName := ⟨RX10, "firstHouse", "([I)V"⟩
abbrev cX10_layDown : ByteArray := prog_12_method_3_code
def yX10_layDown : MethodName := ⟨RX10, "layDown", "()V"⟩
abbrev cX10_in : ByteArray := prog_12_method_4_code
def yX10_in : MethodName := ⟨RX10, "in", "(III)Z"⟩
abbrev cX10_write : ByteArray := prog_12_method_5_code
def yX10_write : MethodName := ⟨RX10, "write", "(IJ)I"⟩
abbrev cX10_wipe : ByteArray := prog_12_method_6_code
def yX10_wipe : MethodName := ⟨RX10, "wipe", "()I"⟩
abbrev cX10_byteNow : ByteArray := prog_12_method_7_code
def yX10_byteNow : MethodName := ⟨RX10, "byteNow", "()I"⟩
abbrev cX10_isNumber : ByteArray := prog_12_method_8_code
def yX10_isNumber : MethodName := ⟨RX10, "isNumber", "(III)Z"⟩
abbrev cX10_isPut : ByteArray := prog_12_method_9_code
def yX10_isPut : MethodName := ⟨RX10, "isPut", "(IIII)Z"⟩
abbrev cX10_isBather : ByteArray := prog_12_method_10_code
def yX10_isBather : MethodName := ⟨RX10, "isBather", "()Z"⟩
abbrev cX10_isPair : ByteArray := prog_12_method_11_code
def yX10_isPair : MethodName := ⟨RX10, "isPair", "(I)Z"⟩
abbrev cX10_isFire : ByteArray := prog_12_method_12_code
def yX10_isFire : MethodName := ⟨RX10, "isFire", "()Z"⟩
abbrev cX10_isItem : ByteArray := prog_12_method_13_code
def yX10_isItem : MethodName := ⟨RX10, "isItem", "(Z)Z"⟩
abbrev cX10_isRead : ByteArray := prog_12_method_14_code
def yX10_isRead : MethodName := ⟨RX10, "isRead", "()Z"⟩
abbrev cX10_fault : ByteArray := prog_12_method_15_code
def yX10_fault : MethodName := ⟨RX10, "fault", "()I"⟩
abbrev cX10_lay : ByteArray := prog_12_method_16_code
def yX10_lay : MethodName := ⟨RX10, "lay", "()I"⟩
abbrev cX10_many : ByteArray := prog_12_method_17_code
def yX10_many : MethodName := ⟨RX10, "many", "()I"⟩
abbrev cX10_isBatherOf : ByteArray := prog_12_method_18_code
def yX10_isBatherOf : MethodName := ⟨RX10, "isBatherOf", "(I)Z"⟩
abbrev cX10_of : ByteArray := prog_12_method_19_code
def yX10_of : MethodName := ⟨RX10, "of", "(II)I"⟩
abbrev cX10_bather : ByteArray := prog_12_method_20_code
def yX10_bather : MethodName := ⟨RX10, "bather", "(II)I"⟩
abbrev cX10_holds : ByteArray := prog_12_method_21_code
def yX10_holds : MethodName := ⟨RX10, "holds", "()I"⟩
abbrev cX10_fill : ByteArray := prog_12_method_22_code
def yX10_fill : MethodName := ⟨RX10, "fill", "()V"⟩
abbrev cX10_unitsOf : ByteArray := prog_12_method_23_code
def yX10_unitsOf : MethodName := ⟨RX10, "unitsOf", "(II)I"⟩
abbrev cX10_draw : ByteArray := prog_12_method_24_code
def yX10_draw : MethodName := ⟨RX10, "draw", "(I)V"⟩
abbrev cX10_drawn : ByteArray := prog_12_method_25_code
def yX10_drawn : MethodName := ⟨RX10, "drawn", "(II)I"⟩
abbrev cX10_hasBath : ByteArray := prog_12_method_26_code
def yX10_hasBath : MethodName := ⟨RX10, "hasBath", "(IZ)Z"⟩
abbrev cX10_bath : ByteArray := prog_12_method_27_code
def yX10_bath : MethodName := ⟨RX10, "bath", "(IZI)I"⟩
abbrev cX10_row : ByteArray := prog_12_method_28_code
def yX10_row : MethodName := ⟨RX10, "row", "(II)I"⟩
abbrev cX10_hot : ByteArray := prog_12_method_29_code
def yX10_hot : MethodName := ⟨RX10, "hot", "(I)I"⟩
abbrev cX10_plan : ByteArray := prog_12_method_30_code
def yX10_plan : MethodName := ⟨RX10, "plan", "(IZ)I"⟩
abbrev cX10_isRule : ByteArray := prog_12_method_31_code
def yX10_isRule : MethodName := ⟨RX10, "isRule", "(I)Z"⟩
abbrev cX10_canGo : ByteArray := prog_12_method_32_code
def yX10_canGo : MethodName := ⟨RX10, "canGo", "(III)Z"⟩
abbrev cX10_chosen : ByteArray := prog_12_method_33_code
def yX10_chosen : MethodName := ⟨RX10, "chosen", "(IIII)I"⟩
abbrev cX10_warm : ByteArray := prog_12_method_34_code
def yX10_warm : MethodName := ⟨RX10, "warm", "()V"⟩
abbrev cX10_goThrough : ByteArray := prog_12_method_35_code
def yX10_goThrough : MethodName := ⟨RX10, "goThrough", "(IJI)I"⟩
abbrev cX10_lateNow : ByteArray := prog_12_method_36_code
def yX10_lateNow : MethodName := ⟨RX10, "lateNow", "()I"⟩
abbrev cX10_doneNow : ByteArray := prog_12_method_37_code
def yX10_doneNow : MethodName := ⟨RX10, "doneNow", "()I"⟩
abbrev cX10_scoreNow : ByteArray := prog_12_method_38_code
def yX10_scoreNow : MethodName := ⟨RX10, "scoreNow", "()I"⟩
abbrev cX10_asTold : ByteArray := prog_12_method_39_code
def yX10_asTold : MethodName := ⟨RX10, "asTold", "()V"⟩
abbrev cX10_scoreOf : ByteArray := prog_12_method_40_code
def yX10_scoreOf : MethodName := ⟨RX10, "scoreOf", "(I)I"⟩
abbrev cX10_evening : ByteArray := prog_12_method_41_code
def yX10_evening : MethodName := ⟨RX10, "evening", "(III)I"⟩
abbrev cX10_score : ByteArray := prog_12_method_42_code
def yX10_score : MethodName := ⟨RX10, "score", "(II)I"⟩
abbrev cX10_left : ByteArray := prog_12_method_43_code
def yX10_left : MethodName := ⟨RX10, "left", "(II)I"⟩
abbrev cX10_turns : ByteArray := prog_12_method_44_code
def yX10_turns : MethodName := ⟨RX10, "turns", "()Z"⟩
abbrev cX10_best : ByteArray := prog_12_method_45_code
def yX10_best : MethodName := ⟨RX10, "best", "(I)I"⟩
abbrev cX10_change : ByteArray := prog_12_method_46_code
def yX10_change : MethodName := ⟨RX10, "change", "(I)V"⟩
abbrev cX10_swapped : ByteArray := prog_12_method_47_code
def yX10_swapped : MethodName := ⟨RX10, "swapped", "()I"⟩
abbrev cX10_when : ByteArray := prog_12_method_48_code
def yX10_when : MethodName := ⟨RX10, "when", "(II)I"⟩
abbrev cX10_isNobodyLate : ByteArray := prog_12_method_49_code
def yX10_isNobodyLate : MethodName := ⟨RX10, "isNobodyLate", "(IJ)Z"⟩
abbrev cX10_fewest : ByteArray := prog_12_method_50_code
def yX10_fewest : MethodName := ⟨RX10, "fewest", "(II)I"⟩
abbrev cX10_bigger : ByteArray := prog_12_method_51_code
def yX10_bigger : MethodName := ⟨RX10, "bigger", "(II)I"⟩
abbrev cX10_tap : ByteArray := prog_12_method_52_code
def yX10_tap : MethodName := ⟨RX10, "tap", "(IIII)I"⟩
abbrev cX10_tenths : ByteArray := prog_12_method_53_code
def yX10_tenths : MethodName := ⟨RX10, "tenths", "(II)I"⟩
abbrev cX10_told : ByteArray := prog_12_method_54_code
def yX10_told : MethodName := ⟨RX10, "told", "(III)I"⟩
abbrev cX10_grief : ByteArray := prog_12_method_55_code
def yX10_grief : MethodName := ⟨RX10, "grief", "(I)I"⟩
abbrev cX10_looks : ByteArray := prog_12_method_56_code
def yX10_looks : MethodName := ⟨RX10, "looks", "(I)I"⟩
abbrev cX10_keep : ByteArray := prog_12_method_57_code
def yX10_keep : MethodName := ⟨RX10, "keep", "()I"⟩
abbrev cX10_back : ByteArray := prog_12_method_58_code
def yX10_back : MethodName := ⟨RX10, "back", "()I"⟩
abbrev cX10_count : ByteArray := prog_12_method_59_code
def yX10_count : MethodName := ⟨RX10, "count", "(I)I"⟩
def RJ13 : String := "java/lang/Long"
abbrev cJ13_bitCount_95d88 : ByteArray := prog_13_method_50_code
def yJ13_bitCount_95d88 : MethodName := ⟨RJ13, "bitCount", "(J)I"⟩
def RJ9 : String := "java/lang/Math"
abbrev cJ9_max_7cf53 : ByteArray := prog_14_method_65_code
def yJ9_max_7cf53 : MethodName := ⟨RJ9, "max", "(II)I"⟩
abbrev cJ9_min_7cf53 : ByteArray := prog_14_method_69_code
def yJ9_min_7cf53 : MethodName := ⟨RJ9, "min", "(II)I"⟩
def RJ10 : String := "java/lang/System"
def RL : String := "BathNightLaw"
abbrev cL_law : ByteArray := code
def yL_law : MethodName := ⟨RL, "law", "([I)Z"⟩
abbrev vwCl : List vw_C := [(RX0, TX0, 8), (RX1, TX1, 4), (RX2, TX2, 14), (RX3, TX3, 8), (RX4, TX4, 3), (RX5, TX5, 15), (RX6, TX6, 3), (RX7, TX7, 4), (RX8, TX8, 4), (RX9, TX9, 11), (RX10, TX10, 36)]
end
section
/-! tables: the instructions of each method, field and call links, by program -/
def zt_T : List (List Nat) := [[0, 0, 0, 1, 2, 0, 0, 0], [0, 0, 0, 3], [0, 0, 0, 0, 0, 0, 0, 0, 0, 0, 0, 0, 0, 0], [2, 2, 2, 0, 2, 0, 0, 0], [0, 0, 0], [3, 0, 0, 0, 0, 0, 2, 2, 0, 0, 0, 0, 0, 0, 2], [2, 0, 0], [2, 0, 0, 0], [2, 0, 1, 2], [2, 0, 2, 2, 2, 2, 2, 0, 2, 2, 2], [0, 2, 0, 0, 0, 2, 2, 2, 0, 1, 2, 0, 2, 2, 2, 2, 2, 2, 2, 2, 2, 2, 2, 2, 0, 0, 0, 0, 0, 0, 0, 0, 0, 3, 2, 2]]
def zt_own : List String := ["BathNight$Asked", "BathNight$Bath", "BathNight$Bather", "BathNight$Evening", "BathNight$Fire", "BathNight$House", "BathNight$Item", "BathNight$Tank", "BathNight$Wishes", "BathNight", "BathNightModel", "java/lang/Long", "java/lang/Math"]
/-- field links: by class: the pool's number, the class, the field, 1: of a nest mate -/
def zt_F : List (List (Nat × Nat × Nat × Nat)) := [[(9, 0, 4, 0), (15, 0, 0, 0), (19, 8, 1, 1), (24, 0, 1, 0), (25, 0, 2, 0), (28, 8, 2, 1), (32, 0, 3, 0), (33, 8, 0, 1), (40, 0, 5, 0), (43, 0, 6, 0), (46, 0, 7, 0), (59, 2, 1, 1), (64, 2, 9, 1)],
  [(9, 1, 0, 0), (15, 1, 2, 0), (18, 1, 3, 0), (22, 2, 12, 1), (27, 2, 4, 1), (30, 1, 1, 0), (31, 2, 8, 1), (34, 2, 0, 1), (37, 2, 2, 1), (40, 2, 3, 1), (43, 2, 1, 1), (44, 7, 3, 1)],
  [(9, 2, 0, 0), (21, 2, 1, 0), (24, 2, 2, 0), (27, 2, 3, 0), (30, 2, 4, 0), (33, 2, 5, 0), (36, 2, 6, 0), (39, 2, 7, 0), (42, 2, 8, 0), (45, 2, 9, 0), (48, 2, 10, 0), (51, 2, 11, 0), (54, 2, 12, 0), (57, 2, 13, 0)],
  [(12, 3, 0, 0), (21, 3, 1, 0), (28, 3, 2, 0), (32, 0, 2, 1), (42, 5, 12, 1), (54, 3, 5, 0), (68, 0, 7, 1), (92, 5, 5, 1), (102, 3, 3, 0), (113, 3, 4, 0), (117, 3, 6, 0), (120, 3, 7, 0), (123, 5, 14, 1), (132, 0, 0, 1), (150, 0, 1, 1), (153, 5, 13, 1), (160, 1, 3, 1), (164, 2, 9, 1), (167, 2, 0, 1), (170, 2, 7, 1), (173, 2, 11, 1), (176, 5, 11, 1), (183, 5, 10, 1), (186, 5, 9, 1), (193, 1, 0, 1), (196, 1, 2, 1), (197, 2, 10, 1), (200, 2, 4, 1), (203, 1, 1, 1), (206, 2, 12, 1), (207, 2, 13, 1)],
  [(9, 4, 0, 0), (15, 4, 1, 0), (18, 4, 2, 0), (21, 5, 6, 1), (27, 5, 7, 1)],
  [(9, 5, 6, 0), (15, 5, 7, 0), (20, 5, 14, 0), (30, 5, 0, 0), (34, 5, 1, 0), (38, 5, 2, 0), (41, 5, 3, 0), (44, 5, 4, 0), (47, 5, 5, 0), (50, 5, 8, 0), (53, 5, 9, 0), (56, 5, 10, 0), (59, 5, 11, 0), (62, 5, 12, 0), (65, 5, 13, 0), (84, 2, 5, 1), (87, 2, 9, 1), (90, 6, 1, 1), (114, 6, 2, 1), (137, 2, 7, 1), (140, 2, 0, 1), (143, 2, 8, 1), (150, 2, 11, 1), (153, 2, 6, 1)],
  [(9, 6, 0, 0), (15, 6, 2, 0), (19, 6, 1, 0)],
  [(9, 7, 0, 0), (15, 7, 2, 0), (19, 5, 1, 1), (30, 7, 1, 0), (31, 5, 2, 1), (35, 5, 3, 1), (38, 7, 3, 0), (39, 5, 4, 1)],
  [(9, 8, 0, 0), (15, 8, 3, 0), (21, 8, 1, 0), (25, 8, 2, 0)],
  [(9, 9, 0, 0), (16, 9, 2, 0), (23, 9, 3, 0), (27, 9, 4, 0), (33, 9, 5, 0), (37, 9, 6, 0), (44, 9, 8, 0), (51, 9, 9, 0), (55, 9, 10, 0), (59, 9, 1, 0), (79, 9, 7, 0), (82, 5, 13, 1), (95, 3, 0, 1), (108, 5, 1, 1), (121, 3, 2, 1), (125, 5, 9, 1), (134, 1, 0, 1), (137, 1, 1, 1), (140, 8, 0, 1), (143, 8, 1, 1), (146, 8, 2, 1), (163, 2, 10, 1), (166, 2, 11, 1), (169, 2, 12, 1), (170, 2, 13, 1), (173, 3, 1, 1), (177, 4, 2, 1), (182, 4, 0, 1), (203, 5, 8, 1), (206, 0, 2, 1), (207, 5, 12, 1), (210, 0, 3, 1), (221, 0, 5, 1), (224, 0, 6, 1), (227, 0, 7, 1), (230, 8, 3, 1), (236, 2, 5, 1), (243, 2, 9, 1)],
  [(7, 10, 1, 0), (13, 10, 5, 0), (16, 10, 6, 0), (19, 10, 7, 0), (22, 10, 10, 0), (25, 10, 12, 0), (28, 10, 13, 0), (31, 10, 14, 0), (35, 10, 15, 0), (38, 10, 16, 0), (41, 10, 17, 0), (44, 10, 18, 0), (47, 10, 19, 0), (50, 10, 20, 0), (53, 10, 21, 0), (56, 10, 22, 0), (59, 10, 23, 0), (62, 10, 34, 0), (65, 10, 35, 0), (75, 10, 8, 0), (79, 10, 9, 0), (83, 10, 11, 0), (90, 10, 0, 0), (95, 10, 2, 0), (98, 10, 4, 0), (123, 10, 3, 0), (156, 10, 31, 0), (159, 10, 32, 0), (168, 10, 33, 0), (172, 10, 27, 0), (178, 10, 24, 0), (181, 10, 25, 0), (184, 10, 26, 0), (191, 10, 28, 0), (194, 10, 29, 0), (197, 10, 30, 0)],
  [],
  []]
def zt_C : List (List (Nat × Int64)) := [[], [], [], [], [], [], [], [], [], [(150, -1)], [(93, 255), (166, -1)], [(314, 6148914691236517205), (316, 3689348814741910323), (318, 1085102592571150095)], []]
def zt_K : List (List (Nat × Int32)) := [[], [], [], [], [], [], [], [], [], [(198, 1000000)], [], [], []]
def tb_X0_init : List (Nat × Instr × Nat) := [(0, .aload_n 0, 1), (1, .invokespecial 3, 3), (4, .aload_n 0, 1), (5, .bipush 6, 2), (7, .newarray .int, 2), (9, .putfield 9, 3), (12, .return_, 1)]
def mm_X0_init : MethodName × ByteArray × Nat × Option FieldType × Nat × List (Nat × Instr × Nat) := (yX0_init, cX0_init, 1, none, 0, tb_X0_init)
def tb_X0_become : List (Nat × Instr × Nat) := [(0, .aload_n 0, 1), (1, .iload_n 1, 1), (2, .putfield 15, 3), (5, .aload_n 0, 1), (6, .aload_n 2, 1), (7, .getfield 19, 3), (10, .putfield 24, 3), (13, .aload_n 0, 1), (14, .iload_n 3, 1), (15, .putfield 25, 3), (18, .aload_n 0, 1), (19, .aload_n 2, 1), (20, .getfield 28, 3), (23, .putfield 32, 3), (26, .aload_n 2, 1), (27, .getfield 33, 3), (30, .iconst 0, 1), (31, .aload_n 0, 1), (32, .getfield 9, 3), (35, .iconst 0, 1), (36, .aload_n 0, 1), (37, .getfield 9, 3), (40, .arraylength, 1), (41, .invokestatic 34, 3), (44, .aload_n 0, 1), (45, .iconst 0, 1), (46, .putfield 40, 3), (49, .aload_n 0, 1), (50, .iconst 0, 1), (51, .putfield 43, 3), (54, .aload_n 0, 1), (55, .iconst 0, 1), (56, .putfield 46, 3), (59, .return_, 1)]
def mm_X0_become : MethodName × ByteArray × Nat × Option FieldType × Nat × List (Nat × Instr × Nat) := (yX0_become, cX0_become, 4, none, 0, tb_X0_become)
def tb_X0_copyRowTo : List (Nat × Instr × Nat) := [(0, .aload_n 0, 1), (1, .getfield 9, 3), (4, .iconst 0, 1), (5, .aload_n 1, 1), (6, .iconst 0, 1), (7, .aload_n 0, 1), (8, .getfield 9, 3), (11, .arraylength, 1), (12, .aload_n 1, 1), (13, .arraylength, 1), (14, .invokestatic 49, 3), (17, .invokestatic 34, 3), (20, .return_, 1)]
def mm_X0_copyRowTo : MethodName × ByteArray × Nat × Option FieldType × Nat × List (Nat × Instr × Nat) := (yX0_copyRowTo, cX0_copyRowTo, 2, none, 0, tb_X0_copyRowTo)
def tb_X0_rowByNumbers : List (Nat × Instr × Nat) := [(0, .iconst 0, 1), (1, .istore_n 1, 1), (2, .iload_n 1, 1), (3, .aload_n 0, 1), (4, .getfield 9, 3), (7, .arraylength, 1), (8, .if_icmp .ge 16, 3), (11, .aload_n 0, 1), (12, .getfield 9, 3), (15, .iload_n 1, 1), (16, .iload_n 1, 1), (17, .iastore, 1), (18, .iinc 1 1, 3), (21, .goto (-19), 3), (24, .return_, 1)]
def mm_X0_rowByNumbers : MethodName × ByteArray × Nat × Option FieldType × Nat × List (Nat × Instr × Nat) := (yX0_rowByNumbers, cX0_rowByNumbers, 2, none, 0, tb_X0_rowByNumbers)
def tb_X0_changePlaces : List (Nat × Instr × Nat) := [(0, .iload_n 1, 1), (1, .ifCond .lt 25, 3), (4, .iload_n 1, 1), (5, .aload_n 0, 1), (6, .getfield 9, 3), (9, .arraylength, 1), (10, .if_icmp .ge 16, 3), (13, .iload_n 2, 1), (14, .ifCond .lt 12, 3), (17, .iload_n 2, 1), (18, .aload_n 0, 1), (19, .getfield 9, 3), (22, .arraylength, 1), (23, .if_icmp .lt 4, 3), (26, .return_, 1), (27, .aload_n 0, 1), (28, .getfield 9, 3), (31, .iload_n 1, 1), (32, .iaload, 1), (33, .istore_n 3, 1), (34, .aload_n 0, 1), (35, .getfield 9, 3), (38, .iload_n 1, 1), (39, .aload_n 0, 1), (40, .getfield 9, 3), (43, .iload_n 2, 1), (44, .iaload, 1), (45, .iastore, 1), (46, .aload_n 0, 1), (47, .getfield 9, 3), (50, .iload_n 2, 1), (51, .iload_n 3, 1), (52, .iastore, 1), (53, .return_, 1)]
def mm_X0_changePlaces : MethodName × ByteArray × Nat × Option FieldType × Nat × List (Nat × Instr × Nat) := (yX0_changePlaces, cX0_changePlaces, 4, none, 0, tb_X0_changePlaces)
def tb_X0_nextRow : List (Nat × Instr × Nat) := [(0, .iload_n 1, 1), (1, .aload_n 0, 1), (2, .getfield 9, 3), (5, .arraylength, 1), (6, .invokestatic 49, 3), (9, .iconst 1, 1), (10, .isub, 1), (11, .istore_n 2, 1), (12, .iload_n 2, 1), (13, .iconst 1, 1), (14, .isub, 1), (15, .istore_n 3, 1), (16, .iload_n 3, 1), (17, .ifCond .lt 26, 3), (20, .aload_n 0, 1), (21, .getfield 9, 3), (24, .iload_n 3, 1), (25, .iaload, 1), (26, .aload_n 0, 1), (27, .getfield 9, 3), (30, .iload_n 3, 1), (31, .iconst 1, 1), (32, .iadd, 1), (33, .iaload, 1), (34, .if_icmp .le 9, 3), (37, .iinc 3 (-1), 3), (40, .goto (-24), 3), (43, .iload_n 3, 1), (44, .ifCond .ge 5, 3), (47, .iconst 0, 1), (48, .ireturn, 1), (49, .iload_n 2, 1), (50, .istore 4, 2), (52, .iload 4, 2), (54, .iload_n 3, 1), (55, .iconst 1, 1), (56, .iadd, 1), (57, .if_icmp .le 25, 3), (60, .aload_n 0, 1), (61, .getfield 9, 3), (64, .iload 4, 2), (66, .iaload, 1), (67, .aload_n 0, 1), (68, .getfield 9, 3), (71, .iload_n 3, 1), (72, .iaload, 1), (73, .if_icmp .ge 9, 3), (76, .iinc 4 (-1), 3), (79, .goto (-27), 3), (82, .aload_n 0, 1), (83, .iload_n 3, 1), (84, .iload 4, 2), (86, .invokevirtual 55, 3), (89, .iload_n 3, 1), (90, .iconst 1, 1), (91, .iadd, 1), (92, .istore 5, 2), (94, .iload_n 2, 1), (95, .istore 6, 2), (97, .iload 5, 2), (99, .iload 6, 2), (101, .if_icmp .ge 20, 3), (104, .aload_n 0, 1), (105, .iload 5, 2), (107, .iload 6, 2), (109, .invokevirtual 55, 3), (112, .iinc 5 1, 3), (115, .iinc 6 (-1), 3), (118, .goto (-21), 3), (121, .iconst 1, 1), (122, .ireturn, 1)]
def mm_X0_nextRow : MethodName × ByteArray × Nat × Option FieldType × Nat × List (Nat × Instr × Nat) := (yX0_nextRow, cX0_nextRow, 7, some FieldType.boolean, 0, tb_X0_nextRow)
def tb_X0_placeInRow : List (Nat × Instr × Nat) := [(0, .iload_n 1, 1), (1, .ifCond .lt 12, 3), (4, .iload_n 1, 1), (5, .aload_n 0, 1), (6, .getfield 9, 3), (9, .arraylength, 1), (10, .if_icmp .lt 8, 3), (13, .bipush (-4), 2), (15, .goto 9, 3), (18, .aload_n 0, 1), (19, .getfield 9, 3), (22, .iload_n 1, 1), (23, .iaload, 1), (24, .ireturn, 1)]
def mm_X0_placeInRow : MethodName × ByteArray × Nat × Option FieldType × Nat × List (Nat × Instr × Nat) := (yX0_placeInRow, cX0_placeInRow, 2, some FieldType.int, 0, tb_X0_placeInRow)
def tb_X0_plansFor : List (Nat × Instr × Nat) := [(0, .aload_n 0, 1), (1, .getfield 32, 3), (4, .iload_n 1, 1), (5, .lshr, 1), (6, .lconst 1, 1), (7, .land, 1), (8, .lconst 0, 1), (9, .lcmp, 1), (10, .ifCond .eq 7, 3), (13, .iconst 1, 1), (14, .goto 4, 3), (17, .iconst 0, 1), (18, .ireturn, 1)]
def mm_X0_plansFor : MethodName × ByteArray × Nat × Option FieldType × Nat × List (Nat × Instr × Nat) := (yX0_plansFor, cX0_plansFor, 2, some FieldType.boolean, 0, tb_X0_plansFor)
def tb_X0_tapsAt : List (Nat × Instr × Nat) := [(0, .iload_n 1, 1), (1, .aload_n 0, 1), (2, .getfield 40, 3), (5, .if_icmp .lt 20, 3), (8, .iload_n 1, 1), (9, .aload_n 0, 1), (10, .getfield 40, 3), (13, .aload_n 0, 1), (14, .getfield 43, 3), (17, .iadd, 1), (18, .if_icmp .ge 7, 3), (21, .iconst 1, 1), (22, .goto 4, 3), (25, .iconst 0, 1), (26, .ireturn, 1)]
def mm_X0_tapsAt : MethodName × ByteArray × Nat × Option FieldType × Nat × List (Nat × Instr × Nat) := (yX0_tapsAt, cX0_tapsAt, 2, some FieldType.boolean, 0, tb_X0_tapsAt)
def tb_X0_prefers : List (Nat × Instr × Nat) := [(0, .aload_n 0, 1), (1, .getfield 15, 3), (4, .iconst 3, 1), (5, .if_icmp .ne 22, 3), (8, .aload_n 1, 1), (9, .getfield 59, 3), (12, .aload_n 2, 1), (13, .getfield 59, 3), (16, .if_icmp .ge 7, 3), (19, .iconst 1, 1), (20, .goto 23, 3), (23, .iconst 0, 1), (24, .goto 19, 3), (27, .aload_n 1, 1), (28, .getfield 64, 3), (31, .aload_n 2, 1), (32, .getfield 64, 3), (35, .if_icmp .ge 7, 3), (38, .iconst 1, 1), (39, .goto 4, 3), (42, .iconst 0, 1), (43, .ireturn, 1)]
def mm_X0_prefers : MethodName × ByteArray × Nat × Option FieldType × Nat × List (Nat × Instr × Nat) := (yX0_prefers, cX0_prefers, 3, some FieldType.boolean, 0, tb_X0_prefers)
def tb_X1_init : List (Nat × Instr × Nat) := [(0, .aload_n 0, 1), (1, .invokespecial 3, 3), (4, .return_, 1)]
def mm_X1_init : MethodName × ByteArray × Nat × Option FieldType × Nat × List (Nat × Instr × Nat) := (yX1_init, cX1_init, 1, none, 1, tb_X1_init)
def tb_X1_isLeftBy : List (Nat × Instr × Nat) := [(0, .aload_n 0, 1), (1, .iconst 0, 1), (2, .putfield 9, 3), (5, .aload_n 0, 1), (6, .iconst 0, 1), (7, .putfield 15, 3), (10, .aload_n 0, 1), (11, .iconst 1, 1), (12, .putfield 18, 3), (15, .aload_n 0, 1), (16, .aload_n 1, 1), (17, .getfield 22, 3), (20, .iload_n 3, 1), (21, .aload_n 1, 1), (22, .getfield 27, 3), (25, .imul, 1), (26, .isub, 1), (27, .putfield 30, 3), (30, .aload_n 2, 1), (31, .getfield 31, 3), (34, .aload_n 1, 1), (35, .getfield 34, 3), (38, .iand, 1), (39, .ifCond .eq 29, 3), (42, .aload_n 0, 1), (43, .getfield 30, 3), (46, .aload_n 2, 1), (47, .getfield 37, 3), (50, .if_icmp .lt 18, 3), (53, .aload_n 0, 1), (54, .getfield 30, 3), (57, .aload_n 2, 1), (58, .getfield 40, 3), (61, .if_icmp .gt 7, 3), (64, .iconst 1, 1), (65, .goto 4, 3), (68, .iconst 0, 1), (69, .ireturn, 1)]
def mm_X1_isLeftBy : MethodName × ByteArray × Nat × Option FieldType × Nat × List (Nat × Instr × Nat) := (yX1_isLeftBy, cX1_isLeftBy, 4, some FieldType.boolean, 1, tb_X1_isLeftBy)
def tb_X1_comesFrom : List (Nat × Instr × Nat) := [(0, .aload_n 2, 1), (1, .getfield 43, 3), (4, .istore 4, 2), (6, .iload 4, 2), (8, .iconst 1, 1), (9, .if_icmp .ge 5, 3), (12, .iconst 0, 1), (13, .ireturn, 1), (14, .aload_n 0, 1), (15, .iconst 0, 1), (16, .putfield 18, 3), (19, .aload_n 0, 1), (20, .iload_n 3, 1), (21, .iload 4, 2), (23, .if_icmp .gt 7, 3), (26, .iload_n 3, 1), (27, .goto 4, 3), (30, .iconst 0, 1), (31, .putfield 15, 3), (34, .bipush 100, 2), (36, .aload_n 0, 1), (37, .getfield 15, 3), (40, .imul, 1), (41, .aload_n 1, 1), (42, .getfield 44, 3), (45, .iload 4, 2), (47, .aload_n 0, 1), (48, .getfield 15, 3), (51, .isub, 1), (52, .imul, 1), (53, .iadd, 1), (54, .istore 5, 2), (56, .aload_n 0, 1), (57, .aload_n 1, 1), (58, .aload_n 2, 1), (59, .getfield 37, 3), (62, .iload 4, 2), (64, .imul, 1), (65, .iload 5, 2), (67, .isub, 1), (68, .iload 4, 2), (70, .aload_n 0, 1), (71, .getfield 15, 3), (74, .isub, 1), (75, .invokevirtual 49, 3), (78, .putfield 9, 3), (81, .aload_n 0, 1), (82, .getfield 9, 3), (85, .bipush (-4), 2), (87, .if_icmp .ne 5, 3), (90, .iconst 0, 1), (91, .ireturn, 1), (92, .aload_n 0, 1), (93, .iload 5, 2), (95, .aload_n 1, 1), (96, .aload_n 0, 1), (97, .getfield 9, 3), (100, .invokevirtual 53, 3), (103, .iadd, 1), (104, .aload_n 1, 1), (105, .getfield 44, 3), (108, .aload_n 0, 1), (109, .getfield 9, 3), (112, .imul, 1), (113, .isub, 1), (114, .iload 4, 2), (116, .idiv, 1), (117, .putfield 30, 3), (120, .aload_n 0, 1), (121, .getfield 30, 3), (124, .aload_n 2, 1), (125, .getfield 40, 3), (128, .if_icmp .gt 7, 3), (131, .iconst 1, 1), (132, .goto 4, 3), (135, .iconst 0, 1), (136, .ireturn, 1)]
def mm_X1_comesFrom : MethodName × ByteArray × Nat × Option FieldType × Nat × List (Nat × Instr × Nat) := (yX1_comesFrom, cX1_comesFrom, 6, some FieldType.boolean, 1, tb_X1_comesFrom)
def tb_X2_init : List (Nat × Instr × Nat) := [(0, .aload_n 0, 1), (1, .invokespecial 3, 3), (4, .aload_n 0, 1), (5, .iconst 1, 1), (6, .iload_n 1, 1), (7, .ishl, 1), (8, .putfield 9, 3), (11, .return_, 1)]
def mm_X2_init : MethodName × ByteArray × Nat × Option FieldType × Nat × List (Nat × Instr × Nat) := (yX2_init, cX2_init, 2, none, 2, tb_X2_init)
def tb_X2_become : List (Nat × Instr × Nat) := [(0, .aload_n 0, 1), (1, .aload_n 1, 1), (2, .iconst 0, 1), (3, .invokevirtual 15, 3), (6, .putfield 21, 3), (9, .aload_n 0, 1), (10, .aload_n 1, 1), (11, .iconst 1, 1), (12, .invokevirtual 15, 3), (15, .putfield 24, 3), (18, .aload_n 0, 1), (19, .aload_n 1, 1), (20, .iconst 2, 1), (21, .invokevirtual 15, 3), (24, .putfield 27, 3), (27, .aload_n 0, 1), (28, .aload_n 1, 1), (29, .iconst 3, 1), (30, .invokevirtual 15, 3), (33, .putfield 30, 3), (36, .aload_n 0, 1), (37, .aload_n 1, 1), (38, .iconst 4, 1), (39, .invokevirtual 15, 3), (42, .putfield 33, 3), (45, .aload_n 0, 1), (46, .aload_n 1, 1), (47, .iconst 5, 1), (48, .invokevirtual 15, 3), (51, .putfield 36, 3), (54, .aload_n 0, 1), (55, .iconst 0, 1), (56, .putfield 39, 3), (59, .aload_n 0, 1), (60, .iconst 0, 1), (61, .putfield 42, 3), (64, .return_, 1)]
def mm_X2_become : MethodName × ByteArray × Nat × Option FieldType × Nat × List (Nat × Instr × Nat) := (yX2_become, cX2_become, 2, none, 2, tb_X2_become)
def tb_X2_becomeLike : List (Nat × Instr × Nat) := [(0, .aload_n 0, 1), (1, .aload_n 1, 1), (2, .getfield 21, 3), (5, .putfield 21, 3), (8, .aload_n 0, 1), (9, .aload_n 1, 1), (10, .getfield 24, 3), (13, .putfield 24, 3), (16, .aload_n 0, 1), (17, .aload_n 1, 1), (18, .getfield 27, 3), (21, .putfield 27, 3), (24, .aload_n 0, 1), (25, .aload_n 1, 1), (26, .getfield 30, 3), (29, .putfield 30, 3), (32, .aload_n 0, 1), (33, .aload_n 1, 1), (34, .getfield 33, 3), (37, .putfield 33, 3), (40, .aload_n 0, 1), (41, .aload_n 1, 1), (42, .getfield 36, 3), (45, .putfield 36, 3), (48, .aload_n 0, 1), (49, .aload_n 1, 1), (50, .getfield 39, 3), (53, .putfield 39, 3), (56, .aload_n 0, 1), (57, .aload_n 1, 1), (58, .getfield 42, 3), (61, .putfield 42, 3), (64, .aload_n 0, 1), (65, .aload_n 1, 1), (66, .getfield 45, 3), (69, .putfield 45, 3), (72, .return_, 1)]
def mm_X2_becomeLike : MethodName × ByteArray × Nat × Option FieldType × Nat × List (Nat × Instr × Nat) := (yX2_becomeLike, cX2_becomeLike, 2, none, 2, tb_X2_becomeLike)
def tb_X2_toldOf : List (Nat × Instr × Nat) := [(0, .iload_n 1, 1), (1, .tableswitch 78 0 6 #[43, 48, 53, 58, 63, 68, 73], 43), (44, .aload_n 0, 1), (45, .getfield 21, 3), (48, .ireturn, 1), (49, .aload_n 0, 1), (50, .getfield 24, 3), (53, .ireturn, 1), (54, .aload_n 0, 1), (55, .getfield 27, 3), (58, .ireturn, 1), (59, .aload_n 0, 1), (60, .getfield 30, 3), (63, .ireturn, 1), (64, .aload_n 0, 1), (65, .getfield 33, 3), (68, .ireturn, 1), (69, .aload_n 0, 1), (70, .getfield 36, 3), (73, .ireturn, 1), (74, .aload_n 0, 1), (75, .getfield 39, 3), (78, .ireturn, 1), (79, .aload_n 0, 1), (80, .getfield 42, 3), (83, .ireturn, 1)]
def mm_X2_toldOf : MethodName × ByteArray × Nat × Option FieldType × Nat × List (Nat × Instr × Nat) := (yX2_toldOf, cX2_toldOf, 2, some FieldType.int, 2, tb_X2_toldOf)
def tb_X2_isNotInYet : List (Nat × Instr × Nat) := [(0, .aload_n 0, 1), (1, .bipush (-4), 2), (3, .putfield 48, 3), (6, .aload_n 0, 1), (7, .bipush (-4), 2), (9, .putfield 51, 3), (12, .aload_n 0, 1), (13, .bipush (-4), 2), (15, .putfield 54, 3), (18, .aload_n 0, 1), (19, .bipush (-4), 2), (21, .putfield 57, 3), (24, .return_, 1)]
def mm_X2_isNotInYet : MethodName × ByteArray × Nat × Option FieldType × Nat × List (Nat × Instr × Nat) := (yX2_isNotInYet, cX2_isNotInYet, 1, none, 2, tb_X2_isNotInYet)
def tb_X3_init : List (Nat × Instr × Nat) := [(0, .aload_n 0, 1), (1, .invokespecial 3, 3), (4, .aload_n 0, 1), (5, .new 9, 3), (8, .dup, 1), (9, .invokespecial 11, 3), (12, .putfield 12, 3), (15, .aload_n 0, 1), (16, .new 18, 3), (19, .dup, 1), (20, .invokespecial 20, 3), (23, .putfield 21, 3), (26, .aload_n 0, 1), (27, .new 25, 3), (30, .dup, 1), (31, .invokespecial 27, 3), (34, .putfield 28, 3), (37, .return_, 1)]
def mm_X3_init : MethodName × ByteArray × Nat × Option FieldType × Nat × List (Nat × Instr × Nat) := (yX3_init, cX3_init, 1, none, 3, tb_X3_init)
def tb_X3_run : List (Nat × Instr × Nat) := [(0, .aload_n 0, 1), (1, .aload_n 1, 1), (2, .aload_n 2, 1), (3, .getfield 32, 3), (6, .invokevirtual 38, 3), (9, .iconst 0, 1), (10, .istore_n 3, 1), (11, .iload_n 3, 1), (12, .aload_n 1, 1), (13, .getfield 42, 3), (16, .if_icmp .ge 131, 3), (19, .aload_n 2, 1), (20, .iload_n 3, 1), (21, .invokevirtual 47, 3), (24, .ifCond .eq 10, 3), (27, .aload_n 0, 1), (28, .getfield 21, 3), (31, .invokevirtual 51, 3), (34, .iload_n 3, 1), (35, .aload_n 0, 1), (36, .getfield 54, 3), (39, .if_icmp .ge 7, 3), (42, .aconst_null, 1), (43, .goto 10, 3), (46, .aload_n 0, 1), (47, .aload_n 1, 1), (48, .aload_n 2, 1), (49, .iload_n 3, 1), (50, .invokevirtual 57, 3), (53, .astore 4, 2), (55, .aload 4, 2), (57, .ifnull 11, 3), (60, .aload_n 0, 1), (61, .aload_n 1, 1), (62, .aload 4, 2), (64, .iload_n 3, 1), (65, .invokevirtual 61, 3), (68, .aload_n 2, 1), (69, .iload_n 3, 1), (70, .invokevirtual 65, 3), (73, .ifCond .eq 24, 3), (76, .aload_n 0, 1), (77, .getfield 12, 3), (80, .aload_n 2, 1), (81, .getfield 68, 3), (84, .aload_n 0, 1), (85, .getfield 12, 3), (88, .invokevirtual 71, 3), (91, .invokestatic 75, 3), (94, .invokevirtual 81, 3), (97, .aload_n 0, 1), (98, .getfield 12, 3), (101, .aload_n 0, 1), (102, .getfield 21, 3), (105, .aload_n 1, 1), (106, .invokevirtual 85, 3), (109, .invokevirtual 89, 3), (112, .aload_n 0, 1), (113, .getfield 12, 3), (116, .aload_n 1, 1), (117, .getfield 92, 3), (120, .invokevirtual 95, 3), (123, .aload_n 0, 1), (124, .getfield 21, 3), (127, .aload_n 1, 1), (128, .invokevirtual 98, 3), (131, .aload_n 0, 1), (132, .dup, 1), (133, .getfield 102, 3), (136, .iconst 1, 1), (137, .iadd, 1), (138, .putfield 102, 3), (141, .iinc 3 1, 3), (144, .goto (-133), 3), (147, .aload_n 1, 1), (148, .invokevirtual 105, 3), (151, .ireturn, 1)]
def mm_X3_run : MethodName × ByteArray × Nat × Option FieldType × Nat × List (Nat × Instr × Nat) := (yX3_run, cX3_run, 5, some FieldType.int, 3, tb_X3_run)
def tb_X3_begin : List (Nat × Instr × Nat) := [(0, .aload_n 0, 1), (1, .getfield 12, 3), (4, .aload_n 1, 1), (5, .invokevirtual 108, 3), (8, .aload_n 0, 1), (9, .getfield 21, 3), (12, .iload_n 2, 1), (13, .invokevirtual 111, 3), (16, .aload_n 0, 1), (17, .iconst 0, 1), (18, .putfield 102, 3), (21, .aload_n 0, 1), (22, .aconst_null, 1), (23, .putfield 113, 3), (26, .aload_n 0, 1), (27, .iconst 0, 1), (28, .putfield 54, 3), (31, .aload_n 0, 1), (32, .iconst 0, 1), (33, .putfield 117, 3), (36, .aload_n 0, 1), (37, .iconst 0, 1), (38, .putfield 120, 3), (41, .aload_n 1, 1), (42, .getfield 123, 3), (45, .astore_n 3, 1), (46, .aload_n 3, 1), (47, .arraylength, 1), (48, .istore 4, 2), (50, .iconst 0, 1), (51, .istore 5, 2), (53, .iload 5, 2), (55, .iload 4, 2), (57, .if_icmp .ge 20, 3), (60, .aload_n 3, 1), (61, .iload 5, 2), (63, .aaload, 1), (64, .astore 6, 2), (66, .aload 6, 2), (68, .invokevirtual 127, 3), (71, .iinc 5 1, 3), (74, .goto (-21), 3), (77, .return_, 1)]
def mm_X3_begin : MethodName × ByteArray × Nat × Option FieldType × Nat × List (Nat × Instr × Nat) := (yX3_begin, cX3_begin, 7, none, 3, tb_X3_begin)
def tb_X3_chosen : List (Nat × Instr × Nat) := [(0, .aload_n 2, 1), (1, .getfield 132, 3), (4, .ifCond .ne 40, 3), (7, .aload_n 1, 1), (8, .aload_n 2, 1), (9, .aload_n 0, 1), (10, .getfield 120, 3), (13, .invokevirtual 135, 3), (16, .invokevirtual 139, 3), (19, .astore 4, 2), (21, .aload 4, 2), (23, .ifnull 19, 3), (26, .aload_n 0, 1), (27, .aload_n 1, 1), (28, .aload 4, 2), (30, .iload_n 3, 1), (31, .invokevirtual 143, 3), (34, .ifCond .eq 8, 3), (37, .aload 4, 2), (39, .goto 4, 3), (42, .aconst_null, 1), (43, .areturn, 1), (44, .aload_n 2, 1), (45, .getfield 132, 3), (48, .iconst 2, 1), (49, .if_icmp .ne 18, 3), (52, .aload_n 0, 1), (53, .getfield 12, 3), (56, .iconst 0, 1), (57, .invokevirtual 147, 3), (60, .aload_n 2, 1), (61, .getfield 150, 3), (64, .if_icmp .lt 7, 3), (67, .iconst 1, 1), (68, .goto 4, 3), (71, .iconst 0, 1), (72, .istore 4, 2), (74, .aconst_null, 1), (75, .astore 5, 2), (77, .iconst 0, 1), (78, .istore 6, 2), (80, .iload 6, 2), (82, .aload_n 1, 1), (83, .getfield 153, 3), (86, .if_icmp .ge 68, 3), (89, .aload_n 1, 1), (90, .iload 6, 2), (92, .invokevirtual 139, 3), (95, .astore 7, 2), (97, .aload 7, 2), (99, .ifnull 49, 3), (102, .aload 5, 2), (104, .ifnull 14, 3), (107, .aload_n 2, 1), (108, .aload 7, 2), (110, .aload 5, 2), (112, .invokevirtual 156, 3), (115, .ifCond .eq 33, 3), (118, .aload_n 0, 1), (119, .aload_n 1, 1), (120, .aload 7, 2), (122, .iload_n 3, 1), (123, .invokevirtual 143, 3), (126, .ifCond .eq 22, 3), (129, .iload 4, 2), (131, .ifCond .ne 13, 3), (134, .aload_n 0, 1), (135, .getfield 28, 3), (138, .getfield 160, 3), (141, .ifCond .eq 7, 3), (144, .aload 7, 2), (146, .astore 5, 2), (148, .iinc 6 1, 3), (151, .goto (-71), 3), (154, .aload 5, 2), (156, .areturn, 1)]
def mm_X3_chosen : MethodName × ByteArray × Nat × Option FieldType × Nat × List (Nat × Instr × Nat) := (yX3_chosen, cX3_chosen, 8, some (FieldType.object "BathNight$Bather"), 3, tb_X3_chosen)
def tb_X3_can : List (Nat × Instr × Nat) := [(0, .aload_n 2, 1), (1, .getfield 164, 3), (4, .iload_n 3, 1), (5, .if_icmp .gt 29, 3), (8, .aload_n 0, 1), (9, .getfield 117, 3), (12, .aload_n 2, 1), (13, .getfield 167, 3), (16, .iand, 1), (17, .ifCond .ne 17, 3), (20, .aload_n 2, 1), (21, .getfield 170, 3), (24, .aload_n 0, 1), (25, .getfield 117, 3), (28, .iconst (-1), 1), (29, .ixor, 1), (30, .iand, 1), (31, .ifCond .eq 5, 3), (34, .iconst 0, 1), (35, .ireturn, 1), (36, .aload_n 0, 1), (37, .getfield 113, 3), (40, .ifnull 35, 3), (43, .aload_n 0, 1), (44, .getfield 113, 3), (47, .getfield 173, 3), (50, .iload_n 3, 1), (51, .if_icmp .ne 24, 3), (54, .aload_n 0, 1), (55, .getfield 28, 3), (58, .aload_n 0, 1), (59, .getfield 113, 3), (62, .aload_n 2, 1), (63, .aload_n 1, 1), (64, .getfield 176, 3), (67, .invokevirtual 179, 3), (70, .ifCond .eq 5, 3), (73, .iconst 1, 1), (74, .ireturn, 1), (75, .aload_n 0, 1), (76, .getfield 28, 3), (79, .aload_n 0, 1), (80, .getfield 12, 3), (83, .aload_n 2, 1), (84, .aload_n 0, 1), (85, .getfield 102, 3), (88, .aload_n 1, 1), (89, .getfield 183, 3), (92, .if_icmp .lt 10, 3), (95, .aload_n 1, 1), (96, .getfield 186, 3), (99, .goto 4, 3), (102, .iconst 0, 1), (103, .invokevirtual 189, 3), (106, .ireturn, 1)]
def mm_X3_can : MethodName × ByteArray × Nat × Option FieldType × Nat × List (Nat × Instr × Nat) := (yX3_can, cX3_can, 4, some FieldType.boolean, 3, tb_X3_can)
def tb_X3_goesIn : List (Nat × Instr × Nat) := [(0, .aload_n 0, 1), (1, .aload_n 1, 1), (2, .aload_n 2, 1), (3, .iload_n 3, 1), (4, .invokevirtual 143, 3), (7, .ifCond .ne 4, 3), (10, .return_, 1), (11, .aload_n 0, 1), (12, .getfield 12, 3), (15, .aload_n 0, 1), (16, .getfield 28, 3), (19, .getfield 193, 3), (22, .invokevirtual 81, 3), (25, .aload_n 0, 1), (26, .getfield 28, 3), (29, .getfield 196, 3), (32, .ifCond .le 8, 3), (35, .aload_n 0, 1), (36, .iconst 0, 1), (37, .putfield 102, 3), (40, .aload_n 2, 1), (41, .iload_n 3, 1), (42, .putfield 197, 3), (45, .aload_n 2, 1), (46, .iload_n 3, 1), (47, .aload_n 2, 1), (48, .getfield 200, 3), (51, .iadd, 1), (52, .putfield 173, 3), (55, .aload_n 2, 1), (56, .aload_n 0, 1), (57, .getfield 28, 3), (60, .getfield 203, 3), (63, .putfield 206, 3), (66, .aload_n 2, 1), (67, .aload_n 0, 1), (68, .getfield 28, 3), (71, .getfield 193, 3), (74, .putfield 207, 3), (77, .aload_n 0, 1), (78, .aload_n 2, 1), (79, .putfield 113, 3), (82, .aload_n 0, 1), (83, .aload_n 2, 1), (84, .getfield 173, 3), (87, .putfield 54, 3), (90, .aload_n 0, 1), (91, .dup, 1), (92, .getfield 117, 3), (95, .aload_n 2, 1), (96, .getfield 167, 3), (99, .ior, 1), (100, .putfield 117, 3), (103, .aload_n 0, 1), (104, .dup, 1), (105, .getfield 120, 3), (108, .iconst 1, 1), (109, .iadd, 1), (110, .putfield 120, 3), (113, .return_, 1)]
def mm_X3_goesIn : MethodName × ByteArray × Nat × Option FieldType × Nat × List (Nat × Instr × Nat) := (yX3_goesIn, cX3_goesIn, 4, none, 3, tb_X3_goesIn)
def tb_X4_init : List (Nat × Instr × Nat) := [(0, .aload_n 0, 1), (1, .invokespecial 3, 3), (4, .return_, 1)]
def mm_X4_init : MethodName × ByteArray × Nat × Option FieldType × Nat × List (Nat × Instr × Nat) := (yX4_init, cX4_init, 1, none, 4, tb_X4_init)
def tb_X4_begin : List (Nat × Instr × Nat) := [(0, .aload_n 0, 1), (1, .iconst 0, 1), (2, .putfield 9, 3), (5, .aload_n 0, 1), (6, .iconst 0, 1), (7, .putfield 15, 3), (10, .aload_n 0, 1), (11, .iload_n 1, 1), (12, .putfield 18, 3), (15, .return_, 1)]
def mm_X4_begin : MethodName × ByteArray × Nat × Option FieldType × Nat × List (Nat × Instr × Nat) := (yX4_begin, cX4_begin, 2, none, 4, tb_X4_begin)
def tb_X4_makeUp : List (Nat × Instr × Nat) := [(0, .aload_n 0, 1), (1, .getfield 18, 3), (4, .ifCond .le 23, 3), (7, .aload_n 0, 1), (8, .dup, 1), (9, .getfield 18, 3), (12, .iconst 1, 1), (13, .isub, 1), (14, .putfield 18, 3), (17, .aload_n 0, 1), (18, .iconst 3, 1), (19, .putfield 9, 3), (22, .aload_n 0, 1), (23, .iconst 0, 1), (24, .putfield 15, 3), (27, .return_, 1)]
def mm_X4_makeUp : MethodName × ByteArray × Nat × Option FieldType × Nat × List (Nat × Instr × Nat) := (yX4_makeUp, cX4_makeUp, 1, none, 4, tb_X4_makeUp)
def tb_X4_gives : List (Nat × Instr × Nat) := [(0, .aload_n 0, 1), (1, .getfield 9, 3), (4, .iconst 1, 1), (5, .if_icmp .lt 11, 3), (8, .aload_n 0, 1), (9, .getfield 9, 3), (12, .iconst 3, 1), (13, .if_icmp .le 7, 3), (16, .iconst 0, 1), (17, .goto 12, 3), (20, .aload_n 1, 1), (21, .getfield 21, 3), (24, .aload_n 0, 1), (25, .getfield 9, 3), (28, .iaload, 1), (29, .ireturn, 1)]
def mm_X4_gives : MethodName × ByteArray × Nat × Option FieldType × Nat × List (Nat × Instr × Nat) := (yX4_gives, cX4_gives, 2, some FieldType.int, 4, tb_X4_gives)
def tb_X4_getOlder : List (Nat × Instr × Nat) := [(0, .aload_n 0, 1), (1, .getfield 9, 3), (4, .iconst 1, 1), (5, .if_icmp .lt 11, 3), (8, .aload_n 0, 1), (9, .getfield 9, 3), (12, .iconst 3, 1), (13, .if_icmp .le 4, 3), (16, .return_, 1), (17, .aload_n 0, 1), (18, .dup, 1), (19, .getfield 15, 3), (22, .iconst 1, 1), (23, .iadd, 1), (24, .putfield 15, 3), (27, .aload_n 0, 1), (28, .getfield 15, 3), (31, .aload_n 1, 1), (32, .getfield 27, 3), (35, .aload_n 0, 1), (36, .getfield 9, 3), (39, .iaload, 1), (40, .if_icmp .lt 18, 3), (43, .aload_n 0, 1), (44, .dup, 1), (45, .getfield 9, 3), (48, .iconst 1, 1), (49, .isub, 1), (50, .putfield 9, 3), (53, .aload_n 0, 1), (54, .iconst 0, 1), (55, .putfield 15, 3), (58, .return_, 1)]
def mm_X4_getOlder : MethodName × ByteArray × Nat × Option FieldType × Nat × List (Nat × Instr × Nat) := (yX4_getOlder, cX4_getOlder, 2, none, 4, tb_X4_getOlder)
def tb_X5_init : List (Nat × Instr × Nat) := [(0, .aload_n 0, 1), (1, .invokespecial 3, 3), (4, .aload_n 0, 1), (5, .iconst 4, 1), (6, .newarray .int, 2), (8, .putfield 9, 3), (11, .aload_n 0, 1), (12, .iconst 4, 1), (13, .newarray .int, 2), (15, .putfield 15, 3), (18, .aload_n 0, 1), (19, .bipush 6, 2), (21, .anewarray 18, 3), (24, .putfield 20, 3), (27, .iconst 0, 1), (28, .istore_n 1, 1), (29, .iload_n 1, 1), (30, .aload_n 0, 1), (31, .getfield 20, 3), (34, .arraylength, 1), (35, .if_icmp .ge 23, 3), (38, .aload_n 0, 1), (39, .getfield 20, 3), (42, .iload_n 1, 1), (43, .new 18, 3), (46, .dup, 1), (47, .iload_n 1, 1), (48, .invokespecial 24, 3), (51, .aastore, 1), (52, .iinc 1 1, 3), (55, .goto (-26), 3), (58, .aload_n 0, 1), (59, .invokevirtual 27, 3), (62, .return_, 1)]
def mm_X5_init : MethodName × ByteArray × Nat × Option FieldType × Nat × List (Nat × Instr × Nat) := (yX5_init, cX5_init, 2, none, 5, tb_X5_init)
def tb_X5_clear : List (Nat × Instr × Nat) := [(0, .aload_n 0, 1), (1, .iconst 0, 1), (2, .putfield 30, 3), (5, .aload_n 0, 1), (6, .iconst 1, 1), (7, .putfield 34, 3), (10, .aload_n 0, 1), (11, .bipush 10, 2), (13, .putfield 38, 3), (16, .aload_n 0, 1), (17, .bipush 10, 2), (19, .putfield 41, 3), (22, .aload_n 0, 1), (23, .bipush 10, 2), (25, .putfield 44, 3), (28, .aload_n 0, 1), (29, .iconst 0, 1), (30, .putfield 47, 3), (33, .iconst 0, 1), (34, .istore_n 1, 1), (35, .iload_n 1, 1), (36, .iconst 3, 1), (37, .if_icmp .gt 23, 3), (40, .aload_n 0, 1), (41, .getfield 9, 3), (44, .iload_n 1, 1), (45, .iconst 0, 1), (46, .iastore, 1), (47, .aload_n 0, 1), (48, .getfield 15, 3), (51, .iload_n 1, 1), (52, .iconst 1, 1), (53, .iastore, 1), (54, .iinc 1 1, 3), (57, .goto (-22), 3), (60, .aload_n 0, 1), (61, .iconst 0, 1), (62, .putfield 50, 3), (65, .aload_n 0, 1), (66, .iconst 0, 1), (67, .putfield 53, 3), (70, .aload_n 0, 1), (71, .iconst 1, 1), (72, .putfield 56, 3), (75, .aload_n 0, 1), (76, .iconst 1, 1), (77, .putfield 59, 3), (80, .aload_n 0, 1), (81, .bipush 40, 2), (83, .putfield 62, 3), (86, .aload_n 0, 1), (87, .iconst 0, 1), (88, .putfield 65, 3), (91, .return_, 1)]
def mm_X5_clear : MethodName × ByteArray × Nat × Option FieldType × Nat × List (Nat × Instr × Nat) := (yX5_clear, cX5_clear, 2, none, 5, tb_X5_clear)
def tb_X5_becomeLike : List (Nat × Instr × Nat) := [(0, .aload_n 0, 1), (1, .aload_n 1, 1), (2, .getfield 34, 3), (5, .putfield 34, 3), (8, .aload_n 0, 1), (9, .aload_n 1, 1), (10, .getfield 38, 3), (13, .putfield 38, 3), (16, .aload_n 0, 1), (17, .aload_n 1, 1), (18, .getfield 41, 3), (21, .putfield 41, 3), (24, .aload_n 0, 1), (25, .aload_n 1, 1), (26, .getfield 44, 3), (29, .putfield 44, 3), (32, .aload_n 0, 1), (33, .aload_n 1, 1), (34, .getfield 47, 3), (37, .putfield 47, 3), (40, .aload_n 1, 1), (41, .getfield 9, 3), (44, .iconst 0, 1), (45, .aload_n 0, 1), (46, .getfield 9, 3), (49, .iconst 0, 1), (50, .aload_n 0, 1), (51, .getfield 9, 3), (54, .arraylength, 1), (55, .invokestatic 68, 3), (58, .aload_n 1, 1), (59, .getfield 15, 3), (62, .iconst 0, 1), (63, .aload_n 0, 1), (64, .getfield 15, 3), (67, .iconst 0, 1), (68, .aload_n 0, 1), (69, .getfield 15, 3), (72, .arraylength, 1), (73, .invokestatic 68, 3), (76, .aload_n 0, 1), (77, .aload_n 1, 1), (78, .getfield 50, 3), (81, .putfield 50, 3), (84, .aload_n 0, 1), (85, .aload_n 1, 1), (86, .getfield 53, 3), (89, .putfield 53, 3), (92, .aload_n 0, 1), (93, .aload_n 1, 1), (94, .getfield 56, 3), (97, .putfield 56, 3), (100, .aload_n 0, 1), (101, .aload_n 1, 1), (102, .getfield 59, 3), (105, .putfield 59, 3), (108, .aload_n 0, 1), (109, .aload_n 1, 1), (110, .getfield 62, 3), (113, .putfield 62, 3), (116, .aload_n 0, 1), (117, .aload_n 1, 1), (118, .getfield 65, 3), (121, .putfield 65, 3), (124, .iconst 0, 1), (125, .istore_n 2, 1), (126, .iload_n 2, 1), (127, .aload_n 0, 1), (128, .getfield 20, 3), (131, .arraylength, 1), (132, .if_icmp .ge 24, 3), (135, .aload_n 0, 1), (136, .getfield 20, 3), (139, .iload_n 2, 1), (140, .aaload, 1), (141, .aload_n 1, 1), (142, .getfield 20, 3), (145, .iload_n 2, 1), (146, .aaload, 1), (147, .invokevirtual 74, 3), (150, .iinc 2 1, 3), (153, .goto (-27), 3), (156, .return_, 1)]
def mm_X5_becomeLike : MethodName × ByteArray × Nat × Option FieldType × Nat × List (Nat × Instr × Nat) := (yX5_becomeLike, cX5_becomeLike, 3, none, 5, tb_X5_becomeLike)
def tb_X5_grow : List (Nat × Instr × Nat) := [(0, .iload_n 1, 1), (1, .ifCond .ne 16, 3), (4, .aload_n 0, 1), (5, .dup, 1), (6, .getfield 34, 3), (9, .iconst 1, 1), (10, .iadd, 1), (11, .putfield 34, 3), (14, .goto 76, 3), (17, .iload_n 1, 1), (18, .iconst 1, 1), (19, .if_icmp .ne 16, 3), (22, .aload_n 0, 1), (23, .dup, 1), (24, .getfield 47, 3), (27, .iconst 2, 1), (28, .idiv, 1), (29, .putfield 47, 3), (32, .goto 58, 3), (35, .iload_n 1, 1), (36, .iconst 2, 1), (37, .if_icmp .ne 37, 3), (40, .iconst 1, 1), (41, .istore_n 2, 1), (42, .iload_n 2, 1), (43, .iconst 3, 1), (44, .if_icmp .gt 27, 3), (47, .aload_n 0, 1), (48, .getfield 9, 3), (51, .iload_n 2, 1), (52, .dup2, 1), (53, .iaload, 1), (54, .aload_n 0, 1), (55, .getfield 9, 3), (58, .iload_n 2, 1), (59, .iaload, 1), (60, .bipush 10, 2), (62, .idiv, 1), (63, .iadd, 1), (64, .iastore, 1), (65, .iinc 2 1, 3), (68, .goto (-26), 3), (71, .goto 19, 3), (74, .aload_n 0, 1), (75, .aload_n 0, 1), (76, .getfield 53, 3), (79, .bipush 10, 2), (81, .iadd, 1), (82, .bipush 30, 2), (84, .invokestatic 78, 3), (87, .putfield 53, 3), (90, .return_, 1)]
def mm_X5_grow : MethodName × ByteArray × Nat × Option FieldType × Nat × List (Nat × Instr × Nat) := (yX5_grow, cX5_grow, 3, none, 5, tb_X5_grow)
def tb_X5_who : List (Nat × Instr × Nat) := [(0, .iload_n 1, 1), (1, .ifCond .lt 20, 3), (4, .iload_n 1, 1), (5, .aload_n 0, 1), (6, .getfield 65, 3), (9, .if_icmp .ge 12, 3), (12, .iload_n 1, 1), (13, .aload_n 0, 1), (14, .getfield 20, 3), (17, .arraylength, 1), (18, .if_icmp .lt 7, 3), (21, .aconst_null, 1), (22, .goto 9, 3), (25, .aload_n 0, 1), (26, .getfield 20, 3), (29, .iload_n 1, 1), (30, .aaload, 1), (31, .areturn, 1)]
def mm_X5_who : MethodName × ByteArray × Nat × Option FieldType × Nat × List (Nat × Instr × Nat) := (yX5_who, cX5_who, 2, some (FieldType.object "BathNight$Bather"), 5, tb_X5_who)
def tb_X5_allComeAsTold : List (Nat × Instr × Nat) := [(0, .aload_n 0, 1), (1, .getfield 20, 3), (4, .astore_n 1, 1), (5, .aload_n 1, 1), (6, .arraylength, 1), (7, .istore_n 2, 1), (8, .iconst 0, 1), (9, .istore_n 3, 1), (10, .iload_n 3, 1), (11, .iload_n 2, 1), (12, .if_icmp .ge 24, 3), (15, .aload_n 1, 1), (16, .iload_n 3, 1), (17, .aaload, 1), (18, .astore 4, 2), (20, .aload 4, 2), (22, .aload 4, 2), (24, .getfield 84, 3), (27, .putfield 87, 3), (30, .iinc 3 1, 3), (33, .goto (-23), 3), (36, .return_, 1)]
def mm_X5_allComeAsTold : MethodName × ByteArray × Nat × Option FieldType × Nat × List (Nat × Instr × Nat) := (yX5_allComeAsTold, cX5_allComeAsTold, 5, none, 5, tb_X5_allComeAsTold)
def tb_X5_takes : List (Nat × Instr × Nat) := [(0, .aload_n 0, 1), (1, .getfield 30, 3), (4, .aload_n 1, 1), (5, .getfield 90, 3), (8, .bipush 116, 2), (10, .if_icmp .ne 7, 3), (13, .iconst 1, 1), (14, .goto 4, 3), (17, .iconst 0, 1), (18, .if_icmp .ne 5, 3), (21, .iconst 0, 1), (22, .ireturn, 1), (23, .aload_n 1, 1), (24, .getfield 90, 3), (27, .tableswitch 123 97 116 #[111, 105, 123, 123, 123, 99, 123, 123, 123, 123, 117, 123, 123, 123, 123, 123, 123, 123, 111, 93], 93), (120, .aload_n 0, 1), (121, .aload_n 1, 1), (122, .invokevirtual 95, 3), (125, .ireturn, 1), (126, .aload_n 0, 1), (127, .aload_n 1, 1), (128, .invokevirtual 99, 3), (131, .ireturn, 1), (132, .aload_n 0, 1), (133, .aload_n 1, 1), (134, .invokevirtual 102, 3), (137, .ireturn, 1), (138, .aload_n 0, 1), (139, .aload_n 1, 1), (140, .invokevirtual 105, 3), (143, .ireturn, 1), (144, .aload_n 0, 1), (145, .aload_n 1, 1), (146, .invokevirtual 108, 3), (149, .ireturn, 1), (150, .aload_n 0, 1), (151, .aload_n 1, 1), (152, .invokevirtual 111, 3), (155, .ireturn, 1)]
def mm_X5_takes : MethodName × ByteArray × Nat × Option FieldType × Nat × List (Nat × Instr × Nat) := (yX5_takes, cX5_takes, 2, some FieldType.boolean, 5, tb_X5_takes)
def tb_X5_takesTank : List (Nat × Instr × Nat) := [(0, .aload_n 1, 1), (1, .getfield 114, 3), (4, .iconst 5, 1), (5, .if_icmp .ne 63, 3), (8, .aload_n 1, 1), (9, .iconst 0, 1), (10, .iconst 1, 1), (11, .bipush 6, 2), (13, .invokevirtual 117, 3), (16, .ifCond .eq 52, 3), (19, .aload_n 1, 1), (20, .iconst 1, 1), (21, .iconst 1, 1), (22, .bipush 60, 2), (24, .invokevirtual 117, 3), (27, .ifCond .eq 41, 3), (30, .aload_n 1, 1), (31, .iconst 2, 1), (32, .iconst 0, 1), (33, .bipush 40, 2), (35, .invokevirtual 117, 3), (38, .ifCond .eq 30, 3), (41, .aload_n 1, 1), (42, .iconst 3, 1), (43, .aload_n 1, 1), (44, .iconst 2, 1), (45, .invokevirtual 121, 3), (48, .bipush 95, 2), (50, .invokevirtual 117, 3), (53, .ifCond .eq 15, 3), (56, .aload_n 1, 1), (57, .iconst 4, 1), (58, .iconst 0, 1), (59, .sipush 999, 3), (62, .invokevirtual 117, 3), (65, .ifCond .ne 5, 3), (68, .iconst 0, 1), (69, .ireturn, 1), (70, .aload_n 0, 1), (71, .aload_n 1, 1), (72, .iconst 0, 1), (73, .invokevirtual 121, 3), (76, .putfield 34, 3), (79, .aload_n 0, 1), (80, .aload_n 1, 1), (81, .iconst 1, 1), (82, .invokevirtual 121, 3), (85, .putfield 38, 3), (88, .aload_n 0, 1), (89, .aload_n 1, 1), (90, .iconst 2, 1), (91, .invokevirtual 121, 3), (94, .putfield 41, 3), (97, .aload_n 0, 1), (98, .aload_n 1, 1), (99, .iconst 3, 1), (100, .invokevirtual 121, 3), (103, .putfield 44, 3), (106, .aload_n 0, 1), (107, .aload_n 1, 1), (108, .iconst 4, 1), (109, .invokevirtual 121, 3), (112, .putfield 47, 3), (115, .aload_n 0, 1), (116, .iconst 1, 1), (117, .putfield 30, 3), (120, .iconst 1, 1), (121, .ireturn, 1)]
def mm_X5_takesTank : MethodName × ByteArray × Nat × Option FieldType × Nat × List (Nat × Instr × Nat) := (yX5_takesTank, cX5_takesTank, 2, some FieldType.boolean, 5, tb_X5_takesTank)
def tb_X5_takesStage : List (Nat × Instr × Nat) := [(0, .aload_n 1, 1), (1, .getfield 114, 3), (4, .iconst 3, 1), (5, .if_icmp .ne 36, 3), (8, .aload_n 1, 1), (9, .iconst 0, 1), (10, .iconst 1, 1), (11, .iconst 3, 1), (12, .invokevirtual 117, 3), (15, .ifCond .eq 26, 3), (18, .aload_n 1, 1), (19, .iconst 1, 1), (20, .iconst 0, 1), (21, .sipush 9999, 3), (24, .invokevirtual 117, 3), (27, .ifCond .eq 14, 3), (30, .aload_n 1, 1), (31, .iconst 2, 1), (32, .iconst 1, 1), (33, .bipush 30, 2), (35, .invokevirtual 117, 3), (38, .ifCond .ne 5, 3), (41, .iconst 0, 1), (42, .ireturn, 1), (43, .aload_n 0, 1), (44, .getfield 9, 3), (47, .aload_n 1, 1), (48, .iconst 0, 1), (49, .invokevirtual 121, 3), (52, .aload_n 1, 1), (53, .iconst 1, 1), (54, .invokevirtual 121, 3), (57, .iastore, 1), (58, .aload_n 0, 1), (59, .getfield 15, 3), (62, .aload_n 1, 1), (63, .iconst 0, 1), (64, .invokevirtual 121, 3), (67, .aload_n 1, 1), (68, .iconst 2, 1), (69, .invokevirtual 121, 3), (72, .iastore, 1), (73, .iconst 1, 1), (74, .ireturn, 1)]
def mm_X5_takesStage : MethodName × ByteArray × Nat × Option FieldType × Nat × List (Nat × Instr × Nat) := (yX5_takesStage, cX5_takesStage, 2, some FieldType.boolean, 5, tb_X5_takesStage)
def tb_X5_takesBather : List (Nat × Instr × Nat) := [(0, .aload_n 0, 1), (1, .getfield 65, 3), (4, .aload_n 0, 1), (5, .getfield 20, 3), (8, .arraylength, 1), (9, .if_icmp .ge 82, 3), (12, .aload_n 1, 1), (13, .getfield 114, 3), (16, .bipush 6, 2), (18, .if_icmp .ne 73, 3), (21, .aload_n 1, 1), (22, .iconst 0, 1), (23, .iconst 1, 1), (24, .bipush 99, 2), (26, .invokevirtual 117, 3), (29, .ifCond .eq 62, 3), (32, .aload_n 1, 1), (33, .iconst 1, 1), (34, .iconst 0, 1), (35, .bipush 99, 2), (37, .invokevirtual 117, 3), (40, .ifCond .eq 51, 3), (43, .aload_n 1, 1), (44, .iconst 2, 1), (45, .aload_n 1, 1), (46, .iconst 1, 1), (47, .invokevirtual 121, 3), (50, .bipush 99, 2), (52, .invokevirtual 117, 3), (55, .ifCond .eq 36, 3), (58, .aload_n 1, 1), (59, .iconst 3, 1), (60, .iconst 1, 1), (61, .bipush 20, 2), (63, .invokevirtual 117, 3), (66, .ifCond .eq 25, 3), (69, .aload_n 1, 1), (70, .iconst 4, 1), (71, .iconst 0, 1), (72, .bipush 60, 2), (74, .invokevirtual 117, 3), (77, .ifCond .eq 14, 3), (80, .aload_n 1, 1), (81, .iconst 5, 1), (82, .iconst 0, 1), (83, .bipush 99, 2), (85, .invokevirtual 117, 3), (88, .ifCond .ne 5, 3), (91, .iconst 0, 1), (92, .ireturn, 1), (93, .aload_n 0, 1), (94, .getfield 20, 3), (97, .aload_n 0, 1), (98, .getfield 65, 3), (101, .aaload, 1), (102, .aload_n 1, 1), (103, .invokevirtual 125, 3), (106, .aload_n 0, 1), (107, .dup, 1), (108, .getfield 65, 3), (111, .iconst 1, 1), (112, .iadd, 1), (113, .putfield 65, 3), (116, .iconst 1, 1), (117, .ireturn, 1)]
def mm_X5_takesBather : MethodName × ByteArray × Nat × Option FieldType × Nat × List (Nat × Instr × Nat) := (yX5_takesBather, cX5_takesBather, 2, some FieldType.boolean, 5, tb_X5_takesBather)
def tb_X5_takesPair : List (Nat × Instr × Nat) := [(0, .aload_n 0, 1), (1, .aload_n 1, 1), (2, .iconst 0, 1), (3, .invokevirtual 121, 3), (6, .invokevirtual 129, 3), (9, .astore_n 2, 1), (10, .aload_n 0, 1), (11, .aload_n 1, 1), (12, .iconst 1, 1), (13, .invokevirtual 121, 3), (16, .invokevirtual 129, 3), (19, .astore_n 3, 1), (20, .aload_n 1, 1), (21, .aload_n 0, 1), (22, .getfield 65, 3), (25, .invokevirtual 133, 3), (28, .ifCond .eq 11, 3), (31, .aload_n 2, 1), (32, .ifnull 7, 3), (35, .aload_n 3, 1), (36, .ifnonnull 5, 3), (39, .iconst 0, 1), (40, .ireturn, 1), (41, .aload_n 1, 1), (42, .getfield 90, 3), (45, .bipush 97, 2), (47, .if_icmp .ne 19, 3), (50, .aload_n 2, 1), (51, .dup, 1), (52, .getfield 137, 3), (55, .aload_n 3, 1), (56, .getfield 140, 3), (59, .ior, 1), (60, .putfield 137, 3), (63, .goto 16, 3), (66, .aload_n 2, 1), (67, .dup, 1), (68, .getfield 143, 3), (71, .aload_n 3, 1), (72, .getfield 140, 3), (75, .ior, 1), (76, .putfield 143, 3), (79, .iconst 1, 1), (80, .ireturn, 1)]
def mm_X5_takesPair : MethodName × ByteArray × Nat × Option FieldType × Nat × List (Nat × Instr × Nat) := (yX5_takesPair, cX5_takesPair, 4, some FieldType.boolean, 5, tb_X5_takesPair)
def tb_X5_takesKettle : List (Nat × Instr × Nat) := [(0, .aload_n 1, 1), (1, .getfield 114, 3), (4, .iconst 2, 1), (5, .if_icmp .ne 25, 3), (8, .aload_n 1, 1), (9, .iconst 0, 1), (10, .iconst 0, 1), (11, .bipush 20, 2), (13, .invokevirtual 117, 3), (16, .ifCond .eq 14, 3), (19, .aload_n 1, 1), (20, .iconst 1, 1), (21, .iconst 1, 1), (22, .bipush 30, 2), (24, .invokevirtual 117, 3), (27, .ifCond .ne 5, 3), (30, .iconst 0, 1), (31, .ireturn, 1), (32, .aload_n 0, 1), (33, .aload_n 1, 1), (34, .iconst 0, 1), (35, .invokevirtual 121, 3), (38, .putfield 53, 3), (41, .aload_n 0, 1), (42, .aload_n 1, 1), (43, .iconst 1, 1), (44, .invokevirtual 121, 3), (47, .putfield 56, 3), (50, .iconst 1, 1), (51, .ireturn, 1)]
def mm_X5_takesKettle : MethodName × ByteArray × Nat × Option FieldType × Nat × List (Nat × Instr × Nat) := (yX5_takesKettle, cX5_takesKettle, 2, some FieldType.boolean, 5, tb_X5_takesKettle)
def tb_X5_takesNumber : List (Nat × Instr × Nat) := [(0, .aload_n 1, 1), (1, .iconst 0, 1), (2, .invokevirtual 121, 3), (5, .istore_n 2, 1), (6, .aload_n 1, 1), (7, .getfield 90, 3), (10, .bipush 99, 2), (12, .if_icmp .ne 21, 3), (15, .aload_n 1, 1), (16, .iconst 0, 1), (17, .bipush 9, 2), (19, .invokevirtual 146, 3), (22, .ifCond .eq 11, 3), (25, .aload_n 0, 1), (26, .iload_n 2, 1), (27, .putfield 50, 3), (30, .goto 59, 3), (33, .aload_n 1, 1), (34, .getfield 90, 3), (37, .bipush 113, 2), (39, .if_icmp .ne 21, 3), (42, .aload_n 1, 1), (43, .iconst 0, 1), (44, .bipush 9, 2), (46, .invokevirtual 146, 3), (49, .ifCond .eq 11, 3), (52, .aload_n 0, 1), (53, .iload_n 2, 1), (54, .putfield 59, 3), (57, .goto 32, 3), (60, .aload_n 1, 1), (61, .getfield 90, 3), (64, .bipush 110, 2), (66, .if_icmp .ne 21, 3), (69, .aload_n 1, 1), (70, .iconst 1, 1), (71, .bipush 60, 2), (73, .invokevirtual 146, 3), (76, .ifCond .eq 11, 3), (79, .aload_n 0, 1), (80, .iload_n 2, 1), (81, .putfield 62, 3), (84, .goto 5, 3), (87, .iconst 0, 1), (88, .ireturn, 1), (89, .iconst 1, 1), (90, .ireturn, 1)]
def mm_X5_takesNumber : MethodName × ByteArray × Nat × Option FieldType × Nat × List (Nat × Instr × Nat) := (yX5_takesNumber, cX5_takesNumber, 3, some FieldType.boolean, 5, tb_X5_takesNumber)
def tb_X5_scoreOfEvening : List (Nat × Instr × Nat) := [(0, .iconst 0, 1), (1, .istore_n 1, 1), (2, .iconst 0, 1), (3, .istore_n 2, 1), (4, .iconst 0, 1), (5, .istore_n 3, 1), (6, .iload_n 3, 1), (7, .aload_n 0, 1), (8, .getfield 65, 3), (11, .if_icmp .ge 72, 3), (14, .iload_n 3, 1), (15, .aload_n 0, 1), (16, .getfield 20, 3), (19, .arraylength, 1), (20, .if_icmp .ge 63, 3), (23, .aload_n 0, 1), (24, .getfield 20, 3), (27, .iload_n 3, 1), (28, .aaload, 1), (29, .getfield 150, 3), (32, .istore 4, 2), (34, .iload 4, 2), (36, .bipush (-4), 2), (38, .if_icmp .eq 17, 3), (41, .iload 4, 2), (43, .aload_n 0, 1), (44, .getfield 20, 3), (47, .iload_n 3, 1), (48, .aaload, 1), (49, .getfield 153, 3), (52, .if_icmp .le 6, 3), (55, .iinc 1 1, 3), (58, .iload_n 2, 1), (59, .iload 4, 2), (61, .bipush (-4), 2), (63, .if_icmp .ne 8, 3), (66, .bipush 99, 2), (68, .goto 5, 3), (71, .iload 4, 2), (73, .invokestatic 156, 3), (76, .istore_n 2, 1), (77, .iinc 3 1, 3), (80, .goto (-74), 3), (83, .bipush 100, 2), (85, .iload_n 1, 1), (86, .imul, 1), (87, .iload_n 2, 1), (88, .iadd, 1), (89, .ireturn, 1)]
def mm_X5_scoreOfEvening : MethodName × ByteArray × Nat × Option FieldType × Nat × List (Nat × Instr × Nat) := (yX5_scoreOfEvening, cX5_scoreOfEvening, 5, some FieldType.int, 5, tb_X5_scoreOfEvening)
def tb_X6_init : List (Nat × Instr × Nat) := [(0, .aload_n 0, 1), (1, .invokespecial 3, 3), (4, .aload_n 0, 1), (5, .bipush 6, 2), (7, .newarray .int, 2), (9, .putfield 9, 3), (12, .return_, 1)]
def mm_X6_init : MethodName × ByteArray × Nat × Option FieldType × Nat × List (Nat × Instr × Nat) := (yX6_init, cX6_init, 1, none, 6, tb_X6_init)
def tb_X6_readFrom : List (Nat × Instr × Nat) := [(0, .aload_n 0, 1), (1, .iconst 0, 1), (2, .putfield 15, 3), (5, .iload_n 3, 1), (6, .ifCond .lt 9, 3), (9, .iload_n 3, 1), (10, .aload_n 1, 1), (11, .arraylength, 1), (12, .if_icmp .lt 6, 3), (15, .bipush (-4), 2), (17, .ireturn, 1), (18, .aload_n 0, 1), (19, .aload_n 1, 1), (20, .iload_n 3, 1), (21, .baload, 1), (22, .putfield 19, 3), (25, .iconst 0, 1), (26, .istore 4, 2), (28, .iconst 0, 1), (29, .istore 5, 2), (31, .iload_n 3, 1), (32, .iconst 1, 1), (33, .iadd, 1), (34, .istore 6, 2), (36, .iload 6, 2), (38, .iload_n 2, 1), (39, .if_icmp .ge 137, 3), (42, .iload 6, 2), (44, .aload_n 1, 1), (45, .arraylength, 1), (46, .if_icmp .ge 130, 3), (49, .aload_n 1, 1), (50, .iload 6, 2), (52, .baload, 1), (53, .istore 7, 2), (55, .iload 7, 2), (57, .bipush 48, 2), (59, .if_icmp .lt 35, 3), (62, .iload 7, 2), (64, .bipush 57, 2), (66, .if_icmp .gt 28, 3), (69, .bipush 10, 2), (71, .iload 4, 2), (73, .imul, 1), (74, .iload 7, 2), (76, .iadd, 1), (77, .bipush 48, 2), (79, .isub, 1), (80, .istore 4, 2), (82, .iinc 5 1, 3), (85, .iload 5, 2), (87, .iconst 4, 1), (88, .if_icmp .le 82, 3), (91, .bipush (-4), 2), (93, .ireturn, 1), (94, .iload 7, 2), (96, .bipush 44, 2), (98, .if_icmp .eq 10, 3), (101, .iload 7, 2), (103, .bipush 59, 2), (105, .if_icmp .ne 62, 3), (108, .iload 5, 2), (110, .ifCond .le 57, 3), (113, .aload_n 0, 1), (114, .getfield 15, 3), (117, .aload_n 0, 1), (118, .getfield 9, 3), (121, .arraylength, 1), (122, .if_icmp .ge 45, 3), (125, .aload_n 0, 1), (126, .getfield 9, 3), (129, .aload_n 0, 1), (130, .getfield 15, 3), (133, .iload 4, 2), (135, .iastore, 1), (136, .aload_n 0, 1), (137, .dup, 1), (138, .getfield 15, 3), (141, .iconst 1, 1), (142, .iadd, 1), (143, .putfield 15, 3), (146, .iload 7, 2), (148, .bipush 59, 2), (150, .if_icmp .ne 8, 3), (153, .iload 6, 2), (155, .iconst 1, 1), (156, .iadd, 1), (157, .ireturn, 1), (158, .iconst 0, 1), (159, .istore 4, 2), (161, .iconst 0, 1), (162, .istore 5, 2), (164, .goto 6, 3), (167, .bipush (-4), 2), (169, .ireturn, 1), (170, .iinc 6 1, 3), (173, .goto (-137), 3), (176, .bipush (-4), 2), (178, .ireturn, 1)]
def mm_X6_readFrom : MethodName × ByteArray × Nat × Option FieldType × Nat × List (Nat × Instr × Nat) := (yX6_readFrom, cX6_readFrom, 8, some FieldType.int, 6, tb_X6_readFrom)
def tb_X6_number : List (Nat × Instr × Nat) := [(0, .iload_n 1, 1), (1, .ifCond .lt 20, 3), (4, .iload_n 1, 1), (5, .aload_n 0, 1), (6, .getfield 15, 3), (9, .if_icmp .ge 12, 3), (12, .iload_n 1, 1), (13, .aload_n 0, 1), (14, .getfield 9, 3), (17, .arraylength, 1), (18, .if_icmp .lt 8, 3), (21, .bipush (-4), 2), (23, .goto 9, 3), (26, .aload_n 0, 1), (27, .getfield 9, 3), (30, .iload_n 1, 1), (31, .iaload, 1), (32, .ireturn, 1)]
def mm_X6_number : MethodName × ByteArray × Nat × Option FieldType × Nat × List (Nat × Instr × Nat) := (yX6_number, cX6_number, 2, some FieldType.int, 6, tb_X6_number)
def tb_X6_isWithin : List (Nat × Instr × Nat) := [(0, .aload_n 0, 1), (1, .iload_n 1, 1), (2, .invokevirtual 22, 3), (5, .istore 4, 2), (7, .iload 4, 2), (9, .iload_n 2, 1), (10, .if_icmp .lt 13, 3), (13, .iload 4, 2), (15, .iload_n 3, 1), (16, .if_icmp .gt 7, 3), (19, .iconst 1, 1), (20, .goto 4, 3), (23, .iconst 0, 1), (24, .ireturn, 1)]
def mm_X6_isWithin : MethodName × ByteArray × Nat × Option FieldType × Nat × List (Nat × Instr × Nat) := (yX6_isWithin, cX6_isWithin, 5, some FieldType.boolean, 6, tb_X6_isWithin)
def tb_X6_isOneWithin : List (Nat × Instr × Nat) := [(0, .aload_n 0, 1), (1, .getfield 15, 3), (4, .iconst 1, 1), (5, .if_icmp .ne 17, 3), (8, .aload_n 0, 1), (9, .iconst 0, 1), (10, .iload_n 1, 1), (11, .iload_n 2, 1), (12, .invokevirtual 26, 3), (15, .ifCond .eq 7, 3), (18, .iconst 1, 1), (19, .goto 4, 3), (22, .iconst 0, 1), (23, .ireturn, 1)]
def mm_X6_isOneWithin : MethodName × ByteArray × Nat × Option FieldType × Nat × List (Nat × Instr × Nat) := (yX6_isOneWithin, cX6_isOneWithin, 3, some FieldType.boolean, 6, tb_X6_isOneWithin)
def tb_X6_isPairOf : List (Nat × Instr × Nat) := [(0, .aload_n 0, 1), (1, .getfield 15, 3), (4, .iconst 2, 1), (5, .if_icmp .ne 44, 3), (8, .aload_n 0, 1), (9, .iconst 0, 1), (10, .iconst 0, 1), (11, .iload_n 1, 1), (12, .iconst 1, 1), (13, .isub, 1), (14, .invokevirtual 26, 3), (17, .ifCond .eq 32, 3), (20, .aload_n 0, 1), (21, .iconst 1, 1), (22, .iconst 0, 1), (23, .iload_n 1, 1), (24, .iconst 1, 1), (25, .isub, 1), (26, .invokevirtual 26, 3), (29, .ifCond .eq 20, 3), (32, .aload_n 0, 1), (33, .iconst 0, 1), (34, .invokevirtual 22, 3), (37, .aload_n 0, 1), (38, .iconst 1, 1), (39, .invokevirtual 22, 3), (42, .if_icmp .eq 7, 3), (45, .iconst 1, 1), (46, .goto 4, 3), (49, .iconst 0, 1), (50, .ireturn, 1)]
def mm_X6_isPairOf : MethodName × ByteArray × Nat × Option FieldType × Nat × List (Nat × Instr × Nat) := (yX6_isPairOf, cX6_isPairOf, 2, some FieldType.boolean, 6, tb_X6_isPairOf)
def tb_X7_init : List (Nat × Instr × Nat) := [(0, .aload_n 0, 1), (1, .invokespecial 3, 3), (4, .aload_n 0, 1), (5, .bipush 6, 2), (7, .newarray .int, 2), (9, .putfield 9, 3), (12, .aload_n 0, 1), (13, .iconst 1, 1), (14, .putfield 15, 3), (17, .return_, 1)]
def mm_X7_init : MethodName × ByteArray × Nat × Option FieldType × Nat × List (Nat × Instr × Nat) := (yX7_init, cX7_init, 1, none, 7, tb_X7_init)
def tb_X7_fill : List (Nat × Instr × Nat) := [(0, .aload_n 0, 1), (1, .aload_n 1, 1), (2, .getfield 19, 3), (5, .aload_n 0, 1), (6, .getfield 9, 3), (9, .arraylength, 1), (10, .invokestatic 24, 3), (13, .putfield 30, 3), (16, .aload_n 0, 1), (17, .aload_n 1, 1), (18, .getfield 31, 3), (21, .iconst 1, 1), (22, .invokestatic 32, 3), (25, .putfield 15, 3), (28, .aload_n 0, 1), (29, .aload_n 1, 1), (30, .getfield 35, 3), (33, .putfield 38, 3), (36, .iconst 0, 1), (37, .istore_n 2, 1), (38, .iload_n 2, 1), (39, .aload_n 0, 1), (40, .getfield 30, 3), (43, .if_icmp .ge 24, 3), (46, .aload_n 0, 1), (47, .getfield 9, 3), (50, .iload_n 2, 1), (51, .aload_n 1, 1), (52, .getfield 39, 3), (55, .aload_n 0, 1), (56, .getfield 15, 3), (59, .imul, 1), (60, .iastore, 1), (61, .iinc 2 1, 3), (64, .goto (-26), 3), (67, .return_, 1)]
def mm_X7_fill : MethodName × ByteArray × Nat × Option FieldType × Nat × List (Nat × Instr × Nat) := (yX7_fill, cX7_fill, 3, none, 7, tb_X7_fill)
def tb_X7_holds : List (Nat × Instr × Nat) := [(0, .aload_n 0, 1), (1, .getfield 30, 3), (4, .aload_n 0, 1), (5, .getfield 15, 3), (8, .imul, 1), (9, .ireturn, 1)]
def mm_X7_holds : MethodName × ByteArray × Nat × Option FieldType × Nat × List (Nat × Instr × Nat) := (yX7_holds, cX7_holds, 1, some FieldType.int, 7, tb_X7_holds)
def tb_X7_unitsIn : List (Nat × Instr × Nat) := [(0, .iload_n 1, 1), (1, .ifCond .lt 11, 3), (4, .iload_n 1, 1), (5, .aload_n 0, 1), (6, .getfield 30, 3), (9, .if_icmp .lt 7, 3), (12, .iconst 0, 1), (13, .goto 9, 3), (16, .aload_n 0, 1), (17, .getfield 9, 3), (20, .iload_n 1, 1), (21, .iaload, 1), (22, .ireturn, 1)]
def mm_X7_unitsIn : MethodName × ByteArray × Nat × Option FieldType × Nat × List (Nat × Instr × Nat) := (yX7_unitsIn, cX7_unitsIn, 2, some FieldType.int, 7, tb_X7_unitsIn)
def tb_X7_heatOf : List (Nat × Instr × Nat) := [(0, .aload_n 0, 1), (1, .iload_n 1, 1), (2, .invokevirtual 42, 3), (5, .aload_n 0, 1), (6, .getfield 15, 3), (9, .idiv, 1), (10, .ireturn, 1)]
def mm_X7_heatOf : MethodName × ByteArray × Nat × Option FieldType × Nat × List (Nat × Instr × Nat) := (yX7_heatOf, cX7_heatOf, 2, some FieldType.int, 7, tb_X7_heatOf)
def tb_X7_unitsOfPart : List (Nat × Instr × Nat) := [(0, .iload_n 1, 1), (1, .ifCond .lt 11, 3), (4, .iload_n 1, 1), (5, .aload_n 0, 1), (6, .getfield 30, 3), (9, .if_icmp .lt 12, 3), (12, .aload_n 0, 1), (13, .getfield 38, 3), (16, .iload_n 2, 1), (17, .imul, 1), (18, .goto 16, 3), (21, .aload_n 0, 1), (22, .getfield 9, 3), (25, .iload_n 1, 1), (26, .iaload, 1), (27, .iload_n 2, 1), (28, .imul, 1), (29, .aload_n 0, 1), (30, .getfield 15, 3), (33, .idiv, 1), (34, .ireturn, 1)]
def mm_X7_unitsOfPart : MethodName × ByteArray × Nat × Option FieldType × Nat × List (Nat × Instr × Nat) := (yX7_unitsOfPart, cX7_unitsOfPart, 3, some FieldType.int, 7, tb_X7_unitsOfPart)
def tb_X7_unitsOfTop : List (Nat × Instr × Nat) := [(0, .iload_n 1, 1), (1, .aload_n 0, 1), (2, .getfield 15, 3), (5, .idiv, 1), (6, .istore_n 2, 1), (7, .iconst 0, 1), (8, .istore_n 3, 1), (9, .iconst 0, 1), (10, .istore 4, 2), (12, .iload 4, 2), (14, .iload_n 2, 1), (15, .if_icmp .ge 28, 3), (18, .iload 4, 2), (20, .aload_n 0, 1), (21, .getfield 30, 3), (24, .if_icmp .ge 19, 3), (27, .iload_n 3, 1), (28, .aload_n 0, 1), (29, .getfield 9, 3), (32, .iload 4, 2), (34, .iaload, 1), (35, .iadd, 1), (36, .istore_n 3, 1), (37, .iinc 4 1, 3), (40, .goto (-28), 3), (43, .iload_n 2, 1), (44, .ifCond .lt 11, 3), (47, .iload_n 2, 1), (48, .aload_n 0, 1), (49, .getfield 30, 3), (52, .if_icmp .lt 7, 3), (55, .iload_n 3, 1), (56, .goto 23, 3), (59, .iload_n 3, 1), (60, .aload_n 0, 1), (61, .getfield 9, 3), (64, .iload_n 2, 1), (65, .iaload, 1), (66, .iload_n 1, 1), (67, .aload_n 0, 1), (68, .getfield 15, 3), (71, .irem, 1), (72, .imul, 1), (73, .aload_n 0, 1), (74, .getfield 15, 3), (77, .idiv, 1), (78, .iadd, 1), (79, .ireturn, 1)]
def mm_X7_unitsOfTop : MethodName × ByteArray × Nat × Option FieldType × Nat × List (Nat × Instr × Nat) := (yX7_unitsOfTop, cX7_unitsOfTop, 5, some FieldType.int, 7, tb_X7_unitsOfTop)
def tb_X7_draw : List (Nat × Instr × Nat) := [(0, .iload_n 1, 1), (1, .aload_n 0, 1), (2, .getfield 15, 3), (5, .idiv, 1), (6, .istore_n 2, 1), (7, .iload_n 1, 1), (8, .aload_n 0, 1), (9, .getfield 15, 3), (12, .irem, 1), (13, .istore_n 3, 1), (14, .iconst 0, 1), (15, .istore 4, 2), (17, .iload 4, 2), (19, .aload_n 0, 1), (20, .getfield 30, 3), (23, .if_icmp .ge 42, 3), (26, .aload_n 0, 1), (27, .getfield 9, 3), (30, .iload 4, 2), (32, .aload_n 0, 1), (33, .iload 4, 2), (35, .iload_n 2, 1), (36, .iadd, 1), (37, .aload_n 0, 1), (38, .getfield 15, 3), (41, .iload_n 3, 1), (42, .isub, 1), (43, .invokevirtual 46, 3), (46, .aload_n 0, 1), (47, .iload 4, 2), (49, .iload_n 2, 1), (50, .iadd, 1), (51, .iconst 1, 1), (52, .iadd, 1), (53, .iload_n 3, 1), (54, .invokevirtual 46, 3), (57, .iadd, 1), (58, .iastore, 1), (59, .iinc 4 1, 3), (62, .goto (-45), 3), (65, .return_, 1)]
def mm_X7_draw : MethodName × ByteArray × Nat × Option FieldType × Nat × List (Nat × Instr × Nat) := (yX7_draw, cX7_draw, 5, none, 7, tb_X7_draw)
def tb_X7_pintsFor : List (Nat × Instr × Nat) := [(0, .iload_n 1, 1), (1, .ifCond .gt 5, 3), (4, .iconst 0, 1), (5, .ireturn, 1), (6, .iload_n 1, 1), (7, .istore_n 3, 1), (8, .iconst 0, 1), (9, .istore 4, 2), (11, .iload 4, 2), (13, .aload_n 0, 1), (14, .getfield 30, 3), (17, .if_icmp .ge 99, 3), (20, .iload 4, 2), (22, .aload_n 0, 1), (23, .getfield 15, 3), (26, .imul, 1), (27, .iload_n 2, 1), (28, .if_icmp .ge 88, 3), (31, .aload_n 0, 1), (32, .getfield 9, 3), (35, .iload 4, 2), (37, .iaload, 1), (38, .aload_n 0, 1), (39, .getfield 38, 3), (42, .aload_n 0, 1), (43, .getfield 15, 3), (46, .imul, 1), (47, .isub, 1), (48, .istore 5, 2), (50, .iload 5, 2), (52, .ifCond .le 53, 3), (55, .iload_n 3, 1), (56, .aload_n 0, 1), (57, .getfield 15, 3), (60, .imul, 1), (61, .iload 5, 2), (63, .iadd, 1), (64, .iconst 1, 1), (65, .isub, 1), (66, .iload 5, 2), (68, .idiv, 1), (69, .istore 6, 2), (71, .iload 6, 2), (73, .aload_n 0, 1), (74, .getfield 15, 3), (77, .if_icmp .gt 28, 3), (80, .iload 4, 2), (82, .aload_n 0, 1), (83, .getfield 15, 3), (86, .imul, 1), (87, .iload 6, 2), (89, .iadd, 1), (90, .iload_n 2, 1), (91, .if_icmp .gt 14, 3), (94, .iload 4, 2), (96, .aload_n 0, 1), (97, .getfield 15, 3), (100, .imul, 1), (101, .iload 6, 2), (103, .iadd, 1), (104, .ireturn, 1), (105, .iload_n 3, 1), (106, .iload 5, 2), (108, .isub, 1), (109, .istore_n 3, 1), (110, .iinc 4 1, 3), (113, .goto (-102), 3), (116, .bipush (-4), 2), (118, .ireturn, 1)]
def mm_X7_pintsFor : MethodName × ByteArray × Nat × Option FieldType × Nat × List (Nat × Instr × Nat) := (yX7_pintsFor, cX7_pintsFor, 7, some FieldType.int, 7, tb_X7_pintsFor)
def tb_X7_warm : List (Nat × Instr × Nat) := [(0, .aload_n 0, 1), (1, .getfield 30, 3), (4, .iconst 1, 1), (5, .if_icmp .lt 15, 3), (8, .aload_n 0, 1), (9, .getfield 30, 3), (12, .aload_n 0, 1), (13, .getfield 9, 3), (16, .arraylength, 1), (17, .if_icmp .le 4, 3), (20, .return_, 1), (21, .aload_n 0, 1), (22, .getfield 9, 3), (25, .aload_n 0, 1), (26, .getfield 30, 3), (29, .iconst 1, 1), (30, .isub, 1), (31, .dup2, 1), (32, .iaload, 1), (33, .iload_n 1, 1), (34, .iadd, 1), (35, .iastore, 1), (36, .aload_n 0, 1), (37, .getfield 30, 3), (40, .iconst 1, 1), (41, .isub, 1), (42, .istore_n 2, 1), (43, .iload_n 2, 1), (44, .ifCond .le 64, 3), (47, .aload_n 0, 1), (48, .getfield 9, 3), (51, .iload_n 2, 1), (52, .iaload, 1), (53, .aload_n 0, 1), (54, .getfield 9, 3), (57, .iload_n 2, 1), (58, .iconst 1, 1), (59, .isub, 1), (60, .iaload, 1), (61, .if_icmp .le 41, 3), (64, .aload_n 0, 1), (65, .getfield 9, 3), (68, .iload_n 2, 1), (69, .iaload, 1), (70, .aload_n 0, 1), (71, .getfield 9, 3), (74, .iload_n 2, 1), (75, .iconst 1, 1), (76, .isub, 1), (77, .iaload, 1), (78, .iadd, 1), (79, .istore_n 3, 1), (80, .aload_n 0, 1), (81, .getfield 9, 3), (84, .iload_n 2, 1), (85, .iload_n 3, 1), (86, .iconst 2, 1), (87, .idiv, 1), (88, .iastore, 1), (89, .aload_n 0, 1), (90, .getfield 9, 3), (93, .iload_n 2, 1), (94, .iconst 1, 1), (95, .isub, 1), (96, .iload_n 3, 1), (97, .iload_n 3, 1), (98, .iconst 2, 1), (99, .idiv, 1), (100, .isub, 1), (101, .iastore, 1), (102, .iinc 2 (-1), 3), (105, .goto (-62), 3), (108, .return_, 1)]
def mm_X7_warm : MethodName × ByteArray × Nat × Option FieldType × Nat × List (Nat × Instr × Nat) := (yX7_warm, cX7_warm, 4, none, 7, tb_X7_warm)
def tb_X7_lose : List (Nat × Instr × Nat) := [(0, .aload_n 0, 1), (1, .getfield 38, 3), (4, .aload_n 0, 1), (5, .getfield 15, 3), (8, .imul, 1), (9, .istore_n 2, 1), (10, .iconst 0, 1), (11, .istore_n 3, 1), (12, .iload_n 3, 1), (13, .aload_n 0, 1), (14, .getfield 30, 3), (17, .if_icmp .ge 37, 3), (20, .aload_n 0, 1), (21, .getfield 9, 3), (24, .iload_n 3, 1), (25, .iaload, 1), (26, .iload_n 2, 1), (27, .if_icmp .le 21, 3), (30, .aload_n 0, 1), (31, .getfield 9, 3), (34, .iload_n 3, 1), (35, .aload_n 0, 1), (36, .getfield 9, 3), (39, .iload_n 3, 1), (40, .iaload, 1), (41, .iload_n 1, 1), (42, .isub, 1), (43, .iload_n 2, 1), (44, .invokestatic 32, 3), (47, .iastore, 1), (48, .iinc 3 1, 3), (51, .goto (-39), 3), (54, .return_, 1)]
def mm_X7_lose : MethodName × ByteArray × Nat × Option FieldType × Nat × List (Nat × Instr × Nat) := (yX7_lose, cX7_lose, 4, none, 7, tb_X7_lose)
def tb_X8_init : List (Nat × Instr × Nat) := [(0, .aload_n 0, 1), (1, .invokespecial 3, 3), (4, .aload_n 0, 1), (5, .bipush 6, 2), (7, .newarray .int, 2), (9, .putfield 9, 3), (12, .aload_n 0, 1), (13, .bipush 6, 2), (15, .newarray .int, 2), (17, .putfield 15, 3), (20, .aload_n 0, 1), (21, .invokevirtual 18, 3), (24, .return_, 1)]
def mm_X8_init : MethodName × ByteArray × Nat × Option FieldType × Nat × List (Nat × Instr × Nat) := (yX8_init, cX8_init, 1, none, 8, tb_X8_init)
def tb_X8_clear : List (Nat × Instr × Nat) := [(0, .iconst 0, 1), (1, .istore_n 1, 1), (2, .iload_n 1, 1), (3, .aload_n 0, 1), (4, .getfield 9, 3), (7, .arraylength, 1), (8, .if_icmp .ge 16, 3), (11, .aload_n 0, 1), (12, .getfield 9, 3), (15, .iload_n 1, 1), (16, .iload_n 1, 1), (17, .iastore, 1), (18, .iinc 1 1, 3), (21, .goto (-19), 3), (24, .aload_n 0, 1), (25, .bipush 50, 2), (27, .putfield 21, 3), (30, .aload_n 0, 1), (31, .lconst 0, 1), (32, .putfield 25, 3), (35, .iconst 0, 1), (36, .istore_n 1, 1), (37, .iload_n 1, 1), (38, .aload_n 0, 1), (39, .getfield 15, 3), (42, .arraylength, 1), (43, .if_icmp .ge 25, 3), (46, .aload_n 0, 1), (47, .getfield 15, 3), (50, .iload_n 1, 1), (51, .iload_n 1, 1), (52, .ifCond .ne 8, 3), (55, .bipush 10, 2), (57, .goto 4, 3), (60, .iconst 0, 1), (61, .iastore, 1), (62, .iinc 1 1, 3), (65, .goto (-28), 3), (68, .return_, 1)]
def mm_X8_clear : MethodName × ByteArray × Nat × Option FieldType × Nat × List (Nat × Instr × Nat) := (yX8_clear, cX8_clear, 2, none, 8, tb_X8_clear)
def tb_X8_becomeLike : List (Nat × Instr × Nat) := [(0, .aload_n 1, 1), (1, .getfield 9, 3), (4, .iconst 0, 1), (5, .aload_n 0, 1), (6, .getfield 9, 3), (9, .iconst 0, 1), (10, .aload_n 0, 1), (11, .getfield 9, 3), (14, .arraylength, 1), (15, .invokestatic 29, 3), (18, .aload_n 0, 1), (19, .aload_n 1, 1), (20, .getfield 21, 3), (23, .putfield 21, 3), (26, .aload_n 0, 1), (27, .aload_n 1, 1), (28, .getfield 25, 3), (31, .putfield 25, 3), (34, .aload_n 1, 1), (35, .getfield 15, 3), (38, .iconst 0, 1), (39, .aload_n 0, 1), (40, .getfield 15, 3), (43, .iconst 0, 1), (44, .aload_n 0, 1), (45, .getfield 15, 3), (48, .arraylength, 1), (49, .invokestatic 29, 3), (52, .return_, 1)]
def mm_X8_becomeLike : MethodName × ByteArray × Nat × Option FieldType × Nat × List (Nat × Instr × Nat) := (yX8_becomeLike, cX8_becomeLike, 2, none, 8, tb_X8_becomeLike)
def tb_X8_sumOfTenths : List (Nat × Instr × Nat) := [(0, .iconst 0, 1), (1, .istore_n 1, 1), (2, .aload_n 0, 1), (3, .getfield 15, 3), (6, .astore_n 2, 1), (7, .aload_n 2, 1), (8, .arraylength, 1), (9, .istore_n 3, 1), (10, .iconst 0, 1), (11, .istore 4, 2), (13, .iload 4, 2), (15, .iload_n 3, 1), (16, .if_icmp .ge 20, 3), (19, .aload_n 2, 1), (20, .iload 4, 2), (22, .iaload, 1), (23, .istore 5, 2), (25, .iload_n 1, 1), (26, .iload 5, 2), (28, .iadd, 1), (29, .istore_n 1, 1), (30, .iinc 4 1, 3), (33, .goto (-20), 3), (36, .iload_n 1, 1), (37, .ireturn, 1)]
def mm_X8_sumOfTenths : MethodName × ByteArray × Nat × Option FieldType × Nat × List (Nat × Instr × Nat) := (yX8_sumOfTenths, cX8_sumOfTenths, 6, some FieldType.int, 8, tb_X8_sumOfTenths)
def tb_X9_init : List (Nat × Instr × Nat) := [(0, .aload_n 0, 1), (1, .invokespecial 1, 3), (4, .aload_n 0, 1), (5, .sipush 400, 3), (8, .newarray .byte, 2), (10, .putfield 9, 3), (13, .aload_n 0, 1), (14, .new 13, 3), (17, .dup, 1), (18, .invokespecial 15, 3), (21, .putfield 16, 3), (24, .aload_n 0, 1), (25, .new 20, 3), (28, .dup, 1), (29, .invokespecial 22, 3), (32, .putfield 23, 3), (35, .aload_n 0, 1), (36, .new 20, 3), (39, .dup, 1), (40, .invokespecial 22, 3), (43, .putfield 27, 3), (46, .aload_n 0, 1), (47, .new 30, 3), (50, .dup, 1), (51, .invokespecial 32, 3), (54, .putfield 33, 3), (57, .aload_n 0, 1), (58, .iconst 2, 1), (59, .anewarray 30, 3), (62, .dup, 1), (63, .iconst 0, 1), (64, .new 30, 3), (67, .dup, 1), (68, .invokespecial 32, 3), (71, .aastore, 1), (72, .dup, 1), (73, .iconst 1, 1), (74, .new 30, 3), (77, .dup, 1), (78, .invokespecial 32, 3), (81, .aastore, 1), (82, .putfield 37, 3), (85, .aload_n 0, 1), (86, .new 41, 3), (89, .dup, 1), (90, .invokespecial 43, 3), (93, .putfield 44, 3), (96, .aload_n 0, 1), (97, .new 48, 3), (100, .dup, 1), (101, .invokespecial 50, 3), (104, .putfield 51, 3), (107, .aload_n 0, 1), (108, .bipush 6, 2), (110, .newarray .int, 2), (112, .putfield 55, 3), (115, .return_, 1)]
def mm_X9_init : MethodName × ByteArray × Nat × Option FieldType × Nat × List (Nat × Instr × Nat) := (yX9_init, cX9_init, 1, none, 9, tb_X9_init)
def tb_X9_write : List (Nat × Instr × Nat) := [(0, .iload_n 1, 1), (1, .iconst 1, 1), (2, .if_icmp .lt 9, 3), (5, .iload_n 1, 1), (6, .bipush 8, 2), (8, .if_icmp .le 5, 3), (11, .iconst (-1), 1), (12, .ireturn, 1), (13, .aload_n 0, 1), (14, .getfield 59, 3), (17, .iload_n 1, 1), (18, .iadd, 1), (19, .aload_n 0, 1), (20, .getfield 9, 3), (23, .arraylength, 1), (24, .if_icmp .le 6, 3), (27, .bipush (-3), 2), (29, .ireturn, 1), (30, .iload_n 1, 1), (31, .iconst 1, 1), (32, .isub, 1), (33, .istore 4, 2), (35, .iload 4, 2), (37, .ifCond .lt 37, 3), (40, .aload_n 0, 1), (41, .getfield 9, 3), (44, .aload_n 0, 1), (45, .getfield 59, 3), (48, .lload_n 2, 1), (49, .bipush 8, 2), (51, .iload 4, 2), (53, .imul, 1), (54, .lshr, 1), (55, .l2i, 1), (56, .i2b, 1), (57, .bastore, 1), (58, .aload_n 0, 1), (59, .dup, 1), (60, .getfield 59, 3), (63, .iconst 1, 1), (64, .iadd, 1), (65, .putfield 59, 3), (68, .iinc 4 (-1), 3), (71, .goto (-36), 3), (74, .aload_n 0, 1), (75, .getfield 59, 3), (78, .ireturn, 1)]
def mm_X9_write : MethodName × ByteArray × Nat × Option FieldType × Nat × List (Nat × Instr × Nat) := (yX9_write, cX9_write, 5, some FieldType.int, 9, tb_X9_write)
def tb_X9_wipe : List (Nat × Instr × Nat) := [(0, .aload_n 0, 1), (1, .getfield 59, 3), (4, .istore_n 1, 1), (5, .aload_n 0, 1), (6, .iconst 0, 1), (7, .putfield 59, 3), (10, .iload_n 1, 1), (11, .ireturn, 1)]
def mm_X9_wipe : MethodName × ByteArray × Nat × Option FieldType × Nat × List (Nat × Instr × Nat) := (yX9_wipe, cX9_wipe, 2, some FieldType.int, 9, tb_X9_wipe)
def tb_X9_fault : List (Nat × Instr × Nat) := [(0, .aload_n 0, 1), (1, .getfield 27, 3), (4, .invokevirtual 63, 3), (7, .aload_n 0, 1), (8, .getfield 59, 3), (11, .ifCond .ne 5, 3), (14, .iconst 0, 1), (15, .ireturn, 1), (16, .iconst 0, 1), (17, .istore_n 1, 1), (18, .iload_n 1, 1), (19, .aload_n 0, 1), (20, .getfield 59, 3), (23, .if_icmp .ge 46, 3), (26, .aload_n 0, 1), (27, .getfield 16, 3), (30, .aload_n 0, 1), (31, .getfield 9, 3), (34, .aload_n 0, 1), (35, .getfield 59, 3), (38, .iload_n 1, 1), (39, .invokevirtual 66, 3), (42, .istore_n 2, 1), (43, .iload_n 2, 1), (44, .iload_n 1, 1), (45, .if_icmp .le 17, 3), (48, .aload_n 0, 1), (49, .getfield 27, 3), (52, .aload_n 0, 1), (53, .getfield 16, 3), (56, .invokevirtual 70, 3), (59, .ifCond .ne 5, 3), (62, .iload_n 1, 1), (63, .ireturn, 1), (64, .iload_n 2, 1), (65, .istore_n 1, 1), (66, .goto (-48), 3), (69, .bipush (-4), 2), (71, .ireturn, 1)]
def mm_X9_fault : MethodName × ByteArray × Nat × Option FieldType × Nat × List (Nat × Instr × Nat) := (yX9_fault, cX9_fault, 3, some FieldType.int, 9, tb_X9_fault)
def tb_X9_lay : List (Nat × Instr × Nat) := [(0, .aload_n 0, 1), (1, .invokevirtual 74, 3), (4, .bipush (-4), 2), (6, .if_icmp .eq 6, 3), (9, .bipush (-2), 2), (11, .ireturn, 1), (12, .aload_n 0, 1), (13, .getfield 27, 3), (16, .astore_n 1, 1), (17, .aload_n 0, 1), (18, .aload_n 0, 1), (19, .getfield 23, 3), (22, .putfield 27, 3), (25, .aload_n 0, 1), (26, .aload_n 1, 1), (27, .putfield 23, 3), (30, .aload_n 0, 1), (31, .getfield 33, 3), (34, .invokevirtual 78, 3), (37, .aload_n 0, 1), (38, .iconst 0, 1), (39, .putfield 79, 3), (42, .aload_n 0, 1), (43, .getfield 23, 3), (46, .getfield 82, 3), (49, .ireturn, 1)]
def mm_X9_lay : MethodName × ByteArray × Nat × Option FieldType × Nat × List (Nat × Instr × Nat) := (yX9_lay, cX9_lay, 2, some FieldType.int, 9, tb_X9_lay)
def tb_X9_bather : List (Nat × Instr × Nat) := [(0, .aload_n 0, 1), (1, .getfield 23, 3), (4, .iload_n 1, 1), (5, .invokevirtual 85, 3), (8, .astore_n 3, 1), (9, .aload_n 3, 1), (10, .ifnull 13, 3), (13, .iload_n 2, 1), (14, .ifCond .lt 9, 3), (17, .iload_n 2, 1), (18, .bipush 7, 2), (20, .if_icmp .le 5, 3), (23, .iconst (-1), 1), (24, .ireturn, 1), (25, .aload_n 3, 1), (26, .iload_n 2, 1), (27, .invokevirtual 89, 3), (30, .ireturn, 1)]
def mm_X9_bather : MethodName × ByteArray × Nat × Option FieldType × Nat × List (Nat × Instr × Nat) := (yX9_bather, cX9_bather, 4, some FieldType.int, 9, tb_X9_bather)
def tb_X9_drawn : List (Nat × Instr × Nat) := [(0, .aload_n 0, 1), (1, .getfield 51, 3), (4, .getfield 95, 3), (7, .astore_n 3, 1), (8, .aload_n 3, 1), (9, .aload_n 0, 1), (10, .getfield 23, 3), (13, .invokevirtual 99, 3), (16, .iload_n 1, 1), (17, .ifCond .lt 27, 3), (20, .iload_n 1, 1), (21, .aload_n 3, 1), (22, .invokevirtual 105, 3), (25, .if_icmp .gt 19, 3), (28, .iload_n 2, 1), (29, .iconst (-1), 1), (30, .if_icmp .lt 14, 3), (33, .iload_n 2, 1), (34, .aload_n 0, 1), (35, .getfield 23, 3), (38, .getfield 108, 3), (41, .if_icmp .lt 5, 3), (44, .iconst (-1), 1), (45, .ireturn, 1), (46, .iload_n 2, 1), (47, .iconst (-1), 1), (48, .if_icmp .ne 9, 3), (51, .aload_n 3, 1), (52, .iload_n 1, 1), (53, .invokevirtual 111, 3), (56, .ireturn, 1), (57, .aload_n 3, 1), (58, .iload_n 1, 1), (59, .invokevirtual 114, 3), (62, .aload_n 3, 1), (63, .iload_n 2, 1), (64, .invokevirtual 118, 3), (67, .ireturn, 1)]
def mm_X9_drawn : MethodName × ByteArray × Nat × Option FieldType × Nat × List (Nat × Instr × Nat) := (yX9_drawn, cX9_drawn, 4, some FieldType.int, 9, tb_X9_drawn)
def tb_X9_bath : List (Nat × Instr × Nat) := [(0, .aload_n 0, 1), (1, .getfield 23, 3), (4, .iload_n 1, 1), (5, .invokevirtual 85, 3), (8, .astore 4, 2), (10, .aload 4, 2), (12, .ifnull 12, 3), (15, .iload_n 3, 1), (16, .ifCond .lt 8, 3), (19, .iload_n 3, 1), (20, .iconst 1, 1), (21, .if_icmp .le 5, 3), (24, .iconst (-1), 1), (25, .ireturn, 1), (26, .aload_n 0, 1), (27, .getfield 51, 3), (30, .getfield 95, 3), (33, .aload_n 0, 1), (34, .getfield 23, 3), (37, .invokevirtual 99, 3), (40, .aload_n 0, 1), (41, .getfield 51, 3), (44, .getfield 121, 3), (47, .aload_n 0, 1), (48, .getfield 51, 3), (51, .getfield 95, 3), (54, .aload 4, 2), (56, .iload_n 2, 1), (57, .ifCond .eq 13, 3), (60, .aload_n 0, 1), (61, .getfield 23, 3), (64, .getfield 125, 3), (67, .goto 4, 3), (70, .iconst 0, 1), (71, .invokevirtual 128, 3), (74, .ifCond .ne 6, 3), (77, .bipush (-2), 2), (79, .ireturn, 1), (80, .iload_n 3, 1), (81, .ifCond .ne 16, 3), (84, .aload_n 0, 1), (85, .getfield 51, 3), (88, .getfield 121, 3), (91, .getfield 134, 3), (94, .goto 13, 3), (97, .aload_n 0, 1), (98, .getfield 51, 3), (101, .getfield 121, 3), (104, .getfield 137, 3), (107, .ireturn, 1)]
def mm_X9_bath : MethodName × ByteArray × Nat × Option FieldType × Nat × List (Nat × Instr × Nat) := (yX9_bath, cX9_bath, 5, some FieldType.int, 9, tb_X9_bath)
def tb_X9_row : List (Nat × Instr × Nat) := [(0, .aload_n 0, 1), (1, .getfield 33, 3), (4, .getfield 140, 3), (7, .astore_n 3, 1), (8, .aload_n 0, 1), (9, .getfield 23, 3), (12, .iload_n 2, 1), (13, .invokevirtual 85, 3), (16, .ifnull 20, 3), (19, .aload_n 0, 1), (20, .getfield 23, 3), (23, .iload_n 1, 1), (24, .invokevirtual 85, 3), (27, .ifnull 9, 3), (30, .iload_n 1, 1), (31, .aload_n 3, 1), (32, .arraylength, 1), (33, .if_icmp .lt 5, 3), (36, .iconst (-1), 1), (37, .ireturn, 1), (38, .aload_n 3, 1), (39, .iload_n 1, 1), (40, .iaload, 1), (41, .istore 4, 2), (43, .iconst 0, 1), (44, .istore 5, 2), (46, .iload 5, 2), (48, .aload_n 3, 1), (49, .arraylength, 1), (50, .if_icmp .ge 23, 3), (53, .aload_n 3, 1), (54, .iload 5, 2), (56, .iaload, 1), (57, .iload_n 2, 1), (58, .if_icmp .ne 9, 3), (61, .aload_n 3, 1), (62, .iload 5, 2), (64, .iload 4, 2), (66, .iastore, 1), (67, .iinc 5 1, 3), (70, .goto (-24), 3), (73, .aload_n 3, 1), (74, .iload_n 1, 1), (75, .iload_n 2, 1), (76, .iastore, 1), (77, .iload 4, 2), (79, .ireturn, 1)]
def mm_X9_row : MethodName × ByteArray × Nat × Option FieldType × Nat × List (Nat × Instr × Nat) := (yX9_row, cX9_row, 6, some FieldType.int, 9, tb_X9_row)
def tb_X9_hot : List (Nat × Instr × Nat) := [(0, .iload_n 1, 1), (1, .ifCond .lt 9, 3), (4, .iload_n 1, 1), (5, .bipush 99, 2), (7, .if_icmp .le 5, 3), (10, .iconst (-1), 1), (11, .ireturn, 1), (12, .aload_n 0, 1), (13, .getfield 33, 3), (16, .getfield 143, 3), (19, .istore_n 2, 1), (20, .aload_n 0, 1), (21, .getfield 33, 3), (24, .iload_n 1, 1), (25, .putfield 143, 3), (28, .iload_n 2, 1), (29, .ireturn, 1)]
def mm_X9_hot : MethodName × ByteArray × Nat × Option FieldType × Nat × List (Nat × Instr × Nat) := (yX9_hot, cX9_hot, 3, some FieldType.int, 9, tb_X9_hot)
def tb_X9_plan : List (Nat × Instr × Nat) := [(0, .iload_n 1, 1), (1, .ifCond .lt 9, 3), (4, .iload_n 1, 1), (5, .bipush 60, 2), (7, .if_icmp .lt 5, 3), (10, .iconst (-1), 1), (11, .ireturn, 1), (12, .lconst 1, 1), (13, .iload_n 1, 1), (14, .lshl, 1), (15, .lstore_n 3, 1), (16, .aload_n 0, 1), (17, .getfield 33, 3), (20, .getfield 146, 3), (23, .lload_n 3, 1), (24, .land, 1), (25, .lconst 0, 1), (26, .lcmp, 1), (27, .ifCond .eq 7, 3), (30, .iconst 1, 1), (31, .goto 4, 3), (34, .iconst 0, 1), (35, .istore 5, 2), (37, .aload_n 0, 1), (38, .getfield 33, 3), (41, .iload_n 2, 1), (42, .ifCond .eq 15, 3), (45, .aload_n 0, 1), (46, .getfield 33, 3), (49, .getfield 146, 3), (52, .lload_n 3, 1), (53, .lor, 1), (54, .goto 16, 3), (57, .aload_n 0, 1), (58, .getfield 33, 3), (61, .getfield 146, 3), (64, .lload_n 3, 1), (65, .ldc2_w 150, 3), (68, .lxor, 1), (69, .land, 1), (70, .putfield 146, 3), (73, .iload 5, 2), (75, .ireturn, 1)]
def mm_X9_plan : MethodName × ByteArray × Nat × Option FieldType × Nat × List (Nat × Instr × Nat) := (yX9_plan, cX9_plan, 6, some FieldType.int, 9, tb_X9_plan)
def tb_X9_evening : List (Nat × Instr × Nat) := [(0, .aload_n 0, 1), (1, .getfield 23, 3), (4, .iload_n 2, 1), (5, .invokevirtual 85, 3), (8, .astore 4, 2), (10, .iload_n 1, 1), (11, .invokestatic 152, 3), (14, .ifCond .eq 17, 3), (17, .aload 4, 2), (19, .ifnull 12, 3), (22, .iload_n 3, 1), (23, .ifCond .lt 8, 3), (26, .iload_n 3, 1), (27, .iconst 3, 1), (28, .if_icmp .le 5, 3), (31, .iconst (-1), 1), (32, .ireturn, 1), (33, .aload_n 0, 1), (34, .iload_n 1, 1), (35, .invokevirtual 156, 3), (38, .aload_n 0, 1), (39, .getfield 51, 3), (42, .aload_n 0, 1), (43, .getfield 23, 3), (46, .aload_n 0, 1), (47, .getfield 44, 3), (50, .invokevirtual 159, 3), (53, .pop, 1), (54, .iload_n 3, 1), (55, .tableswitch 43 0 2 #[25, 31, 37], 25), (80, .aload 4, 2), (82, .getfield 163, 3), (85, .ireturn, 1), (86, .aload 4, 2), (88, .getfield 166, 3), (91, .ireturn, 1), (92, .aload 4, 2), (94, .getfield 169, 3), (97, .ireturn, 1), (98, .aload 4, 2), (100, .getfield 170, 3), (103, .ireturn, 1)]
def mm_X9_evening : MethodName × ByteArray × Nat × Option FieldType × Nat × List (Nat × Instr × Nat) := (yX9_evening, cX9_evening, 5, some FieldType.int, 9, tb_X9_evening)
def tb_X9_score : List (Nat × Instr × Nat) := [(0, .iload_n 1, 1), (1, .invokestatic 152, 3), (4, .ifCond .eq 12, 3), (7, .iload_n 2, 1), (8, .ifCond .lt 8, 3), (11, .iload_n 2, 1), (12, .iconst 2, 1), (13, .if_icmp .le 5, 3), (16, .iconst (-1), 1), (17, .ireturn, 1), (18, .aload_n 0, 1), (19, .iload_n 1, 1), (20, .invokevirtual 156, 3), (23, .aload_n 0, 1), (24, .getfield 51, 3), (27, .aload_n 0, 1), (28, .getfield 23, 3), (31, .aload_n 0, 1), (32, .getfield 44, 3), (35, .invokevirtual 159, 3), (38, .istore_n 3, 1), (39, .iload_n 2, 1), (40, .lookupswitch 38 #[(0, 28), (1, 33)], 28), (68, .iload_n 3, 1), (69, .bipush 100, 2), (71, .idiv, 1), (72, .ireturn, 1), (73, .iload_n 3, 1), (74, .bipush 100, 2), (76, .irem, 1), (77, .ireturn, 1), (78, .iload_n 3, 1), (79, .ireturn, 1)]
def mm_X9_score : MethodName × ByteArray × Nat × Option FieldType × Nat × List (Nat × Instr × Nat) := (yX9_score, cX9_score, 4, some FieldType.int, 9, tb_X9_score)
def tb_X9_left : List (Nat × Instr × Nat) := [(0, .iload_n 1, 1), (1, .invokestatic 152, 3), (4, .ifCond .eq 30, 3), (7, .iload_n 2, 1), (8, .ifCond .lt 26, 3), (11, .iload_n 2, 1), (12, .bipush 7, 2), (14, .if_icmp .gt 20, 3), (17, .iload_n 2, 1), (18, .bipush 6, 2), (20, .if_icmp .ge 16, 3), (23, .iload_n 2, 1), (24, .aload_n 0, 1), (25, .getfield 23, 3), (28, .getfield 108, 3), (31, .if_icmp .lt 5, 3), (34, .iconst (-1), 1), (35, .ireturn, 1), (36, .aload_n 0, 1), (37, .iload_n 1, 1), (38, .invokevirtual 156, 3), (41, .aload_n 0, 1), (42, .getfield 51, 3), (45, .aload_n 0, 1), (46, .getfield 23, 3), (49, .aload_n 0, 1), (50, .getfield 44, 3), (53, .invokevirtual 159, 3), (56, .pop, 1), (57, .iload_n 2, 1), (58, .lookupswitch 48 #[(6, 26), (7, 37)], 26), (84, .aload_n 0, 1), (85, .getfield 51, 3), (88, .getfield 173, 3), (91, .getfield 177, 3), (94, .ireturn, 1), (95, .aload_n 0, 1), (96, .getfield 51, 3), (99, .getfield 173, 3), (102, .getfield 182, 3), (105, .ireturn, 1), (106, .aload_n 0, 1), (107, .getfield 51, 3), (110, .getfield 95, 3), (113, .iload_n 2, 1), (114, .invokevirtual 185, 3), (117, .ireturn, 1)]
def mm_X9_left : MethodName × ByteArray × Nat × Option FieldType × Nat × List (Nat × Instr × Nat) := (yX9_left, cX9_left, 3, some FieldType.int, 9, tb_X9_left)
def tb_X9_best : List (Nat × Instr × Nat) := [(0, .iload_n 1, 1), (1, .iconst (-1), 1), (2, .if_icmp .lt 23, 3), (5, .iload_n 1, 1), (6, .aload_n 0, 1), (7, .getfield 23, 3), (10, .getfield 82, 3), (13, .if_icmp .ge 12, 3), (16, .iload_n 1, 1), (17, .aload_n 0, 1), (18, .getfield 55, 3), (21, .arraylength, 1), (22, .if_icmp .lt 5, 3), (25, .iconst (-1), 1), (26, .ireturn, 1), (27, .aload_n 0, 1), (28, .iconst 0, 1), (29, .invokevirtual 156, 3), (32, .aload_n 0, 1), (33, .getfield 44, 3), (36, .invokevirtual 188, 3), (39, .aload_n 0, 1), (40, .getfield 51, 3), (43, .aload_n 0, 1), (44, .getfield 23, 3), (47, .aload_n 0, 1), (48, .getfield 44, 3), (51, .invokevirtual 159, 3), (54, .istore_n 2, 1), (55, .aload_n 0, 1), (56, .getfield 44, 3), (59, .aload_n 0, 1), (60, .getfield 55, 3), (63, .invokevirtual 191, 3), (66, .iconst 1, 1), (67, .istore_n 3, 1), (68, .iload_n 3, 1), (69, .sipush 720, 3), (72, .if_icmp .ge 63, 3), (75, .aload_n 0, 1), (76, .getfield 44, 3), (79, .aload_n 0, 1), (80, .getfield 23, 3), (83, .getfield 82, 3), (86, .invokevirtual 195, 3), (89, .ifCond .eq 46, 3), (92, .aload_n 0, 1), (93, .getfield 51, 3), (96, .aload_n 0, 1), (97, .getfield 23, 3), (100, .aload_n 0, 1), (101, .getfield 44, 3), (104, .invokevirtual 159, 3), (107, .istore 4, 2), (109, .iload 4, 2), (111, .iload_n 2, 1), (112, .if_icmp .ge 17, 3), (115, .iload 4, 2), (117, .istore_n 2, 1), (118, .aload_n 0, 1), (119, .getfield 44, 3), (122, .aload_n 0, 1), (123, .getfield 55, 3), (126, .invokevirtual 191, 3), (129, .iinc 3 1, 3), (132, .goto (-64), 3), (135, .iload_n 1, 1), (136, .iconst (-1), 1), (137, .if_icmp .ne 7, 3), (140, .iload_n 2, 1), (141, .goto 9, 3), (144, .aload_n 0, 1), (145, .getfield 55, 3), (148, .iload_n 1, 1), (149, .iaload, 1), (150, .ireturn, 1)]
def mm_X9_best : MethodName × ByteArray × Nat × Option FieldType × Nat × List (Nat × Instr × Nat) := (yX9_best, cX9_best, 5, some FieldType.int, 9, tb_X9_best)
def tb_X9_swapped : List (Nat × Instr × Nat) := [(0, .aload_n 0, 1), (1, .iconst 0, 1), (2, .invokevirtual 156, 3), (5, .aload_n 0, 1), (6, .getfield 51, 3), (9, .aload_n 0, 1), (10, .getfield 23, 3), (13, .aload_n 0, 1), (14, .getfield 44, 3), (17, .invokevirtual 159, 3), (20, .istore_n 1, 1), (21, .iconst 0, 1), (22, .istore_n 2, 1), (23, .iconst 0, 1), (24, .istore_n 3, 1), (25, .iconst 0, 1), (26, .istore 4, 2), (28, .iload 4, 2), (30, .ldc 198, 2), (32, .if_icmp .ge 81, 3), (35, .iload_n 3, 1), (36, .iconst 1, 1), (37, .iadd, 1), (38, .aload_n 0, 1), (39, .getfield 23, 3), (42, .getfield 82, 3), (45, .if_icmp .ge 68, 3), (48, .aload_n 0, 1), (49, .getfield 44, 3), (52, .iload_n 3, 1), (53, .iload_n 3, 1), (54, .iconst 1, 1), (55, .iadd, 1), (56, .invokevirtual 199, 3), (59, .aload_n 0, 1), (60, .getfield 51, 3), (63, .aload_n 0, 1), (64, .getfield 23, 3), (67, .aload_n 0, 1), (68, .getfield 44, 3), (71, .invokevirtual 159, 3), (74, .istore 5, 2), (76, .iload 5, 2), (78, .iload_n 1, 1), (79, .if_icmp .ge 14, 3), (82, .iload 5, 2), (84, .istore_n 1, 1), (85, .iinc 2 1, 3), (88, .iconst 0, 1), (89, .istore_n 3, 1), (90, .goto 17, 3), (93, .aload_n 0, 1), (94, .getfield 44, 3), (97, .iload_n 3, 1), (98, .iload_n 3, 1), (99, .iconst 1, 1), (100, .iadd, 1), (101, .invokevirtual 199, 3), (104, .iinc 3 1, 3), (107, .iinc 4 1, 3), (110, .goto (-82), 3), (113, .aload_n 0, 1), (114, .getfield 44, 3), (117, .aload_n 0, 1), (118, .getfield 33, 3), (121, .getfield 140, 3), (124, .invokevirtual 191, 3), (127, .iload_n 2, 1), (128, .ireturn, 1)]
def mm_X9_swapped : MethodName × ByteArray × Nat × Option FieldType × Nat × List (Nat × Instr × Nat) := (yX9_swapped, cX9_swapped, 6, some FieldType.int, 9, tb_X9_swapped)
def tb_X9_when : List (Nat × Instr × Nat) := [(0, .iload_n 1, 1), (1, .invokestatic 152, 3), (4, .ifCond .eq 12, 3), (7, .iload_n 2, 1), (8, .ifCond .lt 8, 3), (11, .iload_n 2, 1), (12, .iconst 1, 1), (13, .if_icmp .le 5, 3), (16, .iconst (-1), 1), (17, .ireturn, 1), (18, .aload_n 0, 1), (19, .iload_n 1, 1), (20, .invokevirtual 156, 3), (23, .aload_n 0, 1), (24, .getfield 44, 3), (27, .aload_n 0, 1), (28, .getfield 23, 3), (31, .getfield 203, 3), (34, .iconst 1, 1), (35, .iadd, 1), (36, .putfield 206, 3), (39, .bipush (-4), 2), (41, .istore_n 3, 1), (42, .bipush (-4), 2), (44, .istore 4, 2), (46, .iconst 0, 1), (47, .istore 5, 2), (49, .iload 5, 2), (51, .aload_n 0, 1), (52, .getfield 23, 3), (55, .getfield 207, 3), (58, .if_icmp .ge 86, 3), (61, .aload_n 0, 1), (62, .getfield 44, 3), (65, .aload_n 0, 1), (66, .getfield 33, 3), (69, .getfield 146, 3), (72, .lconst 1, 1), (73, .iload 5, 2), (75, .lshl, 1), (76, .lor, 1), (77, .putfield 210, 3), (80, .aload_n 0, 1), (81, .getfield 44, 3), (84, .getfield 210, 3), (87, .aload_n 0, 1), (88, .getfield 33, 3), (91, .getfield 146, 3), (94, .lcmp, 1), (95, .ifCond .ne 6, 3), (98, .goto 40, 3), (101, .aload_n 0, 1), (102, .getfield 51, 3), (105, .aload_n 0, 1), (106, .getfield 23, 3), (109, .aload_n 0, 1), (110, .getfield 44, 3), (113, .invokevirtual 159, 3), (116, .istore 6, 2), (118, .iload_n 3, 1), (119, .bipush (-4), 2), (121, .if_icmp .eq 10, 3), (124, .iload 6, 2), (126, .iload 4, 2), (128, .if_icmp .ge 10, 3), (131, .iload 5, 2), (133, .istore_n 3, 1), (134, .iload 6, 2), (136, .istore 4, 2), (138, .iinc 5 1, 3), (141, .goto (-92), 3), (144, .iload_n 2, 1), (145, .ifCond .ne 7, 3), (148, .iload_n 3, 1), (149, .goto 5, 3), (152, .iload 4, 2), (154, .ireturn, 1)]
def mm_X9_when : MethodName × ByteArray × Nat × Option FieldType × Nat × List (Nat × Instr × Nat) := (yX9_when, cX9_when, 7, some FieldType.int, 9, tb_X9_when)
def tb_X9_fewest : List (Nat × Instr × Nat) := [(0, .iload_n 1, 1), (1, .invokestatic 152, 3), (4, .ifCond .eq 12, 3), (7, .iload_n 2, 1), (8, .ifCond .lt 8, 3), (11, .iload_n 2, 1), (12, .iconst 2, 1), (13, .if_icmp .le 5, 3), (16, .iconst (-1), 1), (17, .ireturn, 1), (18, .aload_n 0, 1), (19, .iload_n 1, 1), (20, .invokevirtual 156, 3), (23, .aload_n 0, 1), (24, .lconst 0, 1), (25, .invokevirtual 211, 3), (28, .ifCond .eq 14, 3), (31, .iload_n 2, 1), (32, .ifCond .ne 7, 3), (35, .iconst 0, 1), (36, .goto 5, 3), (39, .bipush (-4), 2), (41, .ireturn, 1), (42, .iconst 0, 1), (43, .istore_n 3, 1), (44, .iload_n 3, 1), (45, .aload_n 0, 1), (46, .getfield 23, 3), (49, .getfield 207, 3), (52, .if_icmp .ge 39, 3), (55, .aload_n 0, 1), (56, .lconst 1, 1), (57, .iload_n 3, 1), (58, .lshl, 1), (59, .invokevirtual 211, 3), (62, .ifCond .eq 23, 3), (65, .iload_n 2, 1), (66, .ifCond .ne 7, 3), (69, .iconst 1, 1), (70, .goto 14, 3), (73, .iload_n 2, 1), (74, .iconst 1, 1), (75, .if_icmp .ne 7, 3), (78, .iload_n 3, 1), (79, .goto 5, 3), (82, .bipush (-4), 2), (84, .ireturn, 1), (85, .iinc 3 1, 3), (88, .goto (-44), 3), (91, .iconst 0, 1), (92, .istore_n 3, 1), (93, .iload_n 3, 1), (94, .aload_n 0, 1), (95, .getfield 23, 3), (98, .getfield 207, 3), (101, .if_icmp .ge 67, 3), (104, .iload_n 3, 1), (105, .iconst 1, 1), (106, .iadd, 1), (107, .istore 4, 2), (109, .iload 4, 2), (111, .aload_n 0, 1), (112, .getfield 23, 3), (115, .getfield 207, 3), (118, .if_icmp .ge 44, 3), (121, .aload_n 0, 1), (122, .lconst 1, 1), (123, .iload_n 3, 1), (124, .lshl, 1), (125, .lconst 1, 1), (126, .iload 4, 2), (128, .lshl, 1), (129, .lor, 1), (130, .invokevirtual 211, 3), (133, .ifCond .eq 23, 3), (136, .iload_n 2, 1), (137, .ifCond .ne 7, 3), (140, .iconst 2, 1), (141, .goto 14, 3), (144, .iload_n 2, 1), (145, .iconst 1, 1), (146, .if_icmp .ne 7, 3), (149, .iload_n 3, 1), (150, .goto 5, 3), (153, .iload 4, 2), (155, .ireturn, 1), (156, .iinc 4 1, 3), (159, .goto (-50), 3), (162, .iinc 3 1, 3), (165, .goto (-72), 3), (168, .bipush (-4), 2), (170, .ireturn, 1)]
def mm_X9_fewest : MethodName × ByteArray × Nat × Option FieldType × Nat × List (Nat × Instr × Nat) := (yX9_fewest, cX9_fewest, 5, some FieldType.int, 9, tb_X9_fewest)
def tb_X9_bigger : List (Nat × Instr × Nat) := [(0, .iload_n 1, 1), (1, .invokestatic 152, 3), (4, .ifCond .eq 12, 3), (7, .iload_n 2, 1), (8, .ifCond .lt 8, 3), (11, .iload_n 2, 1), (12, .iconst 3, 1), (13, .if_icmp .le 5, 3), (16, .iconst (-1), 1), (17, .ireturn, 1), (18, .iload_n 2, 1), (19, .ifCond .ne 18, 3), (22, .aload_n 0, 1), (23, .getfield 23, 3), (26, .getfield 108, 3), (29, .bipush 6, 2), (31, .if_icmp .lt 6, 3), (34, .bipush (-2), 2), (36, .ireturn, 1), (37, .aload_n 0, 1), (38, .iload_n 1, 1), (39, .invokevirtual 156, 3), (42, .aload_n 0, 1), (43, .getfield 27, 3), (46, .aload_n 0, 1), (47, .getfield 23, 3), (50, .invokevirtual 215, 3), (53, .aload_n 0, 1), (54, .getfield 27, 3), (57, .iload_n 2, 1), (58, .invokevirtual 218, 3), (61, .aload_n 0, 1), (62, .getfield 51, 3), (65, .aload_n 0, 1), (66, .getfield 27, 3), (69, .aload_n 0, 1), (70, .getfield 44, 3), (73, .invokevirtual 159, 3), (76, .ireturn, 1)]
def mm_X9_bigger : MethodName × ByteArray × Nat × Option FieldType × Nat × List (Nat × Instr × Nat) := (yX9_bigger, cX9_bigger, 3, some FieldType.int, 9, tb_X9_bigger)
def tb_X9_tap : List (Nat × Instr × Nat) := [(0, .iload_n 1, 1), (1, .invokestatic 152, 3), (4, .ifCond .eq 37, 3), (7, .iload_n 2, 1), (8, .ifCond .lt 33, 3), (11, .iload_n 2, 1), (12, .bipush 59, 2), (14, .if_icmp .gt 27, 3), (17, .iload_n 3, 1), (18, .iconst 1, 1), (19, .if_icmp .lt 22, 3), (22, .iload_n 3, 1), (23, .bipush 60, 2), (25, .if_icmp .gt 16, 3), (28, .iload 4, 2), (30, .iconst 1, 1), (31, .if_icmp .lt 10, 3), (34, .iload 4, 2), (36, .bipush 99, 2), (38, .if_icmp .le 5, 3), (41, .iconst (-1), 1), (42, .ireturn, 1), (43, .aload_n 0, 1), (44, .iload_n 1, 1), (45, .invokevirtual 156, 3), (48, .aload_n 0, 1), (49, .getfield 44, 3), (52, .iload_n 2, 1), (53, .putfield 221, 3), (56, .aload_n 0, 1), (57, .getfield 44, 3), (60, .iload_n 3, 1), (61, .putfield 224, 3), (64, .aload_n 0, 1), (65, .getfield 44, 3), (68, .iload 4, 2), (70, .putfield 227, 3), (73, .aload_n 0, 1), (74, .getfield 51, 3), (77, .aload_n 0, 1), (78, .getfield 23, 3), (81, .aload_n 0, 1), (82, .getfield 44, 3), (85, .invokevirtual 159, 3), (88, .ireturn, 1)]
def mm_X9_tap : MethodName × ByteArray × Nat × Option FieldType × Nat × List (Nat × Instr × Nat) := (yX9_tap, cX9_tap, 5, some FieldType.int, 9, tb_X9_tap)
def tb_X9_tenths : List (Nat × Instr × Nat) := [(0, .iload_n 1, 1), (1, .ifCond .lt 25, 3), (4, .iload_n 1, 1), (5, .aload_n 0, 1), (6, .getfield 33, 3), (9, .getfield 230, 3), (12, .arraylength, 1), (13, .if_icmp .ge 13, 3), (16, .iload_n 2, 1), (17, .ifCond .lt 9, 3), (20, .iload_n 2, 1), (21, .bipush 10, 2), (23, .if_icmp .le 5, 3), (26, .iconst (-1), 1), (27, .ireturn, 1), (28, .aload_n 0, 1), (29, .getfield 33, 3), (32, .getfield 230, 3), (35, .iload_n 1, 1), (36, .iaload, 1), (37, .istore_n 3, 1), (38, .aload_n 0, 1), (39, .getfield 33, 3), (42, .getfield 230, 3), (45, .iload_n 1, 1), (46, .iload_n 2, 1), (47, .iastore, 1), (48, .iload_n 3, 1), (49, .ireturn, 1)]
def mm_X9_tenths : MethodName × ByteArray × Nat × Option FieldType × Nat × List (Nat × Instr × Nat) := (yX9_tenths, cX9_tenths, 4, some FieldType.int, 9, tb_X9_tenths)
def tb_X9_told : List (Nat × Instr × Nat) := [(0, .aload_n 0, 1), (1, .getfield 23, 3), (4, .iload_n 2, 1), (5, .invokevirtual 85, 3), (8, .astore 4, 2), (10, .iload_n 1, 1), (11, .invokestatic 152, 3), (14, .ifCond .eq 17, 3), (17, .aload 4, 2), (19, .ifnull 12, 3), (22, .iload_n 3, 1), (23, .ifCond .lt 8, 3), (26, .iload_n 3, 1), (27, .iconst 1, 1), (28, .if_icmp .le 5, 3), (31, .iconst (-1), 1), (32, .ireturn, 1), (33, .aload_n 0, 1), (34, .getfield 33, 3), (37, .invokevirtual 233, 3), (40, .bipush 10, 2), (42, .if_icmp .eq 6, 3), (45, .bipush (-2), 2), (47, .ireturn, 1), (48, .aload_n 0, 1), (49, .iload_n 1, 1), (50, .invokevirtual 156, 3), (53, .bipush (-4), 2), (55, .istore 5, 2), (57, .bipush (-4), 2), (59, .istore 6, 2), (61, .iconst 0, 1), (62, .istore 7, 2), (64, .iload 7, 2), (66, .aload 4, 2), (68, .getfield 236, 3), (71, .if_icmp .gt 41, 3), (74, .aload_n 0, 1), (75, .aload 4, 2), (77, .iload 7, 2), (79, .invokevirtual 239, 3), (82, .istore 8, 2), (84, .iload 5, 2), (86, .bipush (-4), 2), (88, .if_icmp .eq 10, 3), (91, .iload 8, 2), (93, .iload 6, 2), (95, .if_icmp .gt 11, 3), (98, .iload 7, 2), (100, .istore 5, 2), (102, .iload 8, 2), (104, .istore 6, 2), (106, .iinc 7 1, 3), (109, .goto (-45), 3), (112, .iload_n 3, 1), (113, .ifCond .ne 8, 3), (116, .iload 5, 2), (118, .goto 5, 3), (121, .iload 6, 2), (123, .ireturn, 1)]
def mm_X9_told : MethodName × ByteArray × Nat × Option FieldType × Nat × List (Nat × Instr × Nat) := (yX9_told, cX9_told, 9, some FieldType.int, 9, tb_X9_told)
def tb_X9_looks : List (Nat × Instr × Nat) := [(0, .aload_n 0, 1), (1, .getfield 23, 3), (4, .iload_n 1, 1), (5, .invokevirtual 85, 3), (8, .astore_n 2, 1), (9, .aload_n 2, 1), (10, .ifnonnull 11, 3), (13, .iload_n 1, 1), (14, .bipush 6, 2), (16, .if_icmp .eq 5, 3), (19, .iconst (-1), 1), (20, .ireturn, 1), (21, .aload_n 0, 1), (22, .iconst 1, 1), (23, .invokevirtual 156, 3), (26, .iconst 1, 1), (27, .istore_n 3, 1), (28, .iconst 0, 1), (29, .istore 4, 2), (31, .iload_n 3, 1), (32, .ifCond .eq 93, 3), (35, .iload 4, 2), (37, .bipush 12, 2), (39, .if_icmp .ge 86, 3), (42, .iconst 0, 1), (43, .istore_n 3, 1), (44, .iinc 4 1, 3), (47, .iconst 0, 1), (48, .istore 5, 2), (50, .iload 5, 2), (52, .aload_n 0, 1), (53, .getfield 23, 3), (56, .getfield 82, 3), (59, .if_icmp .ge 63, 3), (62, .aload_n 0, 1), (63, .getfield 23, 3), (66, .iload 5, 2), (68, .invokevirtual 85, 3), (71, .astore 6, 2), (73, .aload 6, 2), (75, .ifnull 41, 3), (78, .aload 6, 2), (80, .getfield 243, 3), (83, .istore 7, 2), (85, .aload 6, 2), (87, .aload_n 0, 1), (88, .aload 6, 2), (90, .invokevirtual 246, 3), (93, .putfield 243, 3), (96, .iload_n 3, 1), (97, .ifCond .ne 13, 3), (100, .aload 6, 2), (102, .getfield 243, 3), (105, .iload 7, 2), (107, .if_icmp .eq 7, 3), (110, .iconst 1, 1), (111, .goto 4, 3), (114, .iconst 0, 1), (115, .istore_n 3, 1), (116, .iinc 5 1, 3), (119, .goto (-69), 3), (122, .goto (-91), 3), (125, .iload_n 3, 1), (126, .ifCond .eq 6, 3), (129, .bipush (-4), 2), (131, .ireturn, 1), (132, .aload_n 2, 1), (133, .ifnonnull 8, 3), (136, .iload 4, 2), (138, .goto 12, 3), (141, .aload_n 2, 1), (142, .getfield 243, 3), (145, .aload_n 2, 1), (146, .getfield 236, 3), (149, .isub, 1), (150, .ireturn, 1)]
def mm_X9_looks : MethodName × ByteArray × Nat × Option FieldType × Nat × List (Nat × Instr × Nat) := (yX9_looks, cX9_looks, 8, some FieldType.int, 9, tb_X9_looks)
def tb_X9_keep : List (Nat × Instr × Nat) := [(0, .aload_n 0, 1), (1, .getfield 79, 3), (4, .ifCond .lt 23, 3), (7, .aload_n 0, 1), (8, .getfield 79, 3), (11, .iconst 2, 1), (12, .if_icmp .ge 15, 3), (15, .aload_n 0, 1), (16, .getfield 79, 3), (19, .aload_n 0, 1), (20, .getfield 37, 3), (23, .arraylength, 1), (24, .if_icmp .lt 6, 3), (27, .bipush (-3), 2), (29, .ireturn, 1), (30, .aload_n 0, 1), (31, .getfield 37, 3), (34, .aload_n 0, 1), (35, .getfield 79, 3), (38, .aaload, 1), (39, .aload_n 0, 1), (40, .getfield 33, 3), (43, .invokevirtual 250, 3), (46, .aload_n 0, 1), (47, .dup, 1), (48, .getfield 79, 3), (51, .iconst 1, 1), (52, .iadd, 1), (53, .putfield 79, 3), (56, .aload_n 0, 1), (57, .getfield 79, 3), (60, .ireturn, 1)]
def mm_X9_keep : MethodName × ByteArray × Nat × Option FieldType × Nat × List (Nat × Instr × Nat) := (yX9_keep, cX9_keep, 1, some FieldType.int, 9, tb_X9_keep)
def tb_X9_back : List (Nat × Instr × Nat) := [(0, .aload_n 0, 1), (1, .getfield 79, 3), (4, .iconst 1, 1), (5, .if_icmp .lt 15, 3), (8, .aload_n 0, 1), (9, .getfield 79, 3), (12, .aload_n 0, 1), (13, .getfield 37, 3), (16, .arraylength, 1), (17, .if_icmp .le 6, 3), (20, .bipush (-2), 2), (22, .ireturn, 1), (23, .aload_n 0, 1), (24, .dup, 1), (25, .getfield 79, 3), (28, .iconst 1, 1), (29, .isub, 1), (30, .putfield 79, 3), (33, .aload_n 0, 1), (34, .getfield 33, 3), (37, .aload_n 0, 1), (38, .getfield 37, 3), (41, .aload_n 0, 1), (42, .getfield 79, 3), (45, .aaload, 1), (46, .invokevirtual 250, 3), (49, .aload_n 0, 1), (50, .getfield 79, 3), (53, .ireturn, 1)]
def mm_X9_back : MethodName × ByteArray × Nat × Option FieldType × Nat × List (Nat × Instr × Nat) := (yX9_back, cX9_back, 1, some FieldType.int, 9, tb_X9_back)
def tb_X9_count : List (Nat × Instr × Nat) := [(0, .iload_n 1, 1), (1, .tableswitch 96 0 6 #[43, 51, 59, 67, 72, 83, 88], 43), (44, .aload_n 0, 1), (45, .getfield 23, 3), (48, .getfield 82, 3), (51, .ireturn, 1), (52, .aload_n 0, 1), (53, .getfield 23, 3), (56, .getfield 108, 3), (59, .ireturn, 1), (60, .aload_n 0, 1), (61, .getfield 23, 3), (64, .getfield 207, 3), (67, .ireturn, 1), (68, .aload_n 0, 1), (69, .getfield 59, 3), (72, .ireturn, 1), (73, .aload_n 0, 1), (74, .getfield 33, 3), (77, .getfield 146, 3), (80, .invokestatic 253, 3), (83, .ireturn, 1), (84, .aload_n 0, 1), (85, .getfield 79, 3), (88, .ireturn, 1), (89, .aload_n 0, 1), (90, .getfield 23, 3), (93, .getfield 203, 3), (96, .ireturn, 1), (97, .iconst (-1), 1), (98, .ireturn, 1)]
def mm_X9_count : MethodName × ByteArray × Nat × Option FieldType × Nat × List (Nat × Instr × Nat) := (yX9_count, cX9_count, 2, some FieldType.int, 9, tb_X9_count)
def tb_X9_isRule : List (Nat × Instr × Nat) := [(0, .iload_n 0, 1), (1, .ifCond .lt 12, 3), (4, .iload_n 0, 1), (5, .iconst 3, 1), (6, .if_icmp .gt 7, 3), (9, .iconst 1, 1), (10, .goto 4, 3), (13, .iconst 0, 1), (14, .ireturn, 1)]
def mm_X9_isRule : MethodName × ByteArray × Nat × Option FieldType × Nat × List (Nat × Instr × Nat) := (yX9_isRule, cX9_isRule, 1, some FieldType.boolean, 9, tb_X9_isRule)
def tb_X9_ask : List (Nat × Instr × Nat) := [(0, .aload_n 0, 1), (1, .getfield 44, 3), (4, .iload_n 1, 1), (5, .aload_n 0, 1), (6, .getfield 33, 3), (9, .aload_n 0, 1), (10, .getfield 23, 3), (13, .getfield 203, 3), (16, .invokevirtual 259, 3), (19, .aload_n 0, 1), (20, .getfield 23, 3), (23, .invokevirtual 263, 3), (26, .return_, 1)]
def mm_X9_ask : MethodName × ByteArray × Nat × Option FieldType × Nat × List (Nat × Instr × Nat) := (yX9_ask, cX9_ask, 2, none, 9, tb_X9_ask)
def tb_X9_nobodyLate : List (Nat × Instr × Nat) := [(0, .aload_n 0, 1), (1, .getfield 44, 3), (4, .lload_n 1, 1), (5, .putfield 210, 3), (8, .aload_n 0, 1), (9, .getfield 51, 3), (12, .aload_n 0, 1), (13, .getfield 23, 3), (16, .aload_n 0, 1), (17, .getfield 44, 3), (20, .invokevirtual 159, 3), (23, .bipush 100, 2), (25, .if_icmp .ge 7, 3), (28, .iconst 1, 1), (29, .goto 4, 3), (32, .iconst 0, 1), (33, .ireturn, 1)]
def mm_X9_nobodyLate : MethodName × ByteArray × Nat × Option FieldType × Nat × List (Nat × Instr × Nat) := (yX9_nobodyLate, cX9_nobodyLate, 3, some FieldType.boolean, 9, tb_X9_nobodyLate)
def tb_X9_sumToldAt : List (Nat × Instr × Nat) := [(0, .iconst 0, 1), (1, .istore_n 3, 1), (2, .iconst 0, 1), (3, .istore 4, 2), (5, .iload 4, 2), (7, .aload_n 0, 1), (8, .getfield 33, 3), (11, .getfield 230, 3), (14, .arraylength, 1), (15, .if_icmp .ge 55, 3), (18, .aload_n 0, 1), (19, .getfield 33, 3), (22, .getfield 230, 3), (25, .iload 4, 2), (27, .iaload, 1), (28, .istore 5, 2), (30, .iload 5, 2), (32, .ifCond .le 32, 3), (35, .aload_n 1, 1), (36, .iload_n 2, 1), (37, .iload 4, 2), (39, .iadd, 1), (40, .putfield 243, 3), (43, .iload_n 3, 1), (44, .iload 5, 2), (46, .aload_n 0, 1), (47, .getfield 51, 3), (50, .aload_n 0, 1), (51, .getfield 23, 3), (54, .aload_n 0, 1), (55, .getfield 44, 3), (58, .invokevirtual 159, 3), (61, .imul, 1), (62, .iadd, 1), (63, .istore_n 3, 1), (64, .iinc 4 1, 3), (67, .goto (-62), 3), (70, .iload_n 3, 1), (71, .ireturn, 1)]
def mm_X9_sumToldAt : MethodName × ByteArray × Nat × Option FieldType × Nat × List (Nat × Instr × Nat) := (yX9_sumToldAt, cX9_sumToldAt, 6, some FieldType.int, 9, tb_X9_sumToldAt)
def tb_X9_bestToCome : List (Nat × Instr × Nat) := [(0, .aload_n 1, 1), (1, .getfield 236, 3), (4, .istore_n 2, 1), (5, .iconst 0, 1), (6, .istore_n 3, 1), (7, .iconst 0, 1), (8, .istore 4, 2), (10, .iload 4, 2), (12, .iconst 5, 1), (13, .if_icmp .gt 86, 3), (16, .aload_n 1, 1), (17, .aload_n 1, 1), (18, .getfield 236, 3), (21, .iload 4, 2), (23, .iadd, 1), (24, .putfield 243, 3), (27, .aload_n 0, 1), (28, .getfield 51, 3), (31, .aload_n 0, 1), (32, .getfield 23, 3), (35, .aload_n 0, 1), (36, .getfield 44, 3), (39, .invokevirtual 159, 3), (42, .pop, 1), (43, .aload_n 1, 1), (44, .getfield 163, 3), (47, .bipush (-4), 2), (49, .if_icmp .ne 9, 3), (52, .sipush 198, 3), (55, .goto 17, 3), (58, .aload_n 1, 1), (59, .getfield 166, 3), (62, .aload_n 1, 1), (63, .getfield 163, 3), (66, .iadd, 1), (67, .aload_n 1, 1), (68, .getfield 243, 3), (71, .isub, 1), (72, .istore 5, 2), (74, .iload 4, 2), (76, .ifCond .eq 9, 3), (79, .iload 5, 2), (81, .iload_n 3, 1), (82, .if_icmp .ge 11, 3), (85, .aload_n 1, 1), (86, .getfield 243, 3), (89, .istore_n 2, 1), (90, .iload 5, 2), (92, .istore_n 3, 1), (93, .iinc 4 1, 3), (96, .goto (-86), 3), (99, .iload_n 2, 1), (100, .ireturn, 1)]
def mm_X9_bestToCome : MethodName × ByteArray × Nat × Option FieldType × Nat × List (Nat × Instr × Nat) := (yX9_bestToCome, cX9_bestToCome, 6, some FieldType.int, 9, tb_X9_bestToCome)
def tb_X10_init : List (Nat × Instr × Nat) := [(0, .aload_n 0, 1), (1, .invokespecial 1, 3), (4, .aload_n 0, 1), (5, .sipush 400, 3), (8, .newarray .int, 2), (10, .putfield 7, 3), (13, .aload_n 0, 1), (14, .bipush 65, 2), (16, .newarray .int, 2), (18, .putfield 13, 3), (21, .aload_n 0, 1), (22, .bipush 65, 2), (24, .newarray .int, 2), (26, .putfield 16, 3), (29, .aload_n 0, 1), (30, .bipush 6, 2), (32, .newarray .int, 2), (34, .putfield 19, 3), (37, .aload_n 0, 1), (38, .bipush 6, 2), (40, .newarray .int, 2), (42, .putfield 22, 3), (45, .aload_n 0, 1), (46, .bipush 12, 2), (48, .newarray .int, 2), (50, .putfield 25, 3), (53, .aload_n 0, 1), (54, .iconst 2, 1), (55, .newarray .int, 2), (57, .putfield 28, 3), (60, .aload_n 0, 1), (61, .iconst 2, 1), (62, .newarray .long, 2), (64, .putfield 31, 3), (67, .aload_n 0, 1), (68, .bipush 12, 2), (70, .newarray .int, 2), (72, .putfield 35, 3), (75, .aload_n 0, 1), (76, .bipush 6, 2), (78, .newarray .int, 2), (80, .putfield 38, 3), (83, .aload_n 0, 1), (84, .bipush 6, 2), (86, .newarray .int, 2), (88, .putfield 41, 3), (91, .aload_n 0, 1), (92, .bipush 6, 2), (94, .newarray .int, 2), (96, .putfield 44, 3), (99, .aload_n 0, 1), (100, .bipush 6, 2), (102, .newarray .int, 2), (104, .putfield 47, 3), (107, .aload_n 0, 1), (108, .bipush 6, 2), (110, .newarray .int, 2), (112, .putfield 50, 3), (115, .aload_n 0, 1), (116, .bipush 6, 2), (118, .newarray .int, 2), (120, .putfield 53, 3), (123, .aload_n 0, 1), (124, .bipush 6, 2), (126, .newarray .int, 2), (128, .putfield 56, 3), (131, .aload_n 0, 1), (132, .bipush 6, 2), (134, .newarray .int, 2), (136, .putfield 59, 3), (139, .aload_n 0, 1), (140, .bipush 6, 2), (142, .newarray .int, 2), (144, .putfield 62, 3), (147, .aload_n 0, 1), (148, .bipush 6, 2), (150, .newarray .int, 2), (152, .putfield 65, 3), (155, .aload_n 0, 1), (156, .getfield 13, 3), (159, .invokestatic 68, 3), (162, .aload_n 0, 1), (163, .invokevirtual 72, 3), (166, .return_, 1)]
def mm_X10_init : MethodName × ByteArray × Nat × Option FieldType × Nat × List (Nat × Instr × Nat) := (yX10_init, cX10_init, 1, none, 10, tb_X10_init)
def tb_X10_firstHouse : List (Nat × Instr × Nat) := [(0, .iconst 0, 1), (1, .istore_n 1, 1), (2, .iload_n 1, 1), (3, .bipush 65, 2), (5, .if_icmp .ge 13, 3), (8, .aload_n 0, 1), (9, .iload_n 1, 1), (10, .iconst 0, 1), (11, .iastore, 1), (12, .iinc 1 1, 3), (15, .goto (-13), 3), (18, .aload_n 0, 1), (19, .iconst 0, 1), (20, .iconst 1, 1), (21, .iastore, 1), (22, .aload_n 0, 1), (23, .iconst 1, 1), (24, .bipush 10, 2), (26, .iastore, 1), (27, .aload_n 0, 1), (28, .iconst 2, 1), (29, .bipush 10, 2), (31, .iastore, 1), (32, .aload_n 0, 1), (33, .iconst 3, 1), (34, .bipush 10, 2), (36, .iastore, 1), (37, .aload_n 0, 1), (38, .bipush 6, 2), (40, .iconst 1, 1), (41, .iastore, 1), (42, .aload_n 0, 1), (43, .bipush 8, 2), (45, .iconst 1, 1), (46, .iastore, 1), (47, .aload_n 0, 1), (48, .bipush 10, 2), (50, .iconst 1, 1), (51, .iastore, 1), (52, .aload_n 0, 1), (53, .bipush 12, 2), (55, .iconst 1, 1), (56, .iastore, 1), (57, .aload_n 0, 1), (58, .bipush 14, 2), (60, .iconst 1, 1), (61, .iastore, 1), (62, .aload_n 0, 1), (63, .bipush 15, 2), (65, .bipush 40, 2), (67, .iastore, 1), (68, .return_, 1)]
def mm_X10_firstHouse : MethodName × ByteArray × Nat × Option FieldType × Nat × List (Nat × Instr × Nat) := (yX10_firstHouse, cX10_firstHouse, 2, none, 10, tb_X10_firstHouse)
def tb_X10_layDown : List (Nat × Instr × Nat) := [(0, .iconst 0, 1), (1, .istore_n 1, 1), (2, .iload_n 1, 1), (3, .bipush 65, 2), (5, .if_icmp .ge 21, 3), (8, .aload_n 0, 1), (9, .getfield 16, 3), (12, .iload_n 1, 1), (13, .aload_n 0, 1), (14, .getfield 13, 3), (17, .iload_n 1, 1), (18, .iaload, 1), (19, .iastore, 1), (20, .iinc 1 1, 3), (23, .goto (-21), 3), (26, .iconst 0, 1), (27, .istore_n 1, 1), (28, .iload_n 1, 1), (29, .bipush 6, 2), (31, .if_icmp .ge 32, 3), (34, .aload_n 0, 1), (35, .getfield 19, 3), (38, .iload_n 1, 1), (39, .iload_n 1, 1), (40, .iastore, 1), (41, .aload_n 0, 1), (42, .getfield 22, 3), (45, .iload_n 1, 1), (46, .iload_n 1, 1), (47, .ifCond .ne 8, 3), (50, .bipush 10, 2), (52, .goto 4, 3), (55, .iconst 0, 1), (56, .iastore, 1), (57, .iinc 1 1, 3), (60, .goto (-32), 3), (63, .aload_n 0, 1), (64, .bipush 50, 2), (66, .putfield 75, 3), (69, .aload_n 0, 1), (70, .lconst 0, 1), (71, .putfield 79, 3), (74, .aload_n 0, 1), (75, .iconst 0, 1), (76, .putfield 83, 3), (79, .return_, 1)]
def mm_X10_layDown : MethodName × ByteArray × Nat × Option FieldType × Nat × List (Nat × Instr × Nat) := (yX10_layDown, cX10_layDown, 2, none, 10, tb_X10_layDown)
def tb_X10_in : List (Nat × Instr × Nat) := [(0, .iload_n 0, 1), (1, .iload_n 1, 1), (2, .if_icmp .lt 12, 3), (5, .iload_n 0, 1), (6, .iload_n 2, 1), (7, .if_icmp .gt 7, 3), (10, .iconst 1, 1), (11, .goto 4, 3), (14, .iconst 0, 1), (15, .ireturn, 1)]
def mm_X10_in : MethodName × ByteArray × Nat × Option FieldType × Nat × List (Nat × Instr × Nat) := (yX10_in, cX10_in, 3, some FieldType.boolean, 10, tb_X10_in)
def tb_X10_write : List (Nat × Instr × Nat) := [(0, .iload_n 1, 1), (1, .iconst 1, 1), (2, .bipush 8, 2), (4, .invokestatic 86, 3), (7, .ifCond .ne 5, 3), (10, .iconst (-1), 1), (11, .ireturn, 1), (12, .aload_n 0, 1), (13, .getfield 90, 3), (16, .iload_n 1, 1), (17, .iadd, 1), (18, .sipush 400, 3), (21, .if_icmp .le 6, 3), (24, .bipush (-3), 2), (26, .ireturn, 1), (27, .iconst 0, 1), (28, .istore 4, 2), (30, .iload 4, 2), (32, .iload_n 1, 1), (33, .if_icmp .ge 37, 3), (36, .aload_n 0, 1), (37, .getfield 7, 3), (40, .aload_n 0, 1), (41, .getfield 90, 3), (44, .iload 4, 2), (46, .iadd, 1), (47, .lload_n 2, 1), (48, .bipush 8, 2), (50, .iload_n 1, 1), (51, .iconst 1, 1), (52, .isub, 1), (53, .iload 4, 2), (55, .isub, 1), (56, .imul, 1), (57, .lshr, 1), (58, .ldc2_w 93, 3), (61, .land, 1), (62, .l2i, 1), (63, .iastore, 1), (64, .iinc 4 1, 3), (67, .goto (-37), 3), (70, .aload_n 0, 1), (71, .dup, 1), (72, .getfield 90, 3), (75, .iload_n 1, 1), (76, .iadd, 1), (77, .putfield 90, 3), (80, .aload_n 0, 1), (81, .getfield 90, 3), (84, .ireturn, 1)]
def mm_X10_write : MethodName × ByteArray × Nat × Option FieldType × Nat × List (Nat × Instr × Nat) := (yX10_write, cX10_write, 5, some FieldType.int, 10, tb_X10_write)
def tb_X10_wipe : List (Nat × Instr × Nat) := [(0, .aload_n 0, 1), (1, .getfield 90, 3), (4, .istore_n 1, 1), (5, .aload_n 0, 1), (6, .iconst 0, 1), (7, .putfield 90, 3), (10, .iload_n 1, 1), (11, .ireturn, 1)]
def mm_X10_wipe : MethodName × ByteArray × Nat × Option FieldType × Nat × List (Nat × Instr × Nat) := (yX10_wipe, cX10_wipe, 2, some FieldType.int, 10, tb_X10_wipe)
def tb_X10_byteNow : List (Nat × Instr × Nat) := [(0, .aload_n 0, 1), (1, .getfield 95, 3), (4, .aload_n 0, 1), (5, .getfield 90, 3), (8, .if_icmp .ge 15, 3), (11, .aload_n 0, 1), (12, .getfield 7, 3), (15, .aload_n 0, 1), (16, .getfield 95, 3), (19, .iaload, 1), (20, .goto 5, 3), (23, .bipush (-4), 2), (25, .ireturn, 1)]
def mm_X10_byteNow : MethodName × ByteArray × Nat × Option FieldType × Nat × List (Nat × Instr × Nat) := (yX10_byteNow, cX10_byteNow, 1, some FieldType.int, 10, tb_X10_byteNow)
def tb_X10_isNumber : List (Nat × Instr × Nat) := [(0, .iconst 0, 1), (1, .istore 4, 2), (3, .aload_n 0, 1), (4, .iconst 0, 1), (5, .putfield 98, 3), (8, .aload_n 0, 1), (9, .invokevirtual 101, 3), (12, .bipush 48, 2), (14, .bipush 57, 2), (16, .invokestatic 86, 3), (19, .ifCond .eq 44, 3), (22, .iload 4, 2), (24, .iconst 5, 1), (25, .if_icmp .ge 38, 3), (28, .aload_n 0, 1), (29, .bipush 10, 2), (31, .aload_n 0, 1), (32, .getfield 98, 3), (35, .imul, 1), (36, .aload_n 0, 1), (37, .invokevirtual 101, 3), (40, .iadd, 1), (41, .bipush 48, 2), (43, .isub, 1), (44, .putfield 98, 3), (47, .iinc 4 1, 3), (50, .aload_n 0, 1), (51, .dup, 1), (52, .getfield 95, 3), (55, .iconst 1, 1), (56, .iadd, 1), (57, .putfield 95, 3), (60, .goto (-52), 3), (63, .iload 4, 2), (65, .iconst 1, 1), (66, .iconst 4, 1), (67, .invokestatic 86, 3), (70, .ifCond .eq 27, 3), (73, .aload_n 0, 1), (74, .getfield 98, 3), (77, .iload_n 1, 1), (78, .iload_n 2, 1), (79, .invokestatic 86, 3), (82, .ifCond .eq 15, 3), (85, .aload_n 0, 1), (86, .invokevirtual 101, 3), (89, .iload_n 3, 1), (90, .if_icmp .ne 7, 3), (93, .iconst 1, 1), (94, .goto 4, 3), (97, .iconst 0, 1), (98, .istore 5, 2), (100, .aload_n 0, 1), (101, .dup, 1), (102, .getfield 95, 3), (105, .iconst 1, 1), (106, .iadd, 1), (107, .putfield 95, 3), (110, .iload 5, 2), (112, .ireturn, 1)]
def mm_X10_isNumber : MethodName × ByteArray × Nat × Option FieldType × Nat × List (Nat × Instr × Nat) := (yX10_isNumber, cX10_isNumber, 6, some FieldType.boolean, 10, tb_X10_isNumber)
def tb_X10_isPut : List (Nat × Instr × Nat) := [(0, .aload_n 0, 1), (1, .iload_n 2, 1), (2, .iload_n 3, 1), (3, .iload 4, 2), (5, .invokevirtual 105, 3), (8, .istore 5, 2), (10, .aload_n 0, 1), (11, .getfield 13, 3), (14, .iload_n 1, 1), (15, .aload_n 0, 1), (16, .getfield 98, 3), (19, .iastore, 1), (20, .iload 5, 2), (22, .ireturn, 1)]
def mm_X10_isPut : MethodName × ByteArray × Nat × Option FieldType × Nat × List (Nat × Instr × Nat) := (yX10_isPut, cX10_isPut, 6, some FieldType.boolean, 10, tb_X10_isPut)
def tb_X10_isBather : List (Nat × Instr × Nat) := [(0, .aload_n 0, 1), (1, .getfield 13, 3), (4, .bipush 16, 2), (6, .iaload, 1), (7, .bipush 6, 2), (9, .if_icmp .ne 5, 3), (12, .iconst 0, 1), (13, .ireturn, 1), (14, .bipush 17, 2), (16, .bipush 8, 2), (18, .aload_n 0, 1), (19, .getfield 13, 3), (22, .bipush 16, 2), (24, .iaload, 1), (25, .imul, 1), (26, .iadd, 1), (27, .istore_n 1, 1), (28, .aload_n 0, 1), (29, .getfield 13, 3), (32, .iload_n 1, 1), (33, .bipush 6, 2), (35, .iadd, 1), (36, .iconst 0, 1), (37, .iastore, 1), (38, .aload_n 0, 1), (39, .getfield 13, 3), (42, .iload_n 1, 1), (43, .bipush 7, 2), (45, .iadd, 1), (46, .iconst 0, 1), (47, .iastore, 1), (48, .aload_n 0, 1), (49, .getfield 13, 3), (52, .bipush 16, 2), (54, .dup2, 1), (55, .iaload, 1), (56, .iconst 1, 1), (57, .iadd, 1), (58, .iastore, 1), (59, .aload_n 0, 1), (60, .iload_n 1, 1), (61, .iconst 1, 1), (62, .bipush 99, 2), (64, .bipush 44, 2), (66, .invokevirtual 108, 3), (69, .ifCond .eq 89, 3), (72, .aload_n 0, 1), (73, .iload_n 1, 1), (74, .iconst 1, 1), (75, .iadd, 1), (76, .iconst 0, 1), (77, .bipush 99, 2), (79, .bipush 44, 2), (81, .invokevirtual 108, 3), (84, .ifCond .eq 74, 3), (87, .aload_n 0, 1), (88, .iload_n 1, 1), (89, .iconst 2, 1), (90, .iadd, 1), (91, .aload_n 0, 1), (92, .getfield 13, 3), (95, .iload_n 1, 1), (96, .iconst 1, 1), (97, .iadd, 1), (98, .iaload, 1), (99, .bipush 99, 2), (101, .bipush 44, 2), (103, .invokevirtual 108, 3), (106, .ifCond .eq 52, 3), (109, .aload_n 0, 1), (110, .iload_n 1, 1), (111, .iconst 3, 1), (112, .iadd, 1), (113, .iconst 1, 1), (114, .bipush 20, 2), (116, .bipush 44, 2), (118, .invokevirtual 108, 3), (121, .ifCond .eq 37, 3), (124, .aload_n 0, 1), (125, .iload_n 1, 1), (126, .iconst 4, 1), (127, .iadd, 1), (128, .iconst 0, 1), (129, .bipush 60, 2), (131, .bipush 44, 2), (133, .invokevirtual 108, 3), (136, .ifCond .eq 22, 3), (139, .aload_n 0, 1), (140, .iload_n 1, 1), (141, .iconst 5, 1), (142, .iadd, 1), (143, .iconst 0, 1), (144, .bipush 99, 2), (146, .bipush 59, 2), (148, .invokevirtual 108, 3), (151, .ifCond .eq 7, 3), (154, .iconst 1, 1), (155, .goto 4, 3), (158, .iconst 0, 1), (159, .ireturn, 1)]
def mm_X10_isBather : MethodName × ByteArray × Nat × Option FieldType × Nat × List (Nat × Instr × Nat) := (yX10_isBather, cX10_isBather, 2, some FieldType.boolean, 10, tb_X10_isBather)
def tb_X10_isPair : List (Nat × Instr × Nat) := [(0, .aload_n 0, 1), (1, .iconst 0, 1), (2, .aload_n 0, 1), (3, .getfield 13, 3), (6, .bipush 16, 2), (8, .iaload, 1), (9, .iconst 1, 1), (10, .isub, 1), (11, .bipush 44, 2), (13, .invokevirtual 105, 3), (16, .ifCond .ne 5, 3), (19, .iconst 0, 1), (20, .ireturn, 1), (21, .aload_n 0, 1), (22, .getfield 98, 3), (25, .istore_n 2, 1), (26, .aload_n 0, 1), (27, .iconst 0, 1), (28, .aload_n 0, 1), (29, .getfield 13, 3), (32, .bipush 16, 2), (34, .iaload, 1), (35, .iconst 1, 1), (36, .isub, 1), (37, .bipush 59, 2), (39, .invokevirtual 105, 3), (42, .ifCond .eq 11, 3), (45, .aload_n 0, 1), (46, .getfield 98, 3), (49, .iload_n 2, 1), (50, .if_icmp .ne 5, 3), (53, .iconst 0, 1), (54, .ireturn, 1), (55, .aload_n 0, 1), (56, .getfield 13, 3), (59, .bipush 17, 2), (61, .bipush 8, 2), (63, .iload_n 2, 1), (64, .imul, 1), (65, .iadd, 1), (66, .iload_n 1, 1), (67, .iadd, 1), (68, .aload_n 0, 1), (69, .getfield 13, 3), (72, .bipush 17, 2), (74, .bipush 8, 2), (76, .iload_n 2, 1), (77, .imul, 1), (78, .iadd, 1), (79, .iload_n 1, 1), (80, .iadd, 1), (81, .iaload, 1), (82, .iconst 1, 1), (83, .aload_n 0, 1), (84, .getfield 98, 3), (87, .ishl, 1), (88, .ior, 1), (89, .iastore, 1), (90, .iconst 1, 1), (91, .ireturn, 1)]
def mm_X10_isPair : MethodName × ByteArray × Nat × Option FieldType × Nat × List (Nat × Instr × Nat) := (yX10_isPair, cX10_isPair, 3, some FieldType.boolean, 10, tb_X10_isPair)
def tb_X10_isFire : List (Nat × Instr × Nat) := [(0, .aload_n 0, 1), (1, .iconst 1, 1), (2, .iconst 3, 1), (3, .bipush 44, 2), (5, .invokevirtual 105, 3), (8, .ifCond .ne 5, 3), (11, .iconst 0, 1), (12, .ireturn, 1), (13, .iconst 5, 1), (14, .iconst 2, 1), (15, .aload_n 0, 1), (16, .getfield 98, 3), (19, .iconst 1, 1), (20, .isub, 1), (21, .imul, 1), (22, .iadd, 1), (23, .istore_n 1, 1), (24, .aload_n 0, 1), (25, .iload_n 1, 1), (26, .iconst 0, 1), (27, .sipush 9999, 3), (30, .bipush 44, 2), (32, .invokevirtual 108, 3), (35, .ifCond .eq 22, 3), (38, .aload_n 0, 1), (39, .iload_n 1, 1), (40, .iconst 1, 1), (41, .iadd, 1), (42, .iconst 1, 1), (43, .bipush 30, 2), (45, .bipush 59, 2), (47, .invokevirtual 108, 3), (50, .ifCond .eq 7, 3), (53, .iconst 1, 1), (54, .goto 4, 3), (57, .iconst 0, 1), (58, .ireturn, 1)]
def mm_X10_isFire : MethodName × ByteArray × Nat × Option FieldType × Nat × List (Nat × Instr × Nat) := (yX10_isFire, cX10_isFire, 2, some FieldType.boolean, 10, tb_X10_isFire)
def tb_X10_isItem : List (Nat × Instr × Nat) := [(0, .aload_n 0, 1), (1, .invokevirtual 101, 3), (4, .istore_n 2, 1), (5, .aload_n 0, 1), (6, .dup, 1), (7, .getfield 95, 3), (10, .iconst 1, 1), (11, .iadd, 1), (12, .putfield 95, 3), (15, .iload_n 2, 1), (16, .bipush 116, 2), (18, .if_icmp .ne 7, 3), (21, .iconst 1, 1), (22, .goto 4, 3), (25, .iconst 0, 1), (26, .iload_n 1, 1), (27, .if_icmp .eq 5, 3), (30, .iconst 0, 1), (31, .ireturn, 1), (32, .iload_n 2, 1), (33, .tableswitch 266 97 116 #[194, 189, 177, 266, 266, 172, 266, 266, 266, 266, 220, 266, 266, 254, 266, 266, 208, 266, 201, 95], 95), (128, .aload_n 0, 1), (129, .iconst 0, 1), (130, .iconst 1, 1), (131, .bipush 6, 2), (133, .bipush 44, 2), (135, .invokevirtual 108, 3), (138, .ifCond .eq 65, 3), (141, .aload_n 0, 1), (142, .iconst 1, 1), (143, .iconst 1, 1), (144, .bipush 60, 2), (146, .bipush 44, 2), (148, .invokevirtual 108, 3), (151, .ifCond .eq 52, 3), (154, .aload_n 0, 1), (155, .iconst 2, 1), (156, .iconst 0, 1), (157, .bipush 40, 2), (159, .bipush 44, 2), (161, .invokevirtual 108, 3), (164, .ifCond .eq 39, 3), (167, .aload_n 0, 1), (168, .iconst 3, 1), (169, .aload_n 0, 1), (170, .getfield 13, 3), (173, .iconst 2, 1), (174, .iaload, 1), (175, .bipush 95, 2), (177, .bipush 44, 2), (179, .invokevirtual 108, 3), (182, .ifCond .eq 21, 3), (185, .aload_n 0, 1), (186, .iconst 4, 1), (187, .iconst 0, 1), (188, .sipush 999, 3), (191, .bipush 59, 2), (193, .invokevirtual 108, 3), (196, .ifCond .eq 7, 3), (199, .iconst 1, 1), (200, .goto 4, 3), (203, .iconst 0, 1), (204, .ireturn, 1), (205, .aload_n 0, 1), (206, .invokevirtual 112, 3), (209, .ireturn, 1), (210, .aload_n 0, 1), (211, .bipush 11, 2), (213, .iconst 0, 1), (214, .bipush 9, 2), (216, .bipush 59, 2), (218, .invokevirtual 108, 3), (221, .ireturn, 1), (222, .aload_n 0, 1), (223, .invokevirtual 116, 3), (226, .ireturn, 1), (227, .aload_n 0, 1), (228, .bipush 6, 2), (230, .invokevirtual 119, 3), (233, .ireturn, 1), (234, .aload_n 0, 1), (235, .bipush 7, 2), (237, .invokevirtual 119, 3), (240, .ireturn, 1), (241, .aload_n 0, 1), (242, .bipush 12, 2), (244, .iconst 0, 1), (245, .bipush 9, 2), (247, .bipush 59, 2), (249, .invokevirtual 108, 3), (252, .ireturn, 1), (253, .aload_n 0, 1), (254, .bipush 13, 2), (256, .iconst 0, 1), (257, .bipush 20, 2), (259, .bipush 44, 2), (261, .invokevirtual 108, 3), (264, .ifCond .eq 21, 3), (267, .aload_n 0, 1), (268, .bipush 14, 2), (270, .iconst 1, 1), (271, .bipush 30, 2), (273, .bipush 59, 2), (275, .invokevirtual 108, 3), (278, .ifCond .eq 7, 3), (281, .iconst 1, 1), (282, .goto 4, 3), (285, .iconst 0, 1), (286, .ireturn, 1), (287, .aload_n 0, 1), (288, .bipush 15, 2), (290, .iconst 1, 1), (291, .bipush 60, 2), (293, .bipush 59, 2), (295, .invokevirtual 108, 3), (298, .ireturn, 1), (299, .iconst 0, 1), (300, .ireturn, 1)]
def mm_X10_isItem : MethodName × ByteArray × Nat × Option FieldType × Nat × List (Nat × Instr × Nat) := (yX10_isItem, cX10_isItem, 3, some FieldType.boolean, 10, tb_X10_isItem)
def tb_X10_isRead : List (Nat × Instr × Nat) := [(0, .aload_n 0, 1), (1, .iconst 0, 1), (2, .putfield 95, 3), (5, .aload_n 0, 1), (6, .iconst 0, 1), (7, .putfield 123, 3), (10, .aload_n 0, 1), (11, .getfield 13, 3), (14, .invokestatic 68, 3), (17, .iconst 1, 1), (18, .istore_n 1, 1), (19, .aload_n 0, 1), (20, .getfield 95, 3), (23, .aload_n 0, 1), (24, .getfield 90, 3), (27, .if_icmp .lt 7, 3), (30, .iload_n 1, 1), (31, .ifCond .eq 26, 3), (34, .aload_n 0, 1), (35, .aload_n 0, 1), (36, .getfield 95, 3), (39, .putfield 123, 3), (42, .aload_n 0, 1), (43, .iload_n 1, 1), (44, .invokevirtual 126, 3), (47, .ifCond .ne 5, 3), (50, .iconst 0, 1), (51, .ireturn, 1), (52, .iconst 0, 1), (53, .istore_n 1, 1), (54, .goto (-35), 3), (57, .iconst 1, 1), (58, .ireturn, 1)]
def mm_X10_isRead : MethodName × ByteArray × Nat × Option FieldType × Nat × List (Nat × Instr × Nat) := (yX10_isRead, cX10_isRead, 2, some FieldType.boolean, 10, tb_X10_isRead)
def tb_X10_fault : List (Nat × Instr × Nat) := [(0, .aload_n 0, 1), (1, .invokevirtual 130, 3), (4, .ifCond .eq 8, 3), (7, .bipush (-4), 2), (9, .goto 7, 3), (12, .aload_n 0, 1), (13, .getfield 123, 3), (16, .ireturn, 1)]
def mm_X10_fault : MethodName × ByteArray × Nat × Option FieldType × Nat × List (Nat × Instr × Nat) := (yX10_fault, cX10_fault, 1, some FieldType.int, 10, tb_X10_fault)
def tb_X10_lay : List (Nat × Instr × Nat) := [(0, .aload_n 0, 1), (1, .invokevirtual 130, 3), (4, .ifCond .ne 6, 3), (7, .bipush (-2), 2), (9, .ireturn, 1), (10, .aload_n 0, 1), (11, .invokevirtual 72, 3), (14, .aload_n 0, 1), (15, .getfield 16, 3), (18, .bipush 16, 2), (20, .iaload, 1), (21, .ireturn, 1)]
def mm_X10_lay : MethodName × ByteArray × Nat × Option FieldType × Nat × List (Nat × Instr × Nat) := (yX10_lay, cX10_lay, 1, some FieldType.int, 10, tb_X10_lay)
def tb_X10_many : List (Nat × Instr × Nat) := [(0, .aload_n 0, 1), (1, .getfield 16, 3), (4, .bipush 16, 2), (6, .iaload, 1), (7, .ireturn, 1)]
def mm_X10_many : MethodName × ByteArray × Nat × Option FieldType × Nat × List (Nat × Instr × Nat) := (yX10_many, cX10_many, 1, some FieldType.int, 10, tb_X10_many)
def tb_X10_isBatherOf : List (Nat × Instr × Nat) := [(0, .iload_n 1, 1), (1, .iconst 0, 1), (2, .aload_n 0, 1), (3, .invokevirtual 133, 3), (6, .iconst 1, 1), (7, .isub, 1), (8, .invokestatic 86, 3), (11, .ireturn, 1)]
def mm_X10_isBatherOf : MethodName × ByteArray × Nat × Option FieldType × Nat × List (Nat × Instr × Nat) := (yX10_isBatherOf, cX10_isBatherOf, 2, some FieldType.boolean, 10, tb_X10_isBatherOf)
def tb_X10_of : List (Nat × Instr × Nat) := [(0, .aload_n 0, 1), (1, .getfield 16, 3), (4, .bipush 17, 2), (6, .bipush 8, 2), (8, .iload_n 1, 1), (9, .imul, 1), (10, .iadd, 1), (11, .iload_n 2, 1), (12, .iadd, 1), (13, .iaload, 1), (14, .ireturn, 1)]
def mm_X10_of : MethodName × ByteArray × Nat × Option FieldType × Nat × List (Nat × Instr × Nat) := (yX10_of, cX10_of, 3, some FieldType.int, 10, tb_X10_of)
def tb_X10_bather : List (Nat × Instr × Nat) := [(0, .aload_n 0, 1), (1, .iload_n 1, 1), (2, .invokevirtual 136, 3), (5, .ifCond .eq 22, 3), (8, .iload_n 2, 1), (9, .iconst 0, 1), (10, .bipush 7, 2), (12, .invokestatic 86, 3), (15, .ifCond .eq 12, 3), (18, .aload_n 0, 1), (19, .iload_n 1, 1), (20, .iload_n 2, 1), (21, .invokevirtual 139, 3), (24, .goto 4, 3), (27, .iconst (-1), 1), (28, .ireturn, 1)]
def mm_X10_bather : MethodName × ByteArray × Nat × Option FieldType × Nat × List (Nat × Instr × Nat) := (yX10_bather, cX10_bather, 3, some FieldType.int, 10, tb_X10_bather)
def tb_X10_holds : List (Nat × Instr × Nat) := [(0, .aload_n 0, 1), (1, .getfield 16, 3), (4, .iconst 0, 1), (5, .iaload, 1), (6, .aload_n 0, 1), (7, .getfield 16, 3), (10, .iconst 1, 1), (11, .iaload, 1), (12, .imul, 1), (13, .ireturn, 1)]
def mm_X10_holds : MethodName × ByteArray × Nat × Option FieldType × Nat × List (Nat × Instr × Nat) := (yX10_holds, cX10_holds, 1, some FieldType.int, 10, tb_X10_holds)
def tb_X10_fill : List (Nat × Instr × Nat) := [(0, .iconst 0, 1), (1, .istore_n 1, 1), (2, .iload_n 1, 1), (3, .bipush 6, 2), (5, .if_icmp .ge 28, 3), (8, .aload_n 0, 1), (9, .getfield 38, 3), (12, .iload_n 1, 1), (13, .aload_n 0, 1), (14, .getfield 16, 3), (17, .iconst 1, 1), (18, .iaload, 1), (19, .aload_n 0, 1), (20, .getfield 16, 3), (23, .iconst 3, 1), (24, .iaload, 1), (25, .imul, 1), (26, .iastore, 1), (27, .iinc 1 1, 3), (30, .goto (-28), 3), (33, .return_, 1)]
def mm_X10_fill : MethodName × ByteArray × Nat × Option FieldType × Nat × List (Nat × Instr × Nat) := (yX10_fill, cX10_fill, 2, none, 10, tb_X10_fill)
def tb_X10_unitsOf : List (Nat × Instr × Nat) := [(0, .aload_n 0, 1), (1, .getfield 16, 3), (4, .iconst 1, 1), (5, .iaload, 1), (6, .istore_n 3, 1), (7, .iload_n 2, 1), (8, .aload_n 0, 1), (9, .invokevirtual 143, 3), (12, .if_icmp .le 31, 3), (15, .iload_n 2, 1), (16, .iload_n 1, 1), (17, .aload_n 0, 1), (18, .invokevirtual 143, 3), (21, .if_icmp .le 7, 3), (24, .iload_n 1, 1), (25, .goto 7, 3), (28, .aload_n 0, 1), (29, .invokevirtual 143, 3), (32, .isub, 1), (33, .aload_n 0, 1), (34, .getfield 16, 3), (37, .iconst 2, 1), (38, .iaload, 1), (39, .imul, 1), (40, .goto 4, 3), (43, .iconst 0, 1), (44, .istore 4, 2), (46, .iconst 0, 1), (47, .istore 5, 2), (49, .iload 5, 2), (51, .aload_n 0, 1), (52, .getfield 16, 3), (55, .iconst 0, 1), (56, .iaload, 1), (57, .if_icmp .ge 99, 3), (60, .iload_n 1, 1), (61, .iload_n 3, 1), (62, .iload 5, 2), (64, .imul, 1), (65, .if_icmp .le 7, 3), (68, .iload_n 1, 1), (69, .goto 7, 3), (72, .iload_n 3, 1), (73, .iload 5, 2), (75, .imul, 1), (76, .istore 6, 2), (78, .iload_n 2, 1), (79, .iload_n 3, 1), (80, .iload 5, 2), (82, .imul, 1), (83, .iload_n 3, 1), (84, .iadd, 1), (85, .if_icmp .ge 7, 3), (88, .iload_n 2, 1), (89, .goto 9, 3), (92, .iload_n 3, 1), (93, .iload 5, 2), (95, .imul, 1), (96, .iload_n 3, 1), (97, .iadd, 1), (98, .istore 7, 2), (100, .iload 4, 2), (102, .iload 7, 2), (104, .iload 6, 2), (106, .isub, 1), (107, .iload_n 3, 1), (108, .if_icmp .ne 13, 3), (111, .aload_n 0, 1), (112, .getfield 38, 3), (115, .iload 5, 2), (117, .iaload, 1), (118, .goto 29, 3), (121, .iload 7, 2), (123, .iload 6, 2), (125, .if_icmp .le 21, 3), (128, .aload_n 0, 1), (129, .getfield 38, 3), (132, .iload 5, 2), (134, .iaload, 1), (135, .iload 7, 2), (137, .iload 6, 2), (139, .isub, 1), (140, .imul, 1), (141, .iload_n 3, 1), (142, .idiv, 1), (143, .goto 4, 3), (146, .iconst 0, 1), (147, .iadd, 1), (148, .istore 4, 2), (150, .iinc 5 1, 3), (153, .goto (-104), 3), (156, .iload 4, 2), (158, .ireturn, 1)]
def mm_X10_unitsOf : MethodName × ByteArray × Nat × Option FieldType × Nat × List (Nat × Instr × Nat) := (yX10_unitsOf, cX10_unitsOf, 8, some FieldType.int, 10, tb_X10_unitsOf)
def tb_X10_draw : List (Nat × Instr × Nat) := [(0, .aload_n 0, 1), (1, .getfield 16, 3), (4, .iconst 1, 1), (5, .iaload, 1), (6, .istore_n 2, 1), (7, .iconst 0, 1), (8, .istore_n 3, 1), (9, .iload_n 3, 1), (10, .aload_n 0, 1), (11, .getfield 16, 3), (14, .iconst 0, 1), (15, .iaload, 1), (16, .if_icmp .ge 31, 3), (19, .aload_n 0, 1), (20, .getfield 41, 3), (23, .iload_n 3, 1), (24, .aload_n 0, 1), (25, .iload_n 2, 1), (26, .iload_n 3, 1), (27, .imul, 1), (28, .iload_n 1, 1), (29, .iadd, 1), (30, .iload_n 2, 1), (31, .iload_n 3, 1), (32, .imul, 1), (33, .iload_n 2, 1), (34, .iadd, 1), (35, .iload_n 1, 1), (36, .iadd, 1), (37, .invokevirtual 146, 3), (40, .iastore, 1), (41, .iinc 3 1, 3), (44, .goto (-35), 3), (47, .iconst 0, 1), (48, .istore_n 3, 1), (49, .iload_n 3, 1), (50, .aload_n 0, 1), (51, .getfield 16, 3), (54, .iconst 0, 1), (55, .iaload, 1), (56, .if_icmp .ge 21, 3), (59, .aload_n 0, 1), (60, .getfield 38, 3), (63, .iload_n 3, 1), (64, .aload_n 0, 1), (65, .getfield 41, 3), (68, .iload_n 3, 1), (69, .iaload, 1), (70, .iastore, 1), (71, .iinc 3 1, 3), (74, .goto (-25), 3), (77, .return_, 1)]
def mm_X10_draw : MethodName × ByteArray × Nat × Option FieldType × Nat × List (Nat × Instr × Nat) := (yX10_draw, cX10_draw, 4, none, 10, tb_X10_draw)
def tb_X10_drawn : List (Nat × Instr × Nat) := [(0, .iload_n 1, 1), (1, .iconst 0, 1), (2, .sipush 999, 3), (5, .invokestatic 86, 3), (8, .ifCond .eq 27, 3), (11, .iload_n 1, 1), (12, .aload_n 0, 1), (13, .invokevirtual 143, 3), (16, .if_icmp .gt 19, 3), (19, .iload_n 2, 1), (20, .iconst (-1), 1), (21, .aload_n 0, 1), (22, .getfield 16, 3), (25, .iconst 0, 1), (26, .iaload, 1), (27, .iconst 1, 1), (28, .isub, 1), (29, .invokestatic 86, 3), (32, .ifCond .ne 5, 3), (35, .iconst (-1), 1), (36, .ireturn, 1), (37, .aload_n 0, 1), (38, .invokevirtual 149, 3), (41, .iload_n 2, 1), (42, .iconst (-1), 1), (43, .if_icmp .ne 10, 3), (46, .aload_n 0, 1), (47, .iconst 0, 1), (48, .iload_n 1, 1), (49, .invokevirtual 146, 3), (52, .ireturn, 1), (53, .aload_n 0, 1), (54, .iload_n 1, 1), (55, .invokevirtual 152, 3), (58, .aload_n 0, 1), (59, .getfield 38, 3), (62, .iload_n 2, 1), (63, .iaload, 1), (64, .ireturn, 1)]
def mm_X10_drawn : MethodName × ByteArray × Nat × Option FieldType × Nat × List (Nat × Instr × Nat) := (yX10_drawn, cX10_drawn, 3, some FieldType.int, 10, tb_X10_drawn)
def tb_X10_hasBath : List (Nat × Instr × Nat) := [(0, .aload_n 0, 1), (1, .iload_n 1, 1), (2, .iconst 0, 1), (3, .invokevirtual 139, 3), (6, .istore_n 3, 1), (7, .iload_n 2, 1), (8, .ifCond .eq 24, 3), (11, .aload_n 0, 1), (12, .getfield 16, 3), (15, .bipush 13, 2), (17, .iaload, 1), (18, .iload_n 3, 1), (19, .if_icmp .gt 13, 3), (22, .aload_n 0, 1), (23, .getfield 16, 3), (26, .bipush 13, 2), (28, .iaload, 1), (29, .goto 4, 3), (32, .iconst 0, 1), (33, .istore 4, 2), (35, .iload_n 3, 1), (36, .iload 4, 2), (38, .isub, 1), (39, .aload_n 0, 1), (40, .invokevirtual 143, 3), (43, .if_icmp .ge 10, 3), (46, .iload_n 3, 1), (47, .iload 4, 2), (49, .isub, 1), (50, .goto 7, 3), (53, .aload_n 0, 1), (54, .invokevirtual 143, 3), (57, .istore 5, 2), (59, .iconst 0, 1), (60, .istore 6, 2), (62, .iload 6, 2), (64, .iload 5, 2), (66, .if_icmp .gt 81, 3), (69, .aload_n 0, 1), (70, .iconst 0, 1), (71, .iload 6, 2), (73, .invokevirtual 146, 3), (76, .bipush 100, 2), (78, .iload 4, 2), (80, .imul, 1), (81, .iadd, 1), (82, .aload_n 0, 1), (83, .getfield 16, 3), (86, .iconst 2, 1), (87, .iaload, 1), (88, .iload_n 3, 1), (89, .iload 4, 2), (91, .isub, 1), (92, .iload 6, 2), (94, .isub, 1), (95, .imul, 1), (96, .iadd, 1), (97, .iload_n 3, 1), (98, .idiv, 1), (99, .istore 7, 2), (101, .iload 7, 2), (103, .aload_n 0, 1), (104, .iload_n 1, 1), (105, .iconst 1, 1), (106, .invokevirtual 139, 3), (109, .if_icmp .lt 32, 3), (112, .aload_n 0, 1), (113, .iload 6, 2), (115, .putfield 156, 3), (118, .aload_n 0, 1), (119, .iload 7, 2), (121, .putfield 159, 3), (124, .iload 7, 2), (126, .aload_n 0, 1), (127, .iload_n 1, 1), (128, .iconst 2, 1), (129, .invokevirtual 139, 3), (132, .if_icmp .gt 7, 3), (135, .iconst 1, 1), (136, .goto 4, 3), (139, .iconst 0, 1), (140, .ireturn, 1), (141, .iinc 6 1, 3), (144, .goto (-82), 3), (147, .iconst 0, 1), (148, .ireturn, 1)]
def mm_X10_hasBath : MethodName × ByteArray × Nat × Option FieldType × Nat × List (Nat × Instr × Nat) := (yX10_hasBath, cX10_hasBath, 8, some FieldType.boolean, 10, tb_X10_hasBath)
def tb_X10_bath : List (Nat × Instr × Nat) := [(0, .aload_n 0, 1), (1, .iload_n 1, 1), (2, .invokevirtual 136, 3), (5, .ifCond .eq 12, 3), (8, .iload_n 3, 1), (9, .iconst 0, 1), (10, .iconst 1, 1), (11, .invokestatic 86, 3), (14, .ifCond .ne 5, 3), (17, .iconst (-1), 1), (18, .ireturn, 1), (19, .aload_n 0, 1), (20, .invokevirtual 149, 3), (23, .aload_n 0, 1), (24, .iload_n 1, 1), (25, .iload_n 2, 1), (26, .invokevirtual 162, 3), (29, .ifCond .ne 8, 3), (32, .bipush (-2), 2), (34, .goto 18, 3), (37, .iload_n 3, 1), (38, .ifCond .ne 10, 3), (41, .aload_n 0, 1), (42, .getfield 156, 3), (45, .goto 7, 3), (48, .aload_n 0, 1), (49, .getfield 159, 3), (52, .ireturn, 1)]
def mm_X10_bath : MethodName × ByteArray × Nat × Option FieldType × Nat × List (Nat × Instr × Nat) := (yX10_bath, cX10_bath, 4, some FieldType.int, 10, tb_X10_bath)
def tb_X10_row : List (Nat × Instr × Nat) := [(0, .aload_n 0, 1), (1, .iload_n 1, 1), (2, .invokevirtual 136, 3), (5, .ifCond .eq 11, 3), (8, .aload_n 0, 1), (9, .iload_n 2, 1), (10, .invokevirtual 136, 3), (13, .ifCond .ne 5, 3), (16, .iconst (-1), 1), (17, .ireturn, 1), (18, .aload_n 0, 1), (19, .getfield 19, 3), (22, .iload_n 1, 1), (23, .iaload, 1), (24, .istore_n 3, 1), (25, .iconst 0, 1), (26, .istore 4, 2), (28, .iload 4, 2), (30, .aload_n 0, 1), (31, .invokevirtual 133, 3), (34, .if_icmp .ge 38, 3), (37, .aload_n 0, 1), (38, .getfield 19, 3), (41, .iload 4, 2), (43, .aload_n 0, 1), (44, .getfield 19, 3), (47, .iload 4, 2), (49, .iaload, 1), (50, .iload_n 2, 1), (51, .if_icmp .ne 7, 3), (54, .iload_n 3, 1), (55, .goto 10, 3), (58, .aload_n 0, 1), (59, .getfield 19, 3), (62, .iload 4, 2), (64, .iaload, 1), (65, .iastore, 1), (66, .iinc 4 1, 3), (69, .goto (-41), 3), (72, .aload_n 0, 1), (73, .getfield 19, 3), (76, .iload_n 1, 1), (77, .iload_n 2, 1), (78, .iastore, 1), (79, .iload_n 3, 1), (80, .ireturn, 1)]
def mm_X10_row : MethodName × ByteArray × Nat × Option FieldType × Nat × List (Nat × Instr × Nat) := (yX10_row, cX10_row, 5, some FieldType.int, 10, tb_X10_row)
def tb_X10_hot : List (Nat × Instr × Nat) := [(0, .iload_n 1, 1), (1, .iconst 0, 1), (2, .bipush 99, 2), (4, .invokestatic 86, 3), (7, .ifCond .ne 5, 3), (10, .iconst (-1), 1), (11, .ireturn, 1), (12, .aload_n 0, 1), (13, .getfield 75, 3), (16, .istore_n 2, 1), (17, .aload_n 0, 1), (18, .iload_n 1, 1), (19, .putfield 75, 3), (22, .iload_n 2, 1), (23, .ireturn, 1)]
def mm_X10_hot : MethodName × ByteArray × Nat × Option FieldType × Nat × List (Nat × Instr × Nat) := (yX10_hot, cX10_hot, 3, some FieldType.int, 10, tb_X10_hot)
def tb_X10_plan : List (Nat × Instr × Nat) := [(0, .iload_n 1, 1), (1, .iconst 0, 1), (2, .bipush 59, 2), (4, .invokestatic 86, 3), (7, .ifCond .ne 5, 3), (10, .iconst (-1), 1), (11, .ireturn, 1), (12, .aload_n 0, 1), (13, .getfield 79, 3), (16, .iload_n 1, 1), (17, .lshr, 1), (18, .lconst 1, 1), (19, .land, 1), (20, .l2i, 1), (21, .istore_n 3, 1), (22, .aload_n 0, 1), (23, .iload_n 2, 1), (24, .ifCond .eq 14, 3), (27, .aload_n 0, 1), (28, .getfield 79, 3), (31, .lconst 1, 1), (32, .iload_n 1, 1), (33, .lshl, 1), (34, .lor, 1), (35, .goto 15, 3), (38, .aload_n 0, 1), (39, .getfield 79, 3), (42, .lconst 1, 1), (43, .iload_n 1, 1), (44, .lshl, 1), (45, .ldc2_w 166, 3), (48, .lxor, 1), (49, .land, 1), (50, .putfield 79, 3), (53, .iload_n 3, 1), (54, .ireturn, 1)]
def mm_X10_plan : MethodName × ByteArray × Nat × Option FieldType × Nat × List (Nat × Instr × Nat) := (yX10_plan, cX10_plan, 4, some FieldType.int, 10, tb_X10_plan)
def tb_X10_isRule : List (Nat × Instr × Nat) := [(0, .iload_n 0, 1), (1, .iconst 0, 1), (2, .iconst 3, 1), (3, .invokestatic 86, 3), (6, .ireturn, 1)]
def mm_X10_isRule : MethodName × ByteArray × Nat × Option FieldType × Nat × List (Nat × Instr × Nat) := (yX10_isRule, cX10_isRule, 1, some FieldType.boolean, 10, tb_X10_isRule)
def tb_X10_canGo : List (Nat × Instr × Nat) := [(0, .aload_n 0, 1), (1, .getfield 44, 3), (4, .iload_n 1, 1), (5, .iaload, 1), (6, .iload_n 2, 1), (7, .if_icmp .gt 14, 3), (10, .aload_n 0, 1), (11, .getfield 47, 3), (14, .iload_n 1, 1), (15, .iaload, 1), (16, .bipush (-4), 2), (18, .if_icmp .eq 5, 3), (21, .iconst 0, 1), (22, .ireturn, 1), (23, .iconst 0, 1), (24, .istore 4, 2), (26, .iload 4, 2), (28, .aload_n 0, 1), (29, .invokevirtual 133, 3), (32, .if_icmp .ge 50, 3), (35, .aload_n 0, 1), (36, .iload_n 1, 1), (37, .bipush 6, 2), (39, .invokevirtual 139, 3), (42, .iload 4, 2), (44, .ishr, 1), (45, .iconst 1, 1), (46, .iand, 1), (47, .iconst 1, 1), (48, .if_icmp .ne 28, 3), (51, .aload_n 0, 1), (52, .getfield 50, 3), (55, .iload 4, 2), (57, .iaload, 1), (58, .bipush (-4), 2), (60, .if_icmp .eq 14, 3), (63, .aload_n 0, 1), (64, .getfield 50, 3), (67, .iload 4, 2), (69, .iaload, 1), (70, .iload_n 2, 1), (71, .if_icmp .le 5, 3), (74, .iconst 0, 1), (75, .ireturn, 1), (76, .iinc 4 1, 3), (79, .goto (-53), 3), (82, .aload_n 0, 1), (83, .iconst 0, 1), (84, .putfield 168, 3), (87, .iload_n 3, 1), (88, .bipush (-4), 2), (90, .if_icmp .eq 89, 3), (93, .aload_n 0, 1), (94, .getfield 50, 3), (97, .iload_n 3, 1), (98, .iaload, 1), (99, .iload_n 2, 1), (100, .if_icmp .ne 79, 3), (103, .aload_n 0, 1), (104, .iload_n 1, 1), (105, .bipush 7, 2), (107, .invokevirtual 139, 3), (110, .iload_n 3, 1), (111, .ishr, 1), (112, .iconst 1, 1), (113, .iand, 1), (114, .iconst 1, 1), (115, .if_icmp .ne 64, 3), (118, .aload_n 0, 1), (119, .getfield 53, 3), (122, .iload_n 3, 1), (123, .iaload, 1), (124, .aload_n 0, 1), (125, .getfield 16, 3), (128, .bipush 12, 2), (130, .iaload, 1), (131, .aload_n 0, 1), (132, .iload_n 3, 1), (133, .iconst 3, 1), (134, .invokevirtual 139, 3), (137, .imul, 1), (138, .isub, 1), (139, .istore 4, 2), (141, .iload 4, 2), (143, .aload_n 0, 1), (144, .iload_n 1, 1), (145, .iconst 1, 1), (146, .invokevirtual 139, 3), (149, .aload_n 0, 1), (150, .iload_n 1, 1), (151, .iconst 2, 1), (152, .invokevirtual 139, 3), (155, .invokestatic 86, 3), (158, .ifCond .eq 21, 3), (161, .aload_n 0, 1), (162, .iconst 1, 1), (163, .putfield 168, 3), (166, .aload_n 0, 1), (167, .iload 4, 2), (169, .putfield 159, 3), (172, .aload_n 0, 1), (173, .iconst 0, 1), (174, .putfield 156, 3), (177, .iconst 1, 1), (178, .ireturn, 1), (179, .aload_n 0, 1), (180, .iload_n 1, 1), (181, .iload_n 2, 1), (182, .aload_n 0, 1), (183, .getfield 172, 3), (186, .isub, 1), (187, .aload_n 0, 1), (188, .getfield 16, 3), (191, .bipush 14, 2), (193, .iaload, 1), (194, .if_icmp .lt 7, 3), (197, .iconst 1, 1), (198, .goto 4, 3), (201, .iconst 0, 1), (202, .invokevirtual 162, 3), (205, .ireturn, 1)]
def mm_X10_canGo : MethodName × ByteArray × Nat × Option FieldType × Nat × List (Nat × Instr × Nat) := (yX10_canGo, cX10_canGo, 5, some FieldType.boolean, 10, tb_X10_canGo)
def tb_X10_chosen : List (Nat × Instr × Nat) := [(0, .iload_n 1, 1), (1, .ifCond .ne 41, 3), (4, .iload 4, 2), (6, .aload_n 0, 1), (7, .invokevirtual 133, 3), (10, .if_icmp .ge 29, 3), (13, .aload_n 0, 1), (14, .aload_n 0, 1), (15, .getfield 59, 3), (18, .iload 4, 2), (20, .iaload, 1), (21, .iload_n 2, 1), (22, .iload_n 3, 1), (23, .invokevirtual 175, 3), (26, .ifCond .eq 13, 3), (29, .aload_n 0, 1), (30, .getfield 59, 3), (33, .iload 4, 2), (35, .iaload, 1), (36, .goto 5, 3), (39, .bipush (-4), 2), (41, .ireturn, 1), (42, .bipush (-4), 2), (44, .istore 5, 2), (46, .iconst 0, 1), (47, .istore 6, 2), (49, .iload 6, 2), (51, .aload_n 0, 1), (52, .invokevirtual 133, 3), (55, .if_icmp .ge 117, 3), (58, .aload_n 0, 1), (59, .iload 6, 2), (61, .iload_n 2, 1), (62, .iload_n 3, 1), (63, .invokevirtual 175, 3), (66, .ifCond .eq 100, 3), (69, .iload_n 1, 1), (70, .iconst 2, 1), (71, .if_icmp .ne 30, 3), (74, .aload_n 0, 1), (75, .getfield 168, 3), (78, .ifCond .ne 23, 3), (81, .aload_n 0, 1), (82, .getfield 38, 3), (85, .iconst 0, 1), (86, .iaload, 1), (87, .aload_n 0, 1), (88, .getfield 16, 3), (91, .iconst 1, 1), (92, .iaload, 1), (93, .idiv, 1), (94, .aload_n 0, 1), (95, .getfield 75, 3), (98, .if_icmp .lt 68, 3), (101, .iload 5, 2), (103, .bipush (-4), 2), (105, .if_icmp .ne 7, 3), (108, .iconst (-1), 1), (109, .goto 41, 3), (112, .iload_n 1, 1), (113, .iconst 3, 1), (114, .if_icmp .ne 21, 3), (117, .aload_n 0, 1), (118, .iload 6, 2), (120, .iconst 0, 1), (121, .invokevirtual 139, 3), (124, .aload_n 0, 1), (125, .iload 5, 2), (127, .iconst 0, 1), (128, .invokevirtual 139, 3), (131, .isub, 1), (132, .goto 18, 3), (135, .aload_n 0, 1), (136, .getfield 44, 3), (139, .iload 6, 2), (141, .iaload, 1), (142, .aload_n 0, 1), (143, .getfield 44, 3), (146, .iload 5, 2), (148, .iaload, 1), (149, .isub, 1), (150, .istore 7, 2), (152, .iload 7, 2), (154, .ifCond .ge 8, 3), (157, .iload 6, 2), (159, .goto 5, 3), (162, .iload 5, 2), (164, .istore 5, 2), (166, .iinc 6 1, 3), (169, .goto (-120), 3), (172, .iload 5, 2), (174, .ireturn, 1)]
def mm_X10_chosen : MethodName × ByteArray × Nat × Option FieldType × Nat × List (Nat × Instr × Nat) := (yX10_chosen, cX10_chosen, 8, some FieldType.int, 10, tb_X10_chosen)
def tb_X10_warm : List (Nat × Instr × Nat) := [(0, .aload_n 0, 1), (1, .getfield 16, 3), (4, .iconst 0, 1), (5, .iaload, 1), (6, .istore_n 1, 1), (7, .aload_n 0, 1), (8, .getfield 16, 3), (11, .iconst 1, 1), (12, .iaload, 1), (13, .aload_n 0, 1), (14, .getfield 16, 3), (17, .iconst 2, 1), (18, .iaload, 1), (19, .imul, 1), (20, .istore_n 2, 1), (21, .aload_n 0, 1), (22, .getfield 38, 3), (25, .iload_n 1, 1), (26, .iconst 1, 1), (27, .isub, 1), (28, .dup2, 1), (29, .iaload, 1), (30, .aload_n 0, 1), (31, .getfield 178, 3), (34, .ifCond .ne 7, 3), (37, .iconst 0, 1), (38, .goto 18, 3), (41, .aload_n 0, 1), (42, .getfield 16, 3), (45, .iconst 5, 1), (46, .iconst 2, 1), (47, .aload_n 0, 1), (48, .getfield 178, 3), (51, .iconst 1, 1), (52, .isub, 1), (53, .imul, 1), (54, .iadd, 1), (55, .iaload, 1), (56, .iadd, 1), (57, .iastore, 1), (58, .iload_n 1, 1), (59, .iconst 1, 1), (60, .isub, 1), (61, .istore_n 3, 1), (62, .iload_n 3, 1), (63, .ifCond .le 68, 3), (66, .aload_n 0, 1), (67, .getfield 38, 3), (70, .iload_n 3, 1), (71, .iaload, 1), (72, .aload_n 0, 1), (73, .getfield 38, 3), (76, .iload_n 3, 1), (77, .iconst 1, 1), (78, .isub, 1), (79, .iaload, 1), (80, .if_icmp .le 45, 3), (83, .aload_n 0, 1), (84, .getfield 38, 3), (87, .iload_n 3, 1), (88, .iaload, 1), (89, .aload_n 0, 1), (90, .getfield 38, 3), (93, .iload_n 3, 1), (94, .iconst 1, 1), (95, .isub, 1), (96, .iaload, 1), (97, .iadd, 1), (98, .istore 4, 2), (100, .aload_n 0, 1), (101, .getfield 38, 3), (104, .iload_n 3, 1), (105, .iload 4, 2), (107, .iconst 2, 1), (108, .idiv, 1), (109, .iastore, 1), (110, .aload_n 0, 1), (111, .getfield 38, 3), (114, .iload_n 3, 1), (115, .iconst 1, 1), (116, .isub, 1), (117, .iload 4, 2), (119, .iload 4, 2), (121, .iconst 2, 1), (122, .idiv, 1), (123, .isub, 1), (124, .iastore, 1), (125, .iinc 3 (-1), 3), (128, .goto (-66), 3), (131, .iconst 0, 1), (132, .istore_n 3, 1), (133, .iload_n 3, 1), (134, .iload_n 1, 1), (135, .if_icmp .ge 59, 3), (138, .aload_n 0, 1), (139, .getfield 38, 3), (142, .iload_n 3, 1), (143, .iaload, 1), (144, .iload_n 2, 1), (145, .if_icmp .le 43, 3), (148, .aload_n 0, 1), (149, .getfield 38, 3), (152, .iload_n 3, 1), (153, .aload_n 0, 1), (154, .getfield 38, 3), (157, .iload_n 3, 1), (158, .iaload, 1), (159, .aload_n 0, 1), (160, .getfield 16, 3), (163, .iconst 4, 1), (164, .iaload, 1), (165, .isub, 1), (166, .iload_n 2, 1), (167, .if_icmp .ge 7, 3), (170, .iload_n 2, 1), (171, .goto 16, 3), (174, .aload_n 0, 1), (175, .getfield 38, 3), (178, .iload_n 3, 1), (179, .iaload, 1), (180, .aload_n 0, 1), (181, .getfield 16, 3), (184, .iconst 4, 1), (185, .iaload, 1), (186, .isub, 1), (187, .iastore, 1), (188, .iinc 3 1, 3), (191, .goto (-58), 3), (194, .aload_n 0, 1), (195, .getfield 178, 3), (198, .ifCond .le 62, 3), (201, .aload_n 0, 1), (202, .dup, 1), (203, .getfield 181, 3), (206, .iconst 1, 1), (207, .isub, 1), (208, .putfield 181, 3), (211, .aload_n 0, 1), (212, .getfield 181, 3), (215, .ifCond .ne 45, 3), (218, .aload_n 0, 1), (219, .dup, 1), (220, .getfield 178, 3), (223, .iconst 1, 1), (224, .isub, 1), (225, .putfield 178, 3), (228, .aload_n 0, 1), (229, .aload_n 0, 1), (230, .getfield 178, 3), (233, .ifCond .ne 7, 3), (236, .iconst 0, 1), (237, .goto 20, 3), (240, .aload_n 0, 1), (241, .getfield 16, 3), (244, .iconst 5, 1), (245, .iconst 2, 1), (246, .aload_n 0, 1), (247, .getfield 178, 3), (250, .iconst 1, 1), (251, .isub, 1), (252, .imul, 1), (253, .iadd, 1), (254, .iconst 1, 1), (255, .iadd, 1), (256, .iaload, 1), (257, .putfield 181, 3), (260, .return_, 1)]
def mm_X10_warm : MethodName × ByteArray × Nat × Option FieldType × Nat × List (Nat × Instr × Nat) := (yX10_warm, cX10_warm, 5, none, 10, tb_X10_warm)
def tb_X10_goThrough : List (Nat × Instr × Nat) := [(0, .aload_n 0, 1), (1, .invokevirtual 149, 3), (4, .aload_n 0, 1), (5, .iconst 0, 1), (6, .putfield 178, 3), (9, .aload_n 0, 1), (10, .iconst 0, 1), (11, .putfield 181, 3), (14, .aload_n 0, 1), (15, .iload 4, 2), (17, .putfield 184, 3), (20, .aload_n 0, 1), (21, .iconst 0, 1), (22, .putfield 172, 3), (25, .iconst 0, 1), (26, .istore 5, 2), (28, .iload 5, 2), (30, .bipush 6, 2), (32, .if_icmp .ge 45, 3), (35, .aload_n 0, 1), (36, .getfield 47, 3), (39, .iload 5, 2), (41, .bipush (-4), 2), (43, .iastore, 1), (44, .aload_n 0, 1), (45, .getfield 50, 3), (48, .iload 5, 2), (50, .bipush (-4), 2), (52, .iastore, 1), (53, .aload_n 0, 1), (54, .getfield 53, 3), (57, .iload 5, 2), (59, .bipush (-4), 2), (61, .iastore, 1), (62, .aload_n 0, 1), (63, .getfield 56, 3), (66, .iload 5, 2), (68, .bipush (-4), 2), (70, .iastore, 1), (71, .iinc 5 1, 3), (74, .goto (-46), 3), (77, .bipush (-4), 2), (79, .istore 5, 2), (81, .iconst 0, 1), (82, .istore 6, 2), (84, .iconst 0, 1), (85, .istore 7, 2), (87, .iload 7, 2), (89, .aload_n 0, 1), (90, .getfield 16, 3), (93, .bipush 15, 2), (95, .iaload, 1), (96, .if_icmp .ge 300, 3), (99, .lload_n 2, 1), (100, .iload 7, 2), (102, .lshr, 1), (103, .lconst 1, 1), (104, .land, 1), (105, .lconst 1, 1), (106, .lcmp, 1), (107, .ifCond .ne 36, 3), (110, .aload_n 0, 1), (111, .getfield 184, 3), (114, .ifCond .le 29, 3), (117, .aload_n 0, 1), (118, .iconst 3, 1), (119, .putfield 178, 3), (122, .aload_n 0, 1), (123, .aload_n 0, 1), (124, .getfield 16, 3), (127, .bipush 10, 2), (129, .iaload, 1), (130, .putfield 181, 3), (133, .aload_n 0, 1), (134, .dup, 1), (135, .getfield 184, 3), (138, .iconst 1, 1), (139, .isub, 1), (140, .putfield 184, 3), (143, .iload 5, 2), (145, .bipush (-4), 2), (147, .if_icmp .eq 15, 3), (150, .aload_n 0, 1), (151, .getfield 50, 3), (154, .iload 5, 2), (156, .iaload, 1), (157, .iload 7, 2), (159, .if_icmp .gt 17, 3), (162, .aload_n 0, 1), (163, .iload_n 1, 1), (164, .iload 7, 2), (166, .iload 5, 2), (168, .iload 6, 2), (170, .invokevirtual 187, 3), (173, .goto 5, 3), (176, .bipush (-4), 2), (178, .istore 8, 2), (180, .iload 8, 2), (182, .bipush (-4), 2), (184, .if_icmp .eq 153, 3), (187, .aload_n 0, 1), (188, .iload 8, 2), (190, .iload 7, 2), (192, .iload 5, 2), (194, .invokevirtual 175, 3), (197, .istore 9, 2), (199, .aload_n 0, 1), (200, .getfield 16, 3), (203, .bipush 13, 2), (205, .iaload, 1), (206, .istore 10, 2), (208, .aload_n 0, 1), (209, .getfield 168, 3), (212, .ifCond .ne 36, 3), (215, .iload 7, 2), (217, .aload_n 0, 1), (218, .getfield 172, 3), (221, .isub, 1), (222, .aload_n 0, 1), (223, .getfield 16, 3), (226, .bipush 14, 2), (228, .iaload, 1), (229, .if_icmp .lt 19, 3), (232, .iload 10, 2), (234, .aload_n 0, 1), (235, .iload 8, 2), (237, .iconst 0, 1), (238, .invokevirtual 139, 3), (241, .if_icmp .gt 7, 3), (244, .iconst 1, 1), (245, .goto 4, 3), (248, .iconst 0, 1), (249, .istore 11, 2), (251, .aload_n 0, 1), (252, .aload_n 0, 1), (253, .getfield 156, 3), (256, .invokevirtual 152, 3), (259, .aload_n 0, 1), (260, .getfield 47, 3), (263, .iload 8, 2), (265, .iload 7, 2), (267, .iastore, 1), (268, .aload_n 0, 1), (269, .getfield 50, 3), (272, .iload 8, 2), (274, .iload 7, 2), (276, .aload_n 0, 1), (277, .iload 8, 2), (279, .iconst 3, 1), (280, .invokevirtual 139, 3), (283, .iadd, 1), (284, .iastore, 1), (285, .aload_n 0, 1), (286, .getfield 53, 3), (289, .iload 8, 2), (291, .aload_n 0, 1), (292, .getfield 159, 3), (295, .iastore, 1), (296, .aload_n 0, 1), (297, .getfield 56, 3), (300, .iload 8, 2), (302, .aload_n 0, 1), (303, .getfield 156, 3), (306, .iastore, 1), (307, .aload_n 0, 1), (308, .iload 9, 2), (310, .ifCond .eq 13, 3), (313, .iload 11, 2), (315, .ifCond .eq 8, 3), (318, .iload 7, 2), (320, .goto 7, 3), (323, .aload_n 0, 1), (324, .getfield 172, 3), (327, .putfield 172, 3), (330, .iload 8, 2), (332, .istore 5, 2), (334, .iinc 6 1, 3), (337, .iload 7, 2), (339, .aload_n 0, 1), (340, .getfield 191, 3), (343, .if_icmp .lt 43, 3), (346, .iload 7, 2), (348, .aload_n 0, 1), (349, .getfield 191, 3), (352, .aload_n 0, 1), (353, .getfield 194, 3), (356, .iadd, 1), (357, .if_icmp .ge 29, 3), (360, .aload_n 0, 1), (361, .aload_n 0, 1), (362, .getfield 197, 3), (365, .aload_n 0, 1), (366, .invokevirtual 143, 3), (369, .if_icmp .ge 10, 3), (372, .aload_n 0, 1), (373, .getfield 197, 3), (376, .goto 7, 3), (379, .aload_n 0, 1), (380, .invokevirtual 143, 3), (383, .invokevirtual 152, 3), (386, .aload_n 0, 1), (387, .invokevirtual 200, 3), (390, .iinc 7 1, 3), (393, .goto (-306), 3), (396, .aload_n 0, 1), (397, .invokevirtual 203, 3), (400, .ireturn, 1)]
def mm_X10_goThrough : MethodName × ByteArray × Nat × Option FieldType × Nat × List (Nat × Instr × Nat) := (yX10_goThrough, cX10_goThrough, 12, some FieldType.int, 10, tb_X10_goThrough)
def tb_X10_lateNow : List (Nat × Instr × Nat) := [(0, .iconst 0, 1), (1, .istore_n 1, 1), (2, .iconst 0, 1), (3, .istore_n 2, 1), (4, .iload_n 2, 1), (5, .aload_n 0, 1), (6, .invokevirtual 133, 3), (9, .if_icmp .ge 43, 3), (12, .iload_n 1, 1), (13, .aload_n 0, 1), (14, .getfield 50, 3), (17, .iload_n 2, 1), (18, .iaload, 1), (19, .bipush (-4), 2), (21, .if_icmp .eq 18, 3), (24, .aload_n 0, 1), (25, .getfield 50, 3), (28, .iload_n 2, 1), (29, .iaload, 1), (30, .aload_n 0, 1), (31, .iload_n 2, 1), (32, .iconst 5, 1), (33, .invokevirtual 139, 3), (36, .if_icmp .le 7, 3), (39, .iconst 1, 1), (40, .goto 4, 3), (43, .iconst 0, 1), (44, .iadd, 1), (45, .istore_n 1, 1), (46, .iinc 2 1, 3), (49, .goto (-45), 3), (52, .iload_n 1, 1), (53, .ireturn, 1)]
def mm_X10_lateNow : MethodName × ByteArray × Nat × Option FieldType × Nat × List (Nat × Instr × Nat) := (yX10_lateNow, cX10_lateNow, 3, some FieldType.int, 10, tb_X10_lateNow)
def tb_X10_doneNow : List (Nat × Instr × Nat) := [(0, .iconst 0, 1), (1, .istore_n 1, 1), (2, .iconst 0, 1), (3, .istore_n 2, 1), (4, .iload_n 2, 1), (5, .aload_n 0, 1), (6, .invokevirtual 133, 3), (9, .if_icmp .ge 44, 3), (12, .aload_n 0, 1), (13, .getfield 50, 3), (16, .iload_n 2, 1), (17, .iaload, 1), (18, .bipush (-4), 2), (20, .if_icmp .ne 6, 3), (23, .bipush 99, 2), (25, .ireturn, 1), (26, .aload_n 0, 1), (27, .getfield 50, 3), (30, .iload_n 2, 1), (31, .iaload, 1), (32, .iload_n 1, 1), (33, .if_icmp .le 12, 3), (36, .aload_n 0, 1), (37, .getfield 50, 3), (40, .iload_n 2, 1), (41, .iaload, 1), (42, .goto 4, 3), (45, .iload_n 1, 1), (46, .istore_n 1, 1), (47, .iinc 2 1, 3), (50, .goto (-46), 3), (53, .iload_n 1, 1), (54, .ireturn, 1)]
def mm_X10_doneNow : MethodName × ByteArray × Nat × Option FieldType × Nat × List (Nat × Instr × Nat) := (yX10_doneNow, cX10_doneNow, 3, some FieldType.int, 10, tb_X10_doneNow)
def tb_X10_scoreNow : List (Nat × Instr × Nat) := [(0, .bipush 100, 2), (2, .aload_n 0, 1), (3, .invokevirtual 206, 3), (6, .imul, 1), (7, .aload_n 0, 1), (8, .invokevirtual 209, 3), (11, .iadd, 1), (12, .ireturn, 1)]
def mm_X10_scoreNow : MethodName × ByteArray × Nat × Option FieldType × Nat × List (Nat × Instr × Nat) := (yX10_scoreNow, cX10_scoreNow, 1, some FieldType.int, 10, tb_X10_scoreNow)
def tb_X10_asTold : List (Nat × Instr × Nat) := [(0, .iconst 0, 1), (1, .istore_n 1, 1), (2, .iload_n 1, 1), (3, .bipush 6, 2), (5, .if_icmp .ge 33, 3), (8, .aload_n 0, 1), (9, .getfield 44, 3), (12, .iload_n 1, 1), (13, .aload_n 0, 1), (14, .iload_n 1, 1), (15, .iconst 4, 1), (16, .invokevirtual 139, 3), (19, .iastore, 1), (20, .aload_n 0, 1), (21, .getfield 59, 3), (24, .iload_n 1, 1), (25, .aload_n 0, 1), (26, .getfield 19, 3), (29, .iload_n 1, 1), (30, .iaload, 1), (31, .iastore, 1), (32, .iinc 1 1, 3), (35, .goto (-33), 3), (38, .aload_n 0, 1), (39, .iconst 0, 1), (40, .putfield 194, 3), (43, .return_, 1)]
def mm_X10_asTold : MethodName × ByteArray × Nat × Option FieldType × Nat × List (Nat × Instr × Nat) := (yX10_asTold, cX10_asTold, 2, none, 10, tb_X10_asTold)
def tb_X10_scoreOf : List (Nat × Instr × Nat) := [(0, .aload_n 0, 1), (1, .invokevirtual 212, 3), (4, .aload_n 0, 1), (5, .iload_n 1, 1), (6, .aload_n 0, 1), (7, .getfield 79, 3), (10, .aload_n 0, 1), (11, .getfield 16, 3), (14, .bipush 11, 2), (16, .iaload, 1), (17, .invokevirtual 215, 3), (20, .ireturn, 1)]
def mm_X10_scoreOf : MethodName × ByteArray × Nat × Option FieldType × Nat × List (Nat × Instr × Nat) := (yX10_scoreOf, cX10_scoreOf, 2, some FieldType.int, 10, tb_X10_scoreOf)
def tb_X10_evening : List (Nat × Instr × Nat) := [(0, .iload_n 1, 1), (1, .invokestatic 219, 3), (4, .ifCond .eq 20, 3), (7, .aload_n 0, 1), (8, .iload_n 2, 1), (9, .invokevirtual 136, 3), (12, .ifCond .eq 12, 3), (15, .iload_n 3, 1), (16, .iconst 0, 1), (17, .iconst 3, 1), (18, .invokestatic 86, 3), (21, .ifCond .ne 5, 3), (24, .iconst (-1), 1), (25, .ireturn, 1), (26, .aload_n 0, 1), (27, .iload_n 1, 1), (28, .invokevirtual 222, 3), (31, .pop, 1), (32, .iload_n 3, 1), (33, .ifCond .ne 12, 3), (36, .aload_n 0, 1), (37, .getfield 47, 3), (40, .iload_n 2, 1), (41, .iaload, 1), (42, .goto 37, 3), (45, .iload_n 3, 1), (46, .iconst 1, 1), (47, .if_icmp .ne 12, 3), (50, .aload_n 0, 1), (51, .getfield 50, 3), (54, .iload_n 2, 1), (55, .iaload, 1), (56, .goto 23, 3), (59, .iload_n 3, 1), (60, .iconst 2, 1), (61, .if_icmp .ne 12, 3), (64, .aload_n 0, 1), (65, .getfield 53, 3), (68, .iload_n 2, 1), (69, .iaload, 1), (70, .goto 9, 3), (73, .aload_n 0, 1), (74, .getfield 56, 3), (77, .iload_n 2, 1), (78, .iaload, 1), (79, .ireturn, 1)]
def mm_X10_evening : MethodName × ByteArray × Nat × Option FieldType × Nat × List (Nat × Instr × Nat) := (yX10_evening, cX10_evening, 4, some FieldType.int, 10, tb_X10_evening)
def tb_X10_score : List (Nat × Instr × Nat) := [(0, .iload_n 1, 1), (1, .invokestatic 219, 3), (4, .ifCond .eq 12, 3), (7, .iload_n 2, 1), (8, .iconst 0, 1), (9, .iconst 2, 1), (10, .invokestatic 86, 3), (13, .ifCond .ne 5, 3), (16, .iconst (-1), 1), (17, .ireturn, 1), (18, .aload_n 0, 1), (19, .iload_n 1, 1), (20, .invokevirtual 222, 3), (23, .istore_n 3, 1), (24, .iload_n 2, 1), (25, .ifCond .ne 10, 3), (28, .aload_n 0, 1), (29, .invokevirtual 206, 3), (32, .goto 16, 3), (35, .iload_n 2, 1), (36, .iconst 1, 1), (37, .if_icmp .ne 10, 3), (40, .aload_n 0, 1), (41, .invokevirtual 209, 3), (44, .goto 4, 3), (47, .iload_n 3, 1), (48, .ireturn, 1)]
def mm_X10_score : MethodName × ByteArray × Nat × Option FieldType × Nat × List (Nat × Instr × Nat) := (yX10_score, cX10_score, 4, some FieldType.int, 10, tb_X10_score)
def tb_X10_left : List (Nat × Instr × Nat) := [(0, .iload_n 1, 1), (1, .invokestatic 219, 3), (4, .ifCond .eq 29, 3), (7, .iload_n 2, 1), (8, .iconst 0, 1), (9, .bipush 7, 2), (11, .invokestatic 86, 3), (14, .ifCond .eq 19, 3), (17, .iload_n 2, 1), (18, .bipush 6, 2), (20, .if_icmp .ge 15, 3), (23, .iload_n 2, 1), (24, .aload_n 0, 1), (25, .getfield 16, 3), (28, .iconst 0, 1), (29, .iaload, 1), (30, .if_icmp .lt 5, 3), (33, .iconst (-1), 1), (34, .ireturn, 1), (35, .aload_n 0, 1), (36, .iload_n 1, 1), (37, .invokevirtual 222, 3), (40, .pop, 1), (41, .iload_n 2, 1), (42, .bipush 6, 2), (44, .if_icmp .ne 10, 3), (47, .aload_n 0, 1), (48, .getfield 184, 3), (51, .goto 29, 3), (54, .iload_n 2, 1), (55, .bipush 7, 2), (57, .if_icmp .ne 10, 3), (60, .aload_n 0, 1), (61, .getfield 178, 3), (64, .goto 16, 3), (67, .aload_n 0, 1), (68, .getfield 38, 3), (71, .iload_n 2, 1), (72, .iaload, 1), (73, .aload_n 0, 1), (74, .getfield 16, 3), (77, .iconst 1, 1), (78, .iaload, 1), (79, .idiv, 1), (80, .ireturn, 1)]
def mm_X10_left : MethodName × ByteArray × Nat × Option FieldType × Nat × List (Nat × Instr × Nat) := (yX10_left, cX10_left, 3, some FieldType.int, 10, tb_X10_left)
def tb_X10_turns : List (Nat × Instr × Nat) := [(0, .aload_n 0, 1), (1, .invokevirtual 133, 3), (4, .istore_n 1, 1), (5, .iload_n 1, 1), (6, .iconst 2, 1), (7, .isub, 1), (8, .istore_n 2, 1), (9, .iload_n 2, 1), (10, .ifCond .lt 26, 3), (13, .aload_n 0, 1), (14, .getfield 59, 3), (17, .iload_n 2, 1), (18, .iaload, 1), (19, .aload_n 0, 1), (20, .getfield 59, 3), (23, .iload_n 2, 1), (24, .iconst 1, 1), (25, .iadd, 1), (26, .iaload, 1), (27, .if_icmp .le 9, 3), (30, .iinc 2 (-1), 3), (33, .goto (-24), 3), (36, .iload_n 2, 1), (37, .ifCond .ge 5, 3), (40, .iconst 0, 1), (41, .ireturn, 1), (42, .iload_n 1, 1), (43, .iconst 1, 1), (44, .isub, 1), (45, .istore_n 3, 1), (46, .aload_n 0, 1), (47, .getfield 59, 3), (50, .iload_n 3, 1), (51, .iaload, 1), (52, .aload_n 0, 1), (53, .getfield 59, 3), (56, .iload_n 2, 1), (57, .iaload, 1), (58, .if_icmp .ge 9, 3), (61, .iinc 3 (-1), 3), (64, .goto (-18), 3), (67, .aload_n 0, 1), (68, .getfield 59, 3), (71, .iload_n 2, 1), (72, .iaload, 1), (73, .istore 4, 2), (75, .aload_n 0, 1), (76, .getfield 59, 3), (79, .iload_n 2, 1), (80, .aload_n 0, 1), (81, .getfield 59, 3), (84, .iload_n 3, 1), (85, .iaload, 1), (86, .iastore, 1), (87, .aload_n 0, 1), (88, .getfield 59, 3), (91, .iload_n 3, 1), (92, .iload 4, 2), (94, .iastore, 1), (95, .iload_n 2, 1), (96, .iconst 1, 1), (97, .iadd, 1), (98, .istore 5, 2), (100, .iload_n 1, 1), (101, .iconst 1, 1), (102, .isub, 1), (103, .istore 6, 2), (105, .iload 5, 2), (107, .iload 6, 2), (109, .if_icmp .ge 44, 3), (112, .aload_n 0, 1), (113, .getfield 59, 3), (116, .iload 5, 2), (118, .iaload, 1), (119, .istore 4, 2), (121, .aload_n 0, 1), (122, .getfield 59, 3), (125, .iload 5, 2), (127, .aload_n 0, 1), (128, .getfield 59, 3), (131, .iload 6, 2), (133, .iaload, 1), (134, .iastore, 1), (135, .aload_n 0, 1), (136, .getfield 59, 3), (139, .iload 6, 2), (141, .iload 4, 2), (143, .iastore, 1), (144, .iinc 5 1, 3), (147, .iinc 6 (-1), 3), (150, .goto (-45), 3), (153, .iconst 1, 1), (154, .ireturn, 1)]
def mm_X10_turns : MethodName × ByteArray × Nat × Option FieldType × Nat × List (Nat × Instr × Nat) := (yX10_turns, cX10_turns, 7, some FieldType.boolean, 10, tb_X10_turns)
def tb_X10_best : List (Nat × Instr × Nat) := [(0, .iload_n 1, 1), (1, .iconst (-1), 1), (2, .aload_n 0, 1), (3, .invokevirtual 133, 3), (6, .iconst 1, 1), (7, .isub, 1), (8, .invokestatic 86, 3), (11, .ifCond .ne 5, 3), (14, .iconst (-1), 1), (15, .ireturn, 1), (16, .aload_n 0, 1), (17, .invokevirtual 212, 3), (20, .iconst 0, 1), (21, .istore_n 2, 1), (22, .iload_n 2, 1), (23, .bipush 6, 2), (25, .if_icmp .ge 16, 3), (28, .aload_n 0, 1), (29, .getfield 59, 3), (32, .iload_n 2, 1), (33, .iload_n 2, 1), (34, .iastore, 1), (35, .iinc 2 1, 3), (38, .goto (-16), 3), (41, .bipush (-4), 2), (43, .istore_n 2, 1), (44, .iconst 1, 1), (45, .istore_n 3, 1), (46, .iload_n 3, 1), (47, .ifCond .eq 74, 3), (50, .aload_n 0, 1), (51, .iconst 0, 1), (52, .aload_n 0, 1), (53, .getfield 79, 3), (56, .aload_n 0, 1), (57, .getfield 16, 3), (60, .bipush 11, 2), (62, .iaload, 1), (63, .invokevirtual 215, 3), (66, .istore 4, 2), (68, .iload_n 2, 1), (69, .bipush (-4), 2), (71, .if_icmp .eq 9, 3), (74, .iload 4, 2), (76, .iload_n 2, 1), (77, .if_icmp .ge 36, 3), (80, .iload 4, 2), (82, .istore_n 2, 1), (83, .iconst 0, 1), (84, .istore 5, 2), (86, .iload 5, 2), (88, .bipush 6, 2), (90, .if_icmp .ge 23, 3), (93, .aload_n 0, 1), (94, .getfield 62, 3), (97, .iload 5, 2), (99, .aload_n 0, 1), (100, .getfield 59, 3), (103, .iload 5, 2), (105, .iaload, 1), (106, .iastore, 1), (107, .iinc 5 1, 3), (110, .goto (-24), 3), (113, .aload_n 0, 1), (114, .invokevirtual 226, 3), (117, .istore_n 3, 1), (118, .goto (-72), 3), (121, .iload_n 1, 1), (122, .iconst (-1), 1), (123, .if_icmp .ne 7, 3), (126, .iload_n 2, 1), (127, .goto 9, 3), (130, .aload_n 0, 1), (131, .getfield 62, 3), (134, .iload_n 1, 1), (135, .iaload, 1), (136, .ireturn, 1)]
def mm_X10_best : MethodName × ByteArray × Nat × Option FieldType × Nat × List (Nat × Instr × Nat) := (yX10_best, cX10_best, 6, some FieldType.int, 10, tb_X10_best)
def tb_X10_change : List (Nat × Instr × Nat) := [(0, .aload_n 0, 1), (1, .getfield 19, 3), (4, .iload_n 1, 1), (5, .iaload, 1), (6, .istore_n 2, 1), (7, .aload_n 0, 1), (8, .getfield 19, 3), (11, .iload_n 1, 1), (12, .aload_n 0, 1), (13, .getfield 19, 3), (16, .iload_n 1, 1), (17, .iconst 1, 1), (18, .iadd, 1), (19, .iaload, 1), (20, .iastore, 1), (21, .aload_n 0, 1), (22, .getfield 19, 3), (25, .iload_n 1, 1), (26, .iconst 1, 1), (27, .iadd, 1), (28, .iload_n 2, 1), (29, .iastore, 1), (30, .return_, 1)]
def mm_X10_change : MethodName × ByteArray × Nat × Option FieldType × Nat × List (Nat × Instr × Nat) := (yX10_change, cX10_change, 3, none, 10, tb_X10_change)
def tb_X10_swapped : List (Nat × Instr × Nat) := [(0, .iconst 0, 1), (1, .istore_n 1, 1), (2, .aload_n 0, 1), (3, .iconst 0, 1), (4, .invokevirtual 222, 3), (7, .istore_n 2, 1), (8, .iconst 0, 1), (9, .istore_n 3, 1), (10, .iload_n 3, 1), (11, .iconst 1, 1), (12, .iadd, 1), (13, .aload_n 0, 1), (14, .invokevirtual 133, 3), (17, .if_icmp .ge 43, 3), (20, .aload_n 0, 1), (21, .iload_n 3, 1), (22, .invokevirtual 229, 3), (25, .aload_n 0, 1), (26, .iconst 0, 1), (27, .invokevirtual 222, 3), (30, .istore 4, 2), (32, .iload 4, 2), (34, .iload_n 2, 1), (35, .if_icmp .ge 14, 3), (38, .iload 4, 2), (40, .istore_n 2, 1), (41, .iinc 1 1, 3), (44, .iconst 0, 1), (45, .istore_n 3, 1), (46, .goto 11, 3), (49, .aload_n 0, 1), (50, .iload_n 3, 1), (51, .invokevirtual 229, 3), (54, .iinc 3 1, 3), (57, .goto (-47), 3), (60, .iload_n 1, 1), (61, .ireturn, 1)]
def mm_X10_swapped : MethodName × ByteArray × Nat × Option FieldType × Nat × List (Nat × Instr × Nat) := (yX10_swapped, cX10_swapped, 5, some FieldType.int, 10, tb_X10_swapped)
def tb_X10_when : List (Nat × Instr × Nat) := [(0, .iload_n 1, 1), (1, .invokestatic 219, 3), (4, .ifCond .eq 12, 3), (7, .iload_n 2, 1), (8, .iconst 0, 1), (9, .iconst 1, 1), (10, .invokestatic 86, 3), (13, .ifCond .ne 5, 3), (16, .iconst (-1), 1), (17, .ireturn, 1), (18, .aload_n 0, 1), (19, .invokevirtual 212, 3), (22, .bipush (-4), 2), (24, .istore_n 3, 1), (25, .iconst 0, 1), (26, .istore 4, 2), (28, .iconst 0, 1), (29, .istore 5, 2), (31, .iload 5, 2), (33, .aload_n 0, 1), (34, .getfield 16, 3), (37, .bipush 15, 2), (39, .iaload, 1), (40, .if_icmp .ge 68, 3), (43, .aload_n 0, 1), (44, .getfield 79, 3), (47, .iload 5, 2), (49, .lshr, 1), (50, .lconst 1, 1), (51, .land, 1), (52, .lconst 0, 1), (53, .lcmp, 1), (54, .ifCond .ne 48, 3), (57, .aload_n 0, 1), (58, .iload_n 1, 1), (59, .aload_n 0, 1), (60, .getfield 79, 3), (63, .lconst 1, 1), (64, .iload 5, 2), (66, .lshl, 1), (67, .lor, 1), (68, .aload_n 0, 1), (69, .getfield 16, 3), (72, .bipush 11, 2), (74, .iaload, 1), (75, .iconst 1, 1), (76, .iadd, 1), (77, .invokevirtual 215, 3), (80, .istore 6, 2), (82, .iload_n 3, 1), (83, .bipush (-4), 2), (85, .if_icmp .eq 10, 3), (88, .iload 6, 2), (90, .iload 4, 2), (92, .if_icmp .ge 10, 3), (95, .iload 5, 2), (97, .istore_n 3, 1), (98, .iload 6, 2), (100, .istore 4, 2), (102, .iinc 5 1, 3), (105, .goto (-74), 3), (108, .iload_n 3, 1), (109, .bipush (-4), 2), (111, .if_icmp .eq 7, 3), (114, .iload_n 2, 1), (115, .ifCond .ne 7, 3), (118, .iload_n 3, 1), (119, .goto 5, 3), (122, .iload 4, 2), (124, .ireturn, 1)]
def mm_X10_when : MethodName × ByteArray × Nat × Option FieldType × Nat × List (Nat × Instr × Nat) := (yX10_when, cX10_when, 7, some FieldType.int, 10, tb_X10_when)
def tb_X10_isNobodyLate : List (Nat × Instr × Nat) := [(0, .aload_n 0, 1), (1, .iload_n 1, 1), (2, .lload_n 2, 1), (3, .aload_n 0, 1), (4, .getfield 16, 3), (7, .bipush 11, 2), (9, .iaload, 1), (10, .invokevirtual 215, 3), (13, .pop, 1), (14, .aload_n 0, 1), (15, .invokevirtual 206, 3), (18, .ifCond .ne 7, 3), (21, .iconst 1, 1), (22, .goto 4, 3), (25, .iconst 0, 1), (26, .ireturn, 1)]
def mm_X10_isNobodyLate : MethodName × ByteArray × Nat × Option FieldType × Nat × List (Nat × Instr × Nat) := (yX10_isNobodyLate, cX10_isNobodyLate, 4, some FieldType.boolean, 10, tb_X10_isNobodyLate)
def tb_X10_fewest : List (Nat × Instr × Nat) := [(0, .iload_n 1, 1), (1, .invokestatic 219, 3), (4, .ifCond .eq 12, 3), (7, .iload_n 2, 1), (8, .iconst 0, 1), (9, .iconst 2, 1), (10, .invokestatic 86, 3), (13, .ifCond .ne 5, 3), (16, .iconst (-1), 1), (17, .ireturn, 1), (18, .aload_n 0, 1), (19, .invokevirtual 212, 3), (22, .aload_n 0, 1), (23, .iload_n 1, 1), (24, .lconst 0, 1), (25, .invokevirtual 232, 3), (28, .ifCond .eq 14, 3), (31, .iload_n 2, 1), (32, .ifCond .ne 7, 3), (35, .iconst 0, 1), (36, .goto 5, 3), (39, .bipush (-4), 2), (41, .ireturn, 1), (42, .iconst 0, 1), (43, .istore_n 3, 1), (44, .iload_n 3, 1), (45, .aload_n 0, 1), (46, .getfield 16, 3), (49, .bipush 15, 2), (51, .iaload, 1), (52, .if_icmp .ge 40, 3), (55, .aload_n 0, 1), (56, .iload_n 1, 1), (57, .lconst 1, 1), (58, .iload_n 3, 1), (59, .lshl, 1), (60, .invokevirtual 232, 3), (63, .ifCond .eq 23, 3), (66, .iload_n 2, 1), (67, .ifCond .ne 7, 3), (70, .iconst 1, 1), (71, .goto 14, 3), (74, .iload_n 2, 1), (75, .iconst 1, 1), (76, .if_icmp .ne 7, 3), (79, .iload_n 3, 1), (80, .goto 5, 3), (83, .bipush (-4), 2), (85, .ireturn, 1), (86, .iinc 3 1, 3), (89, .goto (-45), 3), (92, .iconst 0, 1), (93, .istore_n 3, 1), (94, .iload_n 3, 1), (95, .aload_n 0, 1), (96, .getfield 16, 3), (99, .bipush 15, 2), (101, .iaload, 1), (102, .if_icmp .ge 68, 3), (105, .iload_n 3, 1), (106, .iconst 1, 1), (107, .iadd, 1), (108, .istore 4, 2), (110, .iload 4, 2), (112, .aload_n 0, 1), (113, .getfield 16, 3), (116, .bipush 15, 2), (118, .iaload, 1), (119, .if_icmp .ge 45, 3), (122, .aload_n 0, 1), (123, .iload_n 1, 1), (124, .lconst 1, 1), (125, .iload_n 3, 1), (126, .lshl, 1), (127, .lconst 1, 1), (128, .iload 4, 2), (130, .lshl, 1), (131, .lor, 1), (132, .invokevirtual 232, 3), (135, .ifCond .eq 23, 3), (138, .iload_n 2, 1), (139, .ifCond .ne 7, 3), (142, .iconst 2, 1), (143, .goto 14, 3), (146, .iload_n 2, 1), (147, .iconst 1, 1), (148, .if_icmp .ne 7, 3), (151, .iload_n 3, 1), (152, .goto 5, 3), (155, .iload 4, 2), (157, .ireturn, 1), (158, .iinc 4 1, 3), (161, .goto (-51), 3), (164, .iinc 3 1, 3), (167, .goto (-73), 3), (170, .bipush (-4), 2), (172, .ireturn, 1)]
def mm_X10_fewest : MethodName × ByteArray × Nat × Option FieldType × Nat × List (Nat × Instr × Nat) := (yX10_fewest, cX10_fewest, 5, some FieldType.int, 10, tb_X10_fewest)
def tb_X10_bigger : List (Nat × Instr × Nat) := [(0, .iload_n 1, 1), (1, .invokestatic 219, 3), (4, .ifCond .eq 12, 3), (7, .iload_n 2, 1), (8, .iconst 0, 1), (9, .iconst 3, 1), (10, .invokestatic 86, 3), (13, .ifCond .ne 5, 3), (16, .iconst (-1), 1), (17, .ireturn, 1), (18, .iload_n 2, 1), (19, .ifCond .ne 17, 3), (22, .aload_n 0, 1), (23, .getfield 16, 3), (26, .iconst 0, 1), (27, .iaload, 1), (28, .bipush 6, 2), (30, .if_icmp .ne 6, 3), (33, .bipush (-2), 2), (35, .ireturn, 1), (36, .iconst 0, 1), (37, .istore_n 3, 1), (38, .iload_n 3, 1), (39, .bipush 65, 2), (41, .if_icmp .ge 21, 3), (44, .aload_n 0, 1), (45, .getfield 13, 3), (48, .iload_n 3, 1), (49, .aload_n 0, 1), (50, .getfield 16, 3), (53, .iload_n 3, 1), (54, .iaload, 1), (55, .iastore, 1), (56, .iinc 3 1, 3), (59, .goto (-21), 3), (62, .aload_n 0, 1), (63, .getfield 16, 3), (66, .iconst 0, 1), (67, .dup2, 1), (68, .iaload, 1), (69, .iload_n 2, 1), (70, .ifCond .ne 7, 3), (73, .iconst 1, 1), (74, .goto 4, 3), (77, .iconst 0, 1), (78, .iadd, 1), (79, .iastore, 1), (80, .aload_n 0, 1), (81, .getfield 16, 3), (84, .iconst 4, 1), (85, .iload_n 2, 1), (86, .iconst 1, 1), (87, .if_icmp .ne 14, 3), (90, .aload_n 0, 1), (91, .getfield 16, 3), (94, .iconst 4, 1), (95, .iaload, 1), (96, .iconst 2, 1), (97, .idiv, 1), (98, .goto 9, 3), (101, .aload_n 0, 1), (102, .getfield 16, 3), (105, .iconst 4, 1), (106, .iaload, 1), (107, .iastore, 1), (108, .iconst 0, 1), (109, .istore_n 3, 1), (110, .iload_n 3, 1), (111, .iconst 3, 1), (112, .if_icmp .ge 40, 3), (115, .iload_n 2, 1), (116, .iconst 2, 1), (117, .if_icmp .ne 35, 3), (120, .aload_n 0, 1), (121, .getfield 16, 3), (124, .iconst 5, 1), (125, .iconst 2, 1), (126, .iload_n 3, 1), (127, .imul, 1), (128, .iadd, 1), (129, .dup2, 1), (130, .iaload, 1), (131, .aload_n 0, 1), (132, .getfield 16, 3), (135, .iconst 5, 1), (136, .iconst 2, 1), (137, .iload_n 3, 1), (138, .imul, 1), (139, .iadd, 1), (140, .iaload, 1), (141, .bipush 10, 2), (143, .idiv, 1), (144, .iadd, 1), (145, .iastore, 1), (146, .iinc 3 1, 3), (149, .goto (-39), 3), (152, .aload_n 0, 1), (153, .getfield 16, 3), (156, .bipush 13, 2), (158, .iload_n 2, 1), (159, .iconst 3, 1), (160, .if_icmp .ne 36, 3), (163, .aload_n 0, 1), (164, .getfield 16, 3), (167, .bipush 13, 2), (169, .iaload, 1), (170, .bipush 10, 2), (172, .iadd, 1), (173, .bipush 30, 2), (175, .if_icmp .le 8, 3), (178, .bipush 30, 2), (180, .goto 23, 3), (183, .aload_n 0, 1), (184, .getfield 16, 3), (187, .bipush 13, 2), (189, .iaload, 1), (190, .bipush 10, 2), (192, .iadd, 1), (193, .goto 10, 3), (196, .aload_n 0, 1), (197, .getfield 16, 3), (200, .bipush 13, 2), (202, .iaload, 1), (203, .iastore, 1), (204, .aload_n 0, 1), (205, .iload_n 1, 1), (206, .invokevirtual 222, 3), (209, .istore_n 3, 1), (210, .iconst 0, 1), (211, .istore 4, 2), (213, .iload 4, 2), (215, .bipush 65, 2), (217, .if_icmp .ge 23, 3), (220, .aload_n 0, 1), (221, .getfield 16, 3), (224, .iload 4, 2), (226, .aload_n 0, 1), (227, .getfield 13, 3), (230, .iload 4, 2), (232, .iaload, 1), (233, .iastore, 1), (234, .iinc 4 1, 3), (237, .goto (-24), 3), (240, .iload_n 3, 1), (241, .ireturn, 1)]
def mm_X10_bigger : MethodName × ByteArray × Nat × Option FieldType × Nat × List (Nat × Instr × Nat) := (yX10_bigger, cX10_bigger, 5, some FieldType.int, 10, tb_X10_bigger)
def tb_X10_tap : List (Nat × Instr × Nat) := [(0, .iload_n 1, 1), (1, .invokestatic 219, 3), (4, .ifCond .eq 34, 3), (7, .iload_n 2, 1), (8, .iconst 0, 1), (9, .bipush 59, 2), (11, .invokestatic 86, 3), (14, .ifCond .eq 24, 3), (17, .iload_n 3, 1), (18, .iconst 1, 1), (19, .bipush 60, 2), (21, .invokestatic 86, 3), (24, .ifCond .eq 14, 3), (27, .iload 4, 2), (29, .iconst 1, 1), (30, .bipush 99, 2), (32, .invokestatic 86, 3), (35, .ifCond .ne 5, 3), (38, .iconst (-1), 1), (39, .ireturn, 1), (40, .aload_n 0, 1), (41, .invokevirtual 212, 3), (44, .aload_n 0, 1), (45, .iload_n 2, 1), (46, .putfield 191, 3), (49, .aload_n 0, 1), (50, .iload_n 3, 1), (51, .putfield 194, 3), (54, .aload_n 0, 1), (55, .iload 4, 2), (57, .putfield 197, 3), (60, .aload_n 0, 1), (61, .iload_n 1, 1), (62, .aload_n 0, 1), (63, .getfield 79, 3), (66, .aload_n 0, 1), (67, .getfield 16, 3), (70, .bipush 11, 2), (72, .iaload, 1), (73, .invokevirtual 215, 3), (76, .ireturn, 1)]
def mm_X10_tap : MethodName × ByteArray × Nat × Option FieldType × Nat × List (Nat × Instr × Nat) := (yX10_tap, cX10_tap, 5, some FieldType.int, 10, tb_X10_tap)
def tb_X10_tenths : List (Nat × Instr × Nat) := [(0, .iload_n 1, 1), (1, .iconst 0, 1), (2, .iconst 5, 1), (3, .invokestatic 86, 3), (6, .ifCond .eq 13, 3), (9, .iload_n 2, 1), (10, .iconst 0, 1), (11, .bipush 10, 2), (13, .invokestatic 86, 3), (16, .ifCond .ne 5, 3), (19, .iconst (-1), 1), (20, .ireturn, 1), (21, .aload_n 0, 1), (22, .getfield 22, 3), (25, .iload_n 1, 1), (26, .iaload, 1), (27, .istore_n 3, 1), (28, .aload_n 0, 1), (29, .getfield 22, 3), (32, .iload_n 1, 1), (33, .iload_n 2, 1), (34, .iastore, 1), (35, .iload_n 3, 1), (36, .ireturn, 1)]
def mm_X10_tenths : MethodName × ByteArray × Nat × Option FieldType × Nat × List (Nat × Instr × Nat) := (yX10_tenths, cX10_tenths, 4, some FieldType.int, 10, tb_X10_tenths)
def tb_X10_told : List (Nat × Instr × Nat) := [(0, .iload_n 1, 1), (1, .invokestatic 219, 3), (4, .ifCond .eq 20, 3), (7, .aload_n 0, 1), (8, .iload_n 2, 1), (9, .invokevirtual 136, 3), (12, .ifCond .eq 12, 3), (15, .iload_n 3, 1), (16, .iconst 0, 1), (17, .iconst 1, 1), (18, .invokestatic 86, 3), (21, .ifCond .ne 5, 3), (24, .iconst (-1), 1), (25, .ireturn, 1), (26, .iconst 0, 1), (27, .istore 4, 2), (29, .iconst 0, 1), (30, .istore 5, 2), (32, .iload 5, 2), (34, .bipush 6, 2), (36, .if_icmp .ge 21, 3), (39, .iload 4, 2), (41, .aload_n 0, 1), (42, .getfield 22, 3), (45, .iload 5, 2), (47, .iaload, 1), (48, .iadd, 1), (49, .istore 4, 2), (51, .iinc 5 1, 3), (54, .goto (-22), 3), (57, .iload 4, 2), (59, .bipush 10, 2), (61, .if_icmp .eq 6, 3), (64, .bipush (-2), 2), (66, .ireturn, 1), (67, .aload_n 0, 1), (68, .invokevirtual 212, 3), (71, .bipush (-4), 2), (73, .istore 5, 2), (75, .iconst 0, 1), (76, .istore 6, 2), (78, .iconst 0, 1), (79, .istore 7, 2), (81, .iload 7, 2), (83, .aload_n 0, 1), (84, .iload_n 2, 1), (85, .iconst 4, 1), (86, .invokevirtual 139, 3), (89, .if_icmp .gt 104, 3), (92, .iconst 0, 1), (93, .istore 8, 2), (95, .iconst 0, 1), (96, .istore 9, 2), (98, .iload 9, 2), (100, .bipush 6, 2), (102, .if_icmp .ge 63, 3), (105, .aload_n 0, 1), (106, .getfield 44, 3), (109, .iload_n 2, 1), (110, .iload 7, 2), (112, .iload 9, 2), (114, .iadd, 1), (115, .iastore, 1), (116, .iload 8, 2), (118, .aload_n 0, 1), (119, .getfield 22, 3), (122, .iload 9, 2), (124, .iaload, 1), (125, .ifCond .ne 7, 3), (128, .iconst 0, 1), (129, .goto 27, 3), (132, .aload_n 0, 1), (133, .getfield 22, 3), (136, .iload 9, 2), (138, .iaload, 1), (139, .aload_n 0, 1), (140, .iload_n 1, 1), (141, .aload_n 0, 1), (142, .getfield 79, 3), (145, .aload_n 0, 1), (146, .getfield 16, 3), (149, .bipush 11, 2), (151, .iaload, 1), (152, .invokevirtual 215, 3), (155, .imul, 1), (156, .iadd, 1), (157, .istore 8, 2), (159, .iinc 9 1, 3), (162, .goto (-64), 3), (165, .iload 5, 2), (167, .bipush (-4), 2), (169, .if_icmp .eq 10, 3), (172, .iload 8, 2), (174, .iload 6, 2), (176, .if_icmp .gt 11, 3), (179, .iload 7, 2), (181, .istore 5, 2), (183, .iload 8, 2), (185, .istore 6, 2), (187, .iinc 7 1, 3), (190, .goto (-109), 3), (193, .iload_n 3, 1), (194, .ifCond .ne 8, 3), (197, .iload 5, 2), (199, .goto 5, 3), (202, .iload 6, 2), (204, .ireturn, 1)]
def mm_X10_told : MethodName × ByteArray × Nat × Option FieldType × Nat × List (Nat × Instr × Nat) := (yX10_told, cX10_told, 10, some FieldType.int, 10, tb_X10_told)
def tb_X10_grief : List (Nat × Instr × Nat) := [(0, .aload_n 0, 1), (1, .iconst 1, 1), (2, .aload_n 0, 1), (3, .getfield 79, 3), (6, .aload_n 0, 1), (7, .getfield 16, 3), (10, .bipush 11, 2), (12, .iaload, 1), (13, .invokevirtual 215, 3), (16, .pop, 1), (17, .aload_n 0, 1), (18, .getfield 50, 3), (21, .iload_n 1, 1), (22, .iaload, 1), (23, .bipush (-4), 2), (25, .if_icmp .ne 9, 3), (28, .sipush 198, 3), (31, .goto 23, 3), (34, .aload_n 0, 1), (35, .getfield 50, 3), (38, .iload_n 1, 1), (39, .iaload, 1), (40, .aload_n 0, 1), (41, .getfield 47, 3), (44, .iload_n 1, 1), (45, .iaload, 1), (46, .iadd, 1), (47, .aload_n 0, 1), (48, .getfield 44, 3), (51, .iload_n 1, 1), (52, .iaload, 1), (53, .isub, 1), (54, .ireturn, 1)]
def mm_X10_grief : MethodName × ByteArray × Nat × Option FieldType × Nat × List (Nat × Instr × Nat) := (yX10_grief, cX10_grief, 2, some FieldType.int, 10, tb_X10_grief)
def tb_X10_looks : List (Nat × Instr × Nat) := [(0, .iload_n 1, 1), (1, .iconst 0, 1), (2, .bipush 6, 2), (4, .invokestatic 86, 3), (7, .ifCond .eq 17, 3), (10, .iload_n 1, 1), (11, .bipush 6, 2), (13, .if_icmp .ge 13, 3), (16, .aload_n 0, 1), (17, .iload_n 1, 1), (18, .invokevirtual 136, 3), (21, .ifCond .ne 5, 3), (24, .iconst (-1), 1), (25, .ireturn, 1), (26, .aload_n 0, 1), (27, .invokevirtual 212, 3), (30, .iconst 0, 1), (31, .istore_n 2, 1), (32, .iload_n 2, 1), (33, .bipush 6, 2), (35, .if_icmp .ge 16, 3), (38, .aload_n 0, 1), (39, .getfield 65, 3), (42, .iload_n 2, 1), (43, .iconst 0, 1), (44, .iastore, 1), (45, .iinc 2 1, 3), (48, .goto (-16), 3), (51, .iconst 0, 1), (52, .istore_n 2, 1), (53, .iconst 1, 1), (54, .istore_n 3, 1), (55, .iload_n 3, 1), (56, .ifCond .eq 150, 3), (59, .iload_n 2, 1), (60, .bipush 12, 2), (62, .if_icmp .ge 144, 3), (65, .iconst 0, 1), (66, .istore_n 3, 1), (67, .iconst 0, 1), (68, .istore 4, 2), (70, .iload 4, 2), (72, .aload_n 0, 1), (73, .invokevirtual 133, 3), (76, .if_icmp .ge 124, 3), (79, .iconst 0, 1), (80, .istore 5, 2), (82, .iconst 0, 1), (83, .istore 6, 2), (85, .iconst 0, 1), (86, .istore 7, 2), (88, .iload 7, 2), (90, .bipush 6, 2), (92, .if_icmp .ge 54, 3), (95, .aload_n 0, 1), (96, .getfield 44, 3), (99, .iload 4, 2), (101, .aload_n 0, 1), (102, .iload 4, 2), (104, .iconst 4, 1), (105, .invokevirtual 139, 3), (108, .iload 7, 2), (110, .iadd, 1), (111, .iastore, 1), (112, .aload_n 0, 1), (113, .iload 4, 2), (115, .invokevirtual 236, 3), (118, .istore 8, 2), (120, .iload 7, 2), (122, .ifCond .eq 10, 3), (125, .iload 8, 2), (127, .iload 6, 2), (129, .if_icmp .ge 11, 3), (132, .iload 7, 2), (134, .istore 5, 2), (136, .iload 8, 2), (138, .istore 6, 2), (140, .iinc 7 1, 3), (143, .goto (-55), 3), (146, .aload_n 0, 1), (147, .getfield 44, 3), (150, .iload 4, 2), (152, .aload_n 0, 1), (153, .iload 4, 2), (155, .iconst 4, 1), (156, .invokevirtual 139, 3), (159, .iload 5, 2), (161, .iadd, 1), (162, .iastore, 1), (163, .iload_n 3, 1), (164, .ifCond .ne 15, 3), (167, .iload 5, 2), (169, .aload_n 0, 1), (170, .getfield 65, 3), (173, .iload 4, 2), (175, .iaload, 1), (176, .if_icmp .eq 7, 3), (179, .iconst 1, 1), (180, .goto 4, 3), (183, .iconst 0, 1), (184, .istore_n 3, 1), (185, .aload_n 0, 1), (186, .getfield 65, 3), (189, .iload 4, 2), (191, .iload 5, 2), (193, .iastore, 1), (194, .iinc 4 1, 3), (197, .goto (-127), 3), (200, .iinc 2 1, 3), (203, .goto (-148), 3), (206, .iload_n 3, 1), (207, .ifCond .eq 8, 3), (210, .bipush (-4), 2), (212, .goto 19, 3), (215, .iload_n 1, 1), (216, .bipush 6, 2), (218, .if_icmp .ge 12, 3), (221, .aload_n 0, 1), (222, .getfield 65, 3), (225, .iload_n 1, 1), (226, .iaload, 1), (227, .goto 4, 3), (230, .iload_n 2, 1), (231, .ireturn, 1)]
def mm_X10_looks : MethodName × ByteArray × Nat × Option FieldType × Nat × List (Nat × Instr × Nat) := (yX10_looks, cX10_looks, 9, some FieldType.int, 10, tb_X10_looks)
def tb_X10_keep : List (Nat × Instr × Nat) := [(0, .aload_n 0, 1), (1, .getfield 83, 3), (4, .iconst 2, 1), (5, .if_icmp .ne 6, 3), (8, .bipush (-3), 2), (10, .ireturn, 1), (11, .iconst 0, 1), (12, .istore_n 1, 1), (13, .iload_n 1, 1), (14, .bipush 6, 2), (16, .if_icmp .ge 49, 3), (19, .aload_n 0, 1), (20, .getfield 25, 3), (23, .bipush 6, 2), (25, .aload_n 0, 1), (26, .getfield 83, 3), (29, .imul, 1), (30, .iload_n 1, 1), (31, .iadd, 1), (32, .aload_n 0, 1), (33, .getfield 19, 3), (36, .iload_n 1, 1), (37, .iaload, 1), (38, .iastore, 1), (39, .aload_n 0, 1), (40, .getfield 35, 3), (43, .bipush 6, 2), (45, .aload_n 0, 1), (46, .getfield 83, 3), (49, .imul, 1), (50, .iload_n 1, 1), (51, .iadd, 1), (52, .aload_n 0, 1), (53, .getfield 22, 3), (56, .iload_n 1, 1), (57, .iaload, 1), (58, .iastore, 1), (59, .iinc 1 1, 3), (62, .goto (-49), 3), (65, .aload_n 0, 1), (66, .getfield 28, 3), (69, .aload_n 0, 1), (70, .getfield 83, 3), (73, .aload_n 0, 1), (74, .getfield 75, 3), (77, .iastore, 1), (78, .aload_n 0, 1), (79, .getfield 31, 3), (82, .aload_n 0, 1), (83, .getfield 83, 3), (86, .aload_n 0, 1), (87, .getfield 79, 3), (90, .lastore, 1), (91, .aload_n 0, 1), (92, .dup, 1), (93, .getfield 83, 3), (96, .iconst 1, 1), (97, .iadd, 1), (98, .putfield 83, 3), (101, .aload_n 0, 1), (102, .getfield 83, 3), (105, .ireturn, 1)]
def mm_X10_keep : MethodName × ByteArray × Nat × Option FieldType × Nat × List (Nat × Instr × Nat) := (yX10_keep, cX10_keep, 2, some FieldType.int, 10, tb_X10_keep)
def tb_X10_back : List (Nat × Instr × Nat) := [(0, .aload_n 0, 1), (1, .getfield 83, 3), (4, .ifCond .ne 6, 3), (7, .bipush (-2), 2), (9, .ireturn, 1), (10, .aload_n 0, 1), (11, .dup, 1), (12, .getfield 83, 3), (15, .iconst 1, 1), (16, .isub, 1), (17, .putfield 83, 3), (20, .iconst 0, 1), (21, .istore_n 1, 1), (22, .iload_n 1, 1), (23, .bipush 6, 2), (25, .if_icmp .ge 49, 3), (28, .aload_n 0, 1), (29, .getfield 19, 3), (32, .iload_n 1, 1), (33, .aload_n 0, 1), (34, .getfield 25, 3), (37, .bipush 6, 2), (39, .aload_n 0, 1), (40, .getfield 83, 3), (43, .imul, 1), (44, .iload_n 1, 1), (45, .iadd, 1), (46, .iaload, 1), (47, .iastore, 1), (48, .aload_n 0, 1), (49, .getfield 22, 3), (52, .iload_n 1, 1), (53, .aload_n 0, 1), (54, .getfield 35, 3), (57, .bipush 6, 2), (59, .aload_n 0, 1), (60, .getfield 83, 3), (63, .imul, 1), (64, .iload_n 1, 1), (65, .iadd, 1), (66, .iaload, 1), (67, .iastore, 1), (68, .iinc 1 1, 3), (71, .goto (-49), 3), (74, .aload_n 0, 1), (75, .aload_n 0, 1), (76, .getfield 28, 3), (79, .aload_n 0, 1), (80, .getfield 83, 3), (83, .iaload, 1), (84, .putfield 75, 3), (87, .aload_n 0, 1), (88, .aload_n 0, 1), (89, .getfield 31, 3), (92, .aload_n 0, 1), (93, .getfield 83, 3), (96, .laload, 1), (97, .putfield 79, 3), (100, .aload_n 0, 1), (101, .getfield 83, 3), (104, .ireturn, 1)]
def mm_X10_back : MethodName × ByteArray × Nat × Option FieldType × Nat × List (Nat × Instr × Nat) := (yX10_back, cX10_back, 2, some FieldType.int, 10, tb_X10_back)
def tb_X10_count : List (Nat × Instr × Nat) := [(0, .iconst 0, 1), (1, .istore_n 2, 1), (2, .iload_n 1, 1), (3, .tableswitch 107 0 6 #[41, 46, 53, 61, 66, 94, 99], 41), (44, .aload_n 0, 1), (45, .invokevirtual 133, 3), (48, .ireturn, 1), (49, .aload_n 0, 1), (50, .getfield 16, 3), (53, .iconst 0, 1), (54, .iaload, 1), (55, .ireturn, 1), (56, .aload_n 0, 1), (57, .getfield 16, 3), (60, .bipush 15, 2), (62, .iaload, 1), (63, .ireturn, 1), (64, .aload_n 0, 1), (65, .getfield 90, 3), (68, .ireturn, 1), (69, .iconst 0, 1), (70, .istore_n 3, 1), (71, .iload_n 3, 1), (72, .bipush 60, 2), (74, .if_icmp .ge 21, 3), (77, .iload_n 2, 1), (78, .aload_n 0, 1), (79, .getfield 79, 3), (82, .iload_n 3, 1), (83, .lshr, 1), (84, .lconst 1, 1), (85, .land, 1), (86, .l2i, 1), (87, .iadd, 1), (88, .istore_n 2, 1), (89, .iinc 3 1, 3), (92, .goto (-21), 3), (95, .iload_n 2, 1), (96, .ireturn, 1), (97, .aload_n 0, 1), (98, .getfield 83, 3), (101, .ireturn, 1), (102, .aload_n 0, 1), (103, .getfield 16, 3), (106, .bipush 11, 2), (108, .iaload, 1), (109, .ireturn, 1), (110, .iconst (-1), 1), (111, .ireturn, 1)]
def mm_X10_count : MethodName × ByteArray × Nat × Option FieldType × Nat × List (Nat × Instr × Nat) := (yX10_count, cX10_count, 4, some FieldType.int, 10, tb_X10_count)
def tb_J13_bitCount_95d88 : List (Nat × Instr × Nat) := [(0, .lload_n 0, 1), (1, .lload_n 0, 1), (2, .iconst 1, 1), (3, .lushr, 1), (4, .ldc2_w 314, 3), (7, .land, 1), (8, .lsub, 1), (9, .lstore_n 0, 1), (10, .lload_n 0, 1), (11, .ldc2_w 316, 3), (14, .land, 1), (15, .lload_n 0, 1), (16, .iconst 2, 1), (17, .lushr, 1), (18, .ldc2_w 316, 3), (21, .land, 1), (22, .ladd, 1), (23, .lstore_n 0, 1), (24, .lload_n 0, 1), (25, .lload_n 0, 1), (26, .iconst 4, 1), (27, .lushr, 1), (28, .ladd, 1), (29, .ldc2_w 318, 3), (32, .land, 1), (33, .lstore_n 0, 1), (34, .lload_n 0, 1), (35, .lload_n 0, 1), (36, .bipush 8, 2), (38, .lushr, 1), (39, .ladd, 1), (40, .lstore_n 0, 1), (41, .lload_n 0, 1), (42, .lload_n 0, 1), (43, .bipush 16, 2), (45, .lushr, 1), (46, .ladd, 1), (47, .lstore_n 0, 1), (48, .lload_n 0, 1), (49, .lload_n 0, 1), (50, .bipush 32, 2), (52, .lushr, 1), (53, .ladd, 1), (54, .lstore_n 0, 1), (55, .lload_n 0, 1), (56, .l2i, 1), (57, .bipush 127, 2), (59, .iand, 1), (60, .ireturn, 1)]
def mm_J13_bitCount_95d88 : MethodName × ByteArray × Nat × Option FieldType × Nat × List (Nat × Instr × Nat) := (yJ13_bitCount_95d88, cJ13_bitCount_95d88, 2, some FieldType.int, 11, tb_J13_bitCount_95d88)
def tb_J9_max_7cf53 : List (Nat × Instr × Nat) := [(0, .iload_n 0, 1), (1, .iload_n 1, 1), (2, .if_icmp .lt 7, 3), (5, .iload_n 0, 1), (6, .goto 4, 3), (9, .iload_n 1, 1), (10, .ireturn, 1)]
def mm_J9_max_7cf53 : MethodName × ByteArray × Nat × Option FieldType × Nat × List (Nat × Instr × Nat) := (yJ9_max_7cf53, cJ9_max_7cf53, 2, some FieldType.int, 12, tb_J9_max_7cf53)
def tb_J9_min_7cf53 : List (Nat × Instr × Nat) := [(0, .iload_n 0, 1), (1, .iload_n 1, 1), (2, .if_icmp .gt 7, 3), (5, .iload_n 0, 1), (6, .goto 4, 3), (9, .iload_n 1, 1), (10, .ireturn, 1)]
def mm_J9_min_7cf53 : MethodName × ByteArray × Nat × Option FieldType × Nat × List (Nat × Instr × Nat) := (yJ9_min_7cf53, cJ9_min_7cf53, 2, some FieldType.int, 12, tb_J9_min_7cf53)
end
section
/-! a pure machine beside the kit's: cells by number, typed memories; what a state of it means on the heap -/
abbrev zx_I : Type := Nat → Nat → Int32
abbrev zx_L : Type := Nat → Nat → Int64
abbrev zx_R : Type := Nat → Nat → Option Nat
abbrev zx_S : Type := List (Nat × Nat)
abbrev zx_M : Type := MethodName × ByteArray × Nat × Option FieldType × Nat × List (Nat × Instr × Nat)
abbrev zx_B : Type := Nat × Nat × Nat × Nat
def zx_rl (ad : Nat → Nat) : Value → Value
  | .ref i => .ref (ad i)
  | v => v
def zx_v (ad : Nat → Nat) (I : Nat → Int32) (L : Nat → Int64) (R : Nat → Option Nat) (t k : Nat) : Value :=
  if t = 1 then .long (L k) else if t = 2 then va_rf ((R k).map ad) else .int (I k)
def zx_fs (ad : Nat → Nat) (I : Nat → Int32) (L : Nat → Int64) (R : Nat → Option Nat) : List Nat → Nat → List Value
  | [], _ => []
  | t :: ts, k => zx_v ad I L R t k :: zx_fs ad I L R ts (k + 1)
def zx_row (ad : Nat → Nat) (I : Nat → Int32) (L : Nat → Int64) (R : Nat → Option Nat) (kd : Nat) : ((Nat → Int32) ⊕ (Nat → Int64) ⊕ (Nat → UInt32) ⊕ (Nat → UInt64) ⊕ (Nat → Option Nat)) :=
  if kd = 102 then .inr (.inl L) else if 103 ≤ kd then .inr (.inr (.inr (.inr (fun j => (R j).map ad)))) else .inl I
def zx_e (cA : Nat → ClassId) (ad : Nat → Nat) (I : Nat → Int32) (L : Nat → Int64) (R : Nat → Option Nat) (sh : Nat × Nat) : va_E :=
  if sh.1 < 100 then .inr (sh.1, zx_fs ad I L R (zt_T.getD sh.1 []) 0) else .inl (cA sh.1, sh.2, zx_row ad I L R sh.1)
def zx_W (cA : Nat → ClassId) (ad : Nat → Nat) (S : zx_S) (I : zx_I) (L : zx_L) (R : zx_R) : va_W := S.mapIdx fun a sh => (ad a, zx_e cA ad (I a) (L a) (R a) sh)
def zx_ty (k : Nat) : FieldType := if k = 0 then .int else if k = 1 then .byte else if k = 2 then .long else if k = 3 then .object "BathNight$Bather" else .object "BathNight$Wishes"
def zx_tys (cA : Nat → ClassId) : List (ClassId × FieldType) := [(cA 100, .int), (cA 101, .byte), (cA 102, .long), (cA 103, .object "BathNight$Bather"), (cA 104, .object "BathNight$Wishes")]
def zx_nest (w : Cond) : Bool := match w with
  | .fieldLinkNest _ _ _ _ _ _ => true
  | .methodLinkNest _ _ _ _ => true
  | .arrayOver (.object _) => true
  | _ => false
def zx_N : List Cond := lw_tbl.filter zx_nest
def zx_G : List Cond := lw_tbl.filter goodWord
theorem zx_fs_get (ad : Nat → Nat) (I : Nat → Int32) (L : Nat → Int64) (R : Nat → Option Nat) : ∀ (ts : List Nat) (j k : Nat), (zx_fs ad I L R ts j)[k]? = ts[k]?.map (fun t => zx_v ad I L R t (j + k))
  | [], _, _ => by simp [zx_fs]
  | t :: ts, j, 0 => by simp [zx_fs]
  | t :: ts, j, k + 1 => by
    simp only [zx_fs, List.getElem?_cons_succ]
    rw [zx_fs_get ad I L R ts (j + 1) k, show j + 1 + k = j + (k + 1) by omega]
theorem zx_fs_len (ad : Nat → Nat) (I : Nat → Int32) (L : Nat → Int64) (R : Nat → Option Nat) (ts : List Nat) (j : Nat) : (zx_fs ad I L R ts j).length = ts.length := by
  induction ts generalizing j with
  | nil => rfl
  | cons t ts ih => simp [zx_fs, ih]
theorem zx_fs_set {ad : Nat → Nat} {I I' : Nat → Int32} {L L' : Nat → Int64} {R R' : Nat → Option Nat} {ts : List Nat} {k t : Nat} (ht : ts[k]? = some t) (ho : ∀ j u, j ≠ k → ts[j]? = some u → zx_v ad I' L' R' u j = zx_v ad I L R u j) : zx_fs ad I' L' R' ts 0 = (zx_fs ad I L R ts 0).set k (zx_v ad I' L' R' t k) := by
  apply List.ext_getElem?
  intro j
  by_cases hj : j = k
  · subst hj
    have hl : j < ts.length := (List.getElem?_eq_some_iff.mp ht).1
    rw [List.getElem?_set_self (by rw [zx_fs_len]; exact hl), zx_fs_get, ht]
    simp
  · rw [List.getElem?_set_ne (Ne.symm hj), zx_fs_get, zx_fs_get]
    cases hu : ts[j]? with
    | none => rfl
    | some u =>
      simp only [Option.map_some, Nat.zero_add]
      exact congrArg some (ho j u hj hu)
theorem zx_W_get {cA : Nat → ClassId} {ad : Nat → Nat} {S : zx_S} {I : zx_I} {L : zx_L} {R : zx_R} {a : Nat} {sh : Nat × Nat} (h : S[a]? = some sh) : (zx_W cA ad S I L R)[a]? = some (ad a, zx_e cA ad (I a) (L a) (R a) sh) := by
  simp [zx_W, List.getElem?_mapIdx, h]
theorem zx_W_set {cA : Nat → ClassId} {ad : Nat → Nat} {S : zx_S} {I I' : zx_I} {L L' : zx_L} {R R' : zx_R} {a : Nat} {sh : Nat × Nat} (h : S[a]? = some sh) (ho : ∀ b, b ≠ a → I' b = I b ∧ L' b = L b ∧ R' b = R b) : zx_W cA ad S I' L' R' = (zx_W cA ad S I L R).set a (ad a, zx_e cA ad (I' a) (L' a) (R' a) sh) := by
  apply List.ext_getElem?
  intro b
  by_cases hb : b = a
  · subst hb
    have hl : b < (zx_W cA ad S I L R).length := by simp [zx_W]; exact (List.getElem?_eq_some_iff.mp h).1
    rw [List.getElem?_set_self hl, zx_W_get h]
  · rw [List.getElem?_set_ne (Ne.symm hb)]
    obtain ⟨h1, h2, h3⟩ := ho b hb
    simp only [zx_W, List.getElem?_mapIdx, h1, h2, h3]
theorem zx_W_len {cA : Nat → ClassId} {ad : Nat → Nat} {S : zx_S} {I : zx_I} {L : zx_L} {R : zx_R} : (zx_W cA ad S I L R).length = S.length := by simp [zx_W]
/-- another numbering that agrees on what is there -/
theorem zx_v_ad {ad ad' : Nat → Nat} {I : Nat → Int32} {L : Nat → Int64} {R : Nat → Option Nat} {t k : Nat} (h : ∀ j, R k = some j → ad' j = ad j) : zx_v ad' I L R t k = zx_v ad I L R t k := by
  unfold zx_v
  cases hr : R k with
  | none => rfl
  | some j => simp [h j hr]
theorem zx_e_ad {cA : Nat → ClassId} {ad ad' : Nat → Nat} {I : Nat → Int32} {L : Nat → Int64} {R : Nat → Option Nat} {sh : Nat × Nat} (h : ∀ k j, R k = some j → ad' j = ad j) : zx_e cA ad' I L R sh = zx_e cA ad I L R sh := by
  have h1 : ∀ (ts : List Nat) (k : Nat), zx_fs ad' I L R ts k = zx_fs ad I L R ts k := by
    intro ts
    induction ts with
    | nil => intro k; rfl
    | cons t ts ih => intro k; simp only [zx_fs, ih, zx_v_ad (h k)]
  have h2 : (fun j => (R j).map ad') = fun j => (R j).map ad := by
    funext j
    cases hr : R j with
    | none => rfl
    | some i => simp [h j i hr]
  unfold zx_e
  rw [h1]
  unfold zx_row
  rw [h2]
/-- what a value's reference may be -/
def zx_ok (n : Nat) : Value → Prop
  | .ref i => i < n
  | _ => True
theorem zx_rl_ad {ad ad' : Nat → Nat} {n : Nat} {v : Value} (hv : zx_ok n v) (h : ∀ i, i < n → ad' i = ad i) : zx_rl ad' v = zx_rl ad v := by
  cases v <;> first | rfl | (simp only [zx_rl]; rw [h _ hv])
theorem zx_ok_mono {n n' : Nat} {v : Value} (h : zx_ok n v) (hn : n ≤ n') : zx_ok n' v := by
  cases v <;> first | trivial | exact Nat.lt_of_lt_of_le h hn
theorem zx_rl_cat (ad : Nat → Nat) (v : Value) : (zx_rl ad v).category = v.category := by cases v <;> rfl
theorem zx_rl_rf (ad : Nat → Nat) (r : Option Nat) : zx_rl ad (va_rf r) = va_rf (r.map ad) := by cases r <;> rfl
/-- the world of a pure state -/
def zx_X (D : va_G) (cA : Nat → ClassId) (A : Nat → Prop) (ad : Nat → Nat) (S : zx_S) (I : zx_I) (L : zx_L) (R : zx_R) (s : State) (H : Heap) : Prop :=
  va_P D vwCl (zx_W cA ad S I L R) H ∧ va_D A (zx_W cA ad S I L R) ∧ va_K D vwCl (zx_tys cA) s ∧ (∀ w ∈ zx_N, va_Nw w s) ∧ ∀ a k j, R a k = some j → j < S.length
theorem zx_nw_warm {w : Cond} (hw : zx_nest w = true) {s U : State} (h : va_Nw w s) (hW : s.WarmedH U.vm) : va_Nw w U := by
  cases w with
  | fieldLinkNest a b c d e f => exact va_Nw.warmF hW h
  | methodLinkNest a b c d => exact va_Nw.warmM hW h
  | arrayOver t =>
    cases t with
    | object C => exact va_AO.moved hW.alike h
    | _ => exact absurd hw (by simp [zx_nest])
  | _ => exact absurd hw (by simp [zx_nest])
/-- the locals -/
def zx_lv (ad : Nat → Nat) (lo : List (Option Value)) : List (Nat × Value) := lo.zipIdx.filterMap (fun q => q.1.map (fun v => (q.2, zx_rl ad v)))
def zx_lo (ad : Nat → Nat) (n : Nat) (lo : List (Option Value)) (ls : Array Slot) : Prop := ls.size = n ∧ lv_wf ls ∧ lo.length = n ∧ ∀ (i : Nat) (v : Value), lo[i]? = some (some v) → ls[i]? = some (.val (zx_rl ad v))
def zx_okl (n : Nat) (lo : List (Option Value)) : Prop := ∀ (i : Nat) (v : Value), lo[i]? = some (some v) → zx_ok n v
def zx_oks (n : Nat) (st : List Value) : Prop := ∀ v ∈ st, zx_ok n v
theorem zx_lv_mem {ad : Nat → Nat} {lo : List (Option Value)} {i : Nat} {v : Value} (h : lo[i]? = some (some v)) : (i, zx_rl ad v) ∈ zx_lv ad lo := by
  unfold zx_lv
  refine List.mem_filterMap.mpr ⟨(some v, i), ?_, rfl⟩
  rw [List.mem_zipIdx_iff_getElem?]
  exact h
theorem zx_lv_has {ad : Nat → Nat} {n : Nat} {lo : List (Option Value)} {ls : Array Slot} (h : zx_lo ad n lo ls) : lv_has ls n (zx_lv ad lo) := by
  obtain ⟨h1, h2, h3, h4⟩ := h
  refine ⟨h1, h2, fun q hq => ?_⟩
  obtain ⟨⟨o, i⟩, hm, he⟩ := List.mem_filterMap.mp hq
  rw [List.mem_zipIdx_iff_getElem?] at hm
  cases o with
  | none => cases he
  | some v => cases he; exact h4 i v hm
/-- a store of one slot, of two -/
def zx_st1 (lo : List (Option Value)) (i : Nat) (v : Value) : List (Option Value) :=
  lo.mapIdx fun j o => if j = i then some v else if j + 1 = i then (match o with | some w => if w.category = 2 then none else some w | none => none) else o
def zx_st2 (lo : List (Option Value)) (i : Nat) (v : Value) : List (Option Value) :=
  lo.mapIdx fun j o => if j = i then some v else if j = i + 1 then none else if j + 1 = i then (match o with | some w => if w.category = 2 then none else some w | none => none) else o
theorem zx_st1_get {lo : List (Option Value)} {i j : Nat} {v w : Value} (h : (zx_st1 lo i v)[j]? = some (some w)) : (j = i ∧ w = v) ∨ (j ≠ i ∧ lo[j]? = some (some w) ∧ (j + 1 = i → w.category ≠ 2)) := by
  unfold zx_st1 at h
  rw [List.getElem?_mapIdx] at h
  cases ho : lo[j]? with
  | none => rw [ho] at h; cases h
  | some o =>
    rw [ho] at h
    simp only [Option.map_some, Option.some.injEq] at h
    by_cases h1 : j = i
    · rw [if_pos h1] at h; exact Or.inl ⟨h1, (Option.some.inj h).symm⟩
    · rw [if_neg h1] at h
      refine Or.inr ⟨h1, ?_⟩
      by_cases h2 : j + 1 = i
      · rw [if_pos h2] at h
        cases o with
        | none => cases h
        | some u =>
          simp only at h
          by_cases h3 : u.category = 2
          · rw [if_pos h3] at h; cases h
          · rw [if_neg h3] at h; cases h; exact ⟨rfl, fun _ => h3⟩
      · rw [if_neg h2] at h; exact ⟨by rw [h], fun q => absurd q h2⟩
theorem zx_st2_get {lo : List (Option Value)} {i j : Nat} {v w : Value} (h : (zx_st2 lo i v)[j]? = some (some w)) : (j = i ∧ w = v) ∨ (j ≠ i ∧ j ≠ i + 1 ∧ lo[j]? = some (some w) ∧ (j + 1 = i → w.category ≠ 2)) := by
  unfold zx_st2 at h
  rw [List.getElem?_mapIdx] at h
  cases ho : lo[j]? with
  | none => rw [ho] at h; cases h
  | some o =>
    rw [ho] at h
    simp only [Option.map_some, Option.some.injEq] at h
    by_cases h1 : j = i
    · rw [if_pos h1] at h; exact Or.inl ⟨h1, (Option.some.inj h).symm⟩
    · rw [if_neg h1] at h
      by_cases h0 : j = i + 1
      · rw [if_pos h0] at h; cases h
      · rw [if_neg h0] at h
        refine Or.inr ⟨h1, h0, ?_⟩
        by_cases h2 : j + 1 = i
        · rw [if_pos h2] at h
          cases o with
          | none => cases h
          | some u =>
            simp only at h
            by_cases h3 : u.category = 2
            · rw [if_pos h3] at h; cases h
            · rw [if_neg h3] at h; cases h; exact ⟨rfl, fun _ => h3⟩
        · rw [if_neg h2] at h; exact ⟨by rw [h], fun q => absurd q h2⟩
theorem zx_lo_st1 {ad : Nat → Nat} {n i : Nat} {lo : List (Option Value)} {v : Value} {ls' : Array Slot} (hn : lo.length = n) (h : lv_has ls' n ((i, zx_rl ad v) :: (zx_lv ad lo).filter (fun q => !(q.1 == i) && !(q.1 + 1 == i && q.2.category == 2)))) : zx_lo ad n (zx_st1 lo i v) ls' := by
  refine ⟨h.1, h.2.1, by simp [zx_st1, hn], fun j w hw => ?_⟩
  rcases zx_st1_get hw with ⟨rfl, rfl⟩ | ⟨h1, h2, h3⟩
  · exact h.2.2 (j, zx_rl ad w) List.mem_cons_self
  · refine h.2.2 (j, zx_rl ad w) (List.mem_cons_of_mem _ (List.mem_filter.mpr ⟨zx_lv_mem h2, ?_⟩))
    by_cases h4 : j + 1 = i
    · have := h3 h4
      simp [h1, zx_rl_cat, this]
    · simp [h1, h4]
theorem zx_lo_st2 {ad : Nat → Nat} {n i : Nat} {lo : List (Option Value)} {v : Value} {ls' : Array Slot} (hn : lo.length = n) (h : lv_has ls' n ((i, zx_rl ad v) :: (zx_lv ad lo).filter (fun q => !(q.1 == i) && (!(q.1 == i + 1) && !(q.1 + 1 == i && q.2.category == 2))))) : zx_lo ad n (zx_st2 lo i v) ls' := by
  refine ⟨h.1, h.2.1, by simp [zx_st2, hn], fun j w hw => ?_⟩
  rcases zx_st2_get hw with ⟨rfl, rfl⟩ | ⟨h1, h0, h2, h3⟩
  · exact h.2.2 (j, zx_rl ad w) List.mem_cons_self
  · refine h.2.2 (j, zx_rl ad w) (List.mem_cons_of_mem _ (List.mem_filter.mpr ⟨zx_lv_mem h2, ?_⟩))
    by_cases h4 : j + 1 = i
    · have := h3 h4
      simp [h1, h0, zx_rl_cat, this]
    · simp [h1, h0, h4]
theorem zx_okl_st1 {n i : Nat} {lo : List (Option Value)} {v : Value} (h : zx_okl n lo) (hv : zx_ok n v) : zx_okl n (zx_st1 lo i v) := fun j w hw => by
  rcases zx_st1_get hw with ⟨-, rfl⟩ | ⟨-, h2, -⟩
  · exact hv
  · exact h j w h2
theorem zx_okl_st2 {n i : Nat} {lo : List (Option Value)} {v : Value} (h : zx_okl n lo) (hv : zx_ok n v) : zx_okl n (zx_st2 lo i v) := fun j w hw => by
  rcases zx_st2_get hw with ⟨-, rfl⟩ | ⟨-, -, h2, -⟩
  · exact hv
  · exact h j w h2
/-- a method, its name, code, size of locals, answer, class, rows -/
def zx_ws (M : zx_M) : List Cond := .code M.1 M.2.1 M.2.2.1 M.2.2.2.1 :: zx_G
def zx_good (M : zx_M) : Prop := (∀ e ∈ M.2.2.2.2.2, decode M.2.1 e.1 = .ok (e.2.1, e.2.2)) ∧ Cond.code M.1 M.2.1 M.2.2.1 M.2.2.2.1 ∈ zx_G ∧ plainName M.1.cls = true ∧ zt_own[M.2.2.2.2.1]? = some M.1.cls ∧ M.2.2.1 ≤ 21
def zx_rm (d mc ms : Nat) : Room := { frames := d, cells := mc, slots := ms, locals := 40 * d }
def zx_C (M : zx_M) (p : Program) (s : State) (m : MethodId) (args : Array Value) (meth : Method) (c : Code) : Prop :=
  p.tables.exec = Jvm.exec ∧ c.code = M.2.1 ∧ meth.sig.returnType = M.2.2.2.1 ∧ c.maxLocals = M.2.2.1 ∧ s.vm.findClass M.1.cls = some m.cls ∧ (∀ w ∈ zx_G, w.before args s = true) ∧ meth.locks = false ∧ meth.name = M.1.name
abbrev zx_Qt : Type := Option Value → zx_S → zx_I → zx_L → zx_R → Prop
def zx_Q (D : va_G) (cA : Nat → ClassId) (A : Nat → Prop) (ad0 : Nat → Nat) (n0 : Nat) (Q : zx_Qt) : Array Value → State → Outcome → State → Prop := fun _ s o t =>
  (∃ (r : Option Value) (S' : zx_S) (I' : zx_I) (L' : zx_L) (R' : zx_R) (ad' : Nat → Nat), o = .returned (r.map (zx_rl ad')) ∧ Q r S' I' L' R' ∧ n0 ≤ S'.length ∧ (∀ i, i < n0 → ad' i = ad0 i) ∧ (∀ v, r = some v → zx_ok S'.length v) ∧ zx_X D cA A ad' S' I' L' R' t t.heap) ∧ va_F A s t
/-- from here, by the method M at depth d, the end is such that Q -/
def zx_V (M : zx_M) (d : Nat) (b : zx_B) (Q : zx_Qt) (S : zx_S) (pc : Nat) (lo : List (Option Value)) (st : List Value) (I : zx_I) (L : zx_L) (R : zx_R) : Prop :=
  ∀ (p : Program) (l : Launch) (e : Env) (s : State) (m : MethodId) (args : Array Value) (below : List Frame) (meth : Method) (c : Code) (D : va_G) (cA : Nat → ClassId) (A : Nat → Prop) (ad0 ad : Nat → Nat) (n0 : Nat) (H : Heap) (locs : List Loc) (ls : Array Slot),
    zx_good M → zx_C M p s m args meth c → zx_X D cA A ad S I L R s H → va_S A s.heap H locs → (∀ q, s.heap.size ≤ q → A q) → zx_lo ad M.2.2.1 lo ls → zx_okl S.length lo → zx_oks S.length st → n0 ≤ S.length → (∀ i, i < n0 → ad i = ad0 i) →
    W p l e (zx_rm d b.2.2.1 b.2.2.2) s m args below meth c H locs b.1 b.2.1 (MQ below (zx_Q D cA A ad0 n0 Q) args s b.2.2.1 b.2.2.2 A) (F0 m pc ls (st.map (zx_rl ad)))
/-- the contract: from these arguments in this world -/
def zx_M0 (M : zx_M) (d mc ms : Nat) (av : List Value) (S : zx_S) (I : zx_I) (L : zx_L) (R : zx_R) (Q : zx_Qt) : Prop :=
  ∀ (l : Launch) (D : va_G) (cA : Nat → ClassId) (ad : Nat → Nat) (sz : Nat), zx_oks S.length av →
    Met l M.1 (zx_ws M) (zx_rm d mc ms) (va_Pc (av.map (zx_rl ad)) (fun U => U.heap.size = sz ∧ zx_X D cA (fun _ => True) ad S I L R U U.heap)) (zx_Q D cA (va_A (zx_W cA ad S I L R) sz) ad S.length Q) mc ms (va_A (zx_W cA ad S I L R) sz)
end
section
/-! a rule an instruction, for the pure machine -/
def zs_len : Instr → Nat → Bool
  | .iload _, n => n == 2 | .lload _, n => n == 2 | .aload _, n => n == 2 | .istore _, n => n == 2 | .lstore _, n => n == 2 | .astore _, n => n == 2
  | .bipush _, n => n == 2 | .sipush _, n => n == 3 | .iinc _ _, n => n == 3 | .getfield _, n => n == 3 | .putfield _, n => n == 3
  | .ldc _, n => n == 2 | .ldc2_w _, n => n == 3 | .goto _, n => n == 3 | .ifCond _ _, n => n == 3 | .if_icmp _ _, n => n == 3 | .ifnull _, n => n == 3 | .ifnonnull _, n => n == 3
  | .invokevirtual _, n => n == 3 | .invokestatic _, n => n == 3 | .invokespecial _, n => n == 3 | .new _, n => n == 3 | .newarray _, n => n == 2 | .anewarray _, n => n == 3
  | .tableswitch _ _ _ _, _ => true | .lookupswitch _ _, _ => true
  | _, n => n == 1
theorem zo_c {n : Nat} {v : Value} {st : List Value} (h : zx_ok n v) (hs : zx_oks n st) : zx_oks n (v :: st) := fun w hw => by
  rcases List.mem_cons.mp hw with rfl | hw
  · exact h
  · exact hs w hw
theorem zo_h {n : Nat} {v : Value} {st : List Value} (hs : zx_oks n (v :: st)) : zx_ok n v := hs v List.mem_cons_self
theorem zo_t {n : Nat} {v : Value} {st : List Value} (hs : zx_oks n (v :: st)) : zx_oks n st := fun w hw => hs w (List.mem_cons_of_mem _ hw)
theorem zo_ad {ad ad' : Nat → Nat} {n : Nat} {st : List Value} (hs : zx_oks n st) (h : ∀ i, i < n → ad' i = ad i) : st.map (zx_rl ad') = st.map (zx_rl ad) := List.map_congr_left fun v hv => zx_rl_ad (hs v hv) h
section
variable {M : zx_M} {d : Nat} {b : zx_B} {Q : zx_Qt} {S : zx_S} {pc : Nat} {lo : List (Option Value)} {st : List Value} {I : zx_I} {L : zx_L} {R : zx_R}
set_option maxHeartbeats 40000 in
theorem zv_iadd {x y : Int32} (hd : (pc, .iadd, 1) ∈ M.2.2.2.2.2) (k : zx_V M d b Q S (pc + 1) lo (.int (x + y) :: st) I L R) : zx_V M d b Q S pc lo (.int y :: .int x :: st) I L R := by
  intro p l e s m args below meth c D cA A ad0 ad n0 H locs ls hg hC hX hS hA hl hol hos hn0 had
  have h9 := hg.1 _ hd
  have h8 := k p l e s m args below meth c D cA A ad0 ad n0 H locs ls hg hC hX hS hA hl hol (zo_c trivial (zo_t (zo_t hos))) hn0 had
  exact lv_iadd hC.1 hC.2.1 h9  h8
set_option maxHeartbeats 40000 in
theorem zv_isub {x y : Int32} (hd : (pc, .isub, 1) ∈ M.2.2.2.2.2) (k : zx_V M d b Q S (pc + 1) lo (.int (x - y) :: st) I L R) : zx_V M d b Q S pc lo (.int y :: .int x :: st) I L R := by
  intro p l e s m args below meth c D cA A ad0 ad n0 H locs ls hg hC hX hS hA hl hol hos hn0 had
  have h9 := hg.1 _ hd
  have h8 := k p l e s m args below meth c D cA A ad0 ad n0 H locs ls hg hC hX hS hA hl hol (zo_c trivial (zo_t (zo_t hos))) hn0 had
  exact lv_isub hC.1 hC.2.1 h9  h8
set_option maxHeartbeats 40000 in
theorem zv_imul {x y : Int32} (hd : (pc, .imul, 1) ∈ M.2.2.2.2.2) (k : zx_V M d b Q S (pc + 1) lo (.int (x * y) :: st) I L R) : zx_V M d b Q S pc lo (.int y :: .int x :: st) I L R := by
  intro p l e s m args below meth c D cA A ad0 ad n0 H locs ls hg hC hX hS hA hl hol hos hn0 had
  have h9 := hg.1 _ hd
  have h8 := k p l e s m args below meth c D cA A ad0 ad n0 H locs ls hg hC hX hS hA hl hol (zo_c trivial (zo_t (zo_t hos))) hn0 had
  exact lv_imul hC.1 hC.2.1 h9  h8
set_option maxHeartbeats 40000 in
theorem zv_iand {x y : Int32} (hd : (pc, .iand, 1) ∈ M.2.2.2.2.2) (k : zx_V M d b Q S (pc + 1) lo (.int (x &&& y) :: st) I L R) : zx_V M d b Q S pc lo (.int y :: .int x :: st) I L R := by
  intro p l e s m args below meth c D cA A ad0 ad n0 H locs ls hg hC hX hS hA hl hol hos hn0 had
  have h9 := hg.1 _ hd
  have h8 := k p l e s m args below meth c D cA A ad0 ad n0 H locs ls hg hC hX hS hA hl hol (zo_c trivial (zo_t (zo_t hos))) hn0 had
  exact lv_iand hC.1 hC.2.1 h9  h8
set_option maxHeartbeats 40000 in
theorem zv_ior {x y : Int32} (hd : (pc, .ior, 1) ∈ M.2.2.2.2.2) (k : zx_V M d b Q S (pc + 1) lo (.int (x ||| y) :: st) I L R) : zx_V M d b Q S pc lo (.int y :: .int x :: st) I L R := by
  intro p l e s m args below meth c D cA A ad0 ad n0 H locs ls hg hC hX hS hA hl hol hos hn0 had
  have h9 := hg.1 _ hd
  have h8 := k p l e s m args below meth c D cA A ad0 ad n0 H locs ls hg hC hX hS hA hl hol (zo_c trivial (zo_t (zo_t hos))) hn0 had
  exact lv_ior hC.1 hC.2.1 h9  h8
set_option maxHeartbeats 40000 in
theorem zv_ixor {x y : Int32} (hd : (pc, .ixor, 1) ∈ M.2.2.2.2.2) (k : zx_V M d b Q S (pc + 1) lo (.int (x ^^^ y) :: st) I L R) : zx_V M d b Q S pc lo (.int y :: .int x :: st) I L R := by
  intro p l e s m args below meth c D cA A ad0 ad n0 H locs ls hg hC hX hS hA hl hol hos hn0 had
  have h9 := hg.1 _ hd
  have h8 := k p l e s m args below meth c D cA A ad0 ad n0 H locs ls hg hC hX hS hA hl hol (zo_c trivial (zo_t (zo_t hos))) hn0 had
  exact lv_ixor hC.1 hC.2.1 h9  h8
set_option maxHeartbeats 40000 in
theorem zv_ishl {x y : Int32} (hd : (pc, .ishl, 1) ∈ M.2.2.2.2.2) (k : zx_V M d b Q S (pc + 1) lo (.int (x <<< (y &&& 31)) :: st) I L R) : zx_V M d b Q S pc lo (.int y :: .int x :: st) I L R := by
  intro p l e s m args below meth c D cA A ad0 ad n0 H locs ls hg hC hX hS hA hl hol hos hn0 had
  have h9 := hg.1 _ hd
  have h8 := k p l e s m args below meth c D cA A ad0 ad n0 H locs ls hg hC hX hS hA hl hol (zo_c trivial (zo_t (zo_t hos))) hn0 had
  exact lv_ishl hC.1 hC.2.1 h9  h8
set_option maxHeartbeats 40000 in
theorem zv_ishr {x y : Int32} (hd : (pc, .ishr, 1) ∈ M.2.2.2.2.2) (k : zx_V M d b Q S (pc + 1) lo (.int (x >>> (y &&& 31)) :: st) I L R) : zx_V M d b Q S pc lo (.int y :: .int x :: st) I L R := by
  intro p l e s m args below meth c D cA A ad0 ad n0 H locs ls hg hC hX hS hA hl hol hos hn0 had
  have h9 := hg.1 _ hd
  have h8 := k p l e s m args below meth c D cA A ad0 ad n0 H locs ls hg hC hX hS hA hl hol (zo_c trivial (zo_t (zo_t hos))) hn0 had
  exact lv_ishr hC.1 hC.2.1 h9  h8
set_option maxHeartbeats 40000 in
theorem zv_idiv {x y : Int32} (hd : (pc, .idiv, 1) ∈ M.2.2.2.2.2) (hne : ¬ y = 0) (k : zx_V M d b Q S (pc + 1) lo (.int (x / y) :: st) I L R) : zx_V M d b Q S pc lo (.int y :: .int x :: st) I L R := by
  intro p l e s m args below meth c D cA A ad0 ad n0 H locs ls hg hC hX hS hA hl hol hos hn0 had
  have h9 := hg.1 _ hd
  have h8 := k p l e s m args below meth c D cA A ad0 ad n0 H locs ls hg hC hX hS hA hl hol (zo_c trivial (zo_t (zo_t hos))) hn0 had
  exact lv_idiv hC.1 hC.2.1 h9 hne h8
set_option maxHeartbeats 40000 in
theorem zv_irem {x y : Int32} (hd : (pc, .irem, 1) ∈ M.2.2.2.2.2) (hne : ¬ y = 0) (k : zx_V M d b Q S (pc + 1) lo (.int (x - x / y * y) :: st) I L R) : zx_V M d b Q S pc lo (.int y :: .int x :: st) I L R := by
  intro p l e s m args below meth c D cA A ad0 ad n0 H locs ls hg hC hX hS hA hl hol hos hn0 had
  have h9 := hg.1 _ hd
  have h8 := k p l e s m args below meth c D cA A ad0 ad n0 H locs ls hg hC hX hS hA hl hol (zo_c trivial (zo_t (zo_t hos))) hn0 had
  exact lv_irem hC.1 hC.2.1 h9 hne h8
set_option maxHeartbeats 40000 in
theorem zv_ladd {x y : Int64} (hd : (pc, .ladd, 1) ∈ M.2.2.2.2.2) (k : zx_V M d b Q S (pc + 1) lo (.long (x + y) :: st) I L R) : zx_V M d b Q S pc lo (.long y :: .long x :: st) I L R := by
  intro p l e s m args below meth c D cA A ad0 ad n0 H locs ls hg hC hX hS hA hl hol hos hn0 had
  have h9 := hg.1 _ hd
  have h8 := k p l e s m args below meth c D cA A ad0 ad n0 H locs ls hg hC hX hS hA hl hol (zo_c trivial (zo_t (zo_t hos))) hn0 had
  exact lv_ladd hC.1 hC.2.1 h9  h8
set_option maxHeartbeats 40000 in
theorem zv_lsub {x y : Int64} (hd : (pc, .lsub, 1) ∈ M.2.2.2.2.2) (k : zx_V M d b Q S (pc + 1) lo (.long (x - y) :: st) I L R) : zx_V M d b Q S pc lo (.long y :: .long x :: st) I L R := by
  intro p l e s m args below meth c D cA A ad0 ad n0 H locs ls hg hC hX hS hA hl hol hos hn0 had
  have h9 := hg.1 _ hd
  have h8 := k p l e s m args below meth c D cA A ad0 ad n0 H locs ls hg hC hX hS hA hl hol (zo_c trivial (zo_t (zo_t hos))) hn0 had
  exact lv_lsub hC.1 hC.2.1 h9  h8
set_option maxHeartbeats 40000 in
theorem zv_land {x y : Int64} (hd : (pc, .land, 1) ∈ M.2.2.2.2.2) (k : zx_V M d b Q S (pc + 1) lo (.long (x &&& y) :: st) I L R) : zx_V M d b Q S pc lo (.long y :: .long x :: st) I L R := by
  intro p l e s m args below meth c D cA A ad0 ad n0 H locs ls hg hC hX hS hA hl hol hos hn0 had
  have h9 := hg.1 _ hd
  have h8 := k p l e s m args below meth c D cA A ad0 ad n0 H locs ls hg hC hX hS hA hl hol (zo_c trivial (zo_t (zo_t hos))) hn0 had
  exact lv_land hC.1 hC.2.1 h9  h8
set_option maxHeartbeats 40000 in
theorem zv_lor {x y : Int64} (hd : (pc, .lor, 1) ∈ M.2.2.2.2.2) (k : zx_V M d b Q S (pc + 1) lo (.long (x ||| y) :: st) I L R) : zx_V M d b Q S pc lo (.long y :: .long x :: st) I L R := by
  intro p l e s m args below meth c D cA A ad0 ad n0 H locs ls hg hC hX hS hA hl hol hos hn0 had
  have h9 := hg.1 _ hd
  have h8 := k p l e s m args below meth c D cA A ad0 ad n0 H locs ls hg hC hX hS hA hl hol (zo_c trivial (zo_t (zo_t hos))) hn0 had
  exact lv_lor hC.1 hC.2.1 h9  h8
set_option maxHeartbeats 40000 in
theorem zv_lxor {x y : Int64} (hd : (pc, .lxor, 1) ∈ M.2.2.2.2.2) (k : zx_V M d b Q S (pc + 1) lo (.long (x ^^^ y) :: st) I L R) : zx_V M d b Q S pc lo (.long y :: .long x :: st) I L R := by
  intro p l e s m args below meth c D cA A ad0 ad n0 H locs ls hg hC hX hS hA hl hol hos hn0 had
  have h9 := hg.1 _ hd
  have h8 := k p l e s m args below meth c D cA A ad0 ad n0 H locs ls hg hC hX hS hA hl hol (zo_c trivial (zo_t (zo_t hos))) hn0 had
  exact lv_lxor hC.1 hC.2.1 h9  h8
set_option maxHeartbeats 40000 in
theorem zv_lushr {x : Int64} {y : Int32} (hd : (pc, .lushr, 1) ∈ M.2.2.2.2.2) (k : zx_V M d b Q S (pc + 1) lo (.long ((x.toUInt64 >>> (y.toInt64.toUInt64 &&& Int64.toUInt64 63)).toInt64) :: st) I L R) : zx_V M d b Q S pc lo (.int y :: .long x :: st) I L R := by
  intro p l e s m args below meth c D cA A ad0 ad n0 H locs ls hg hC hX hS hA hl hol hos hn0 had
  have h9 := hg.1 _ hd
  have h8 := k p l e s m args below meth c D cA A ad0 ad n0 H locs ls hg hC hX hS hA hl hol (zo_c trivial (zo_t (zo_t hos))) hn0 had
  exact lv_lushr hC.1 hC.2.1 h9 rfl h8
set_option maxHeartbeats 40000 in
theorem zv_lshl {x : Int64} {y : Int32} (hd : (pc, .lshl, 1) ∈ M.2.2.2.2.2) (k : zx_V M d b Q S (pc + 1) lo (.long (x <<< (y.toInt64 &&& 63)) :: st) I L R) : zx_V M d b Q S pc lo (.int y :: .long x :: st) I L R := by
  intro p l e s m args below meth c D cA A ad0 ad n0 H locs ls hg hC hX hS hA hl hol hos hn0 had
  have h9 := hg.1 _ hd
  have h8 := k p l e s m args below meth c D cA A ad0 ad n0 H locs ls hg hC hX hS hA hl hol (zo_c trivial (zo_t (zo_t hos))) hn0 had
  exact lv_lshl hC.1 hC.2.1 h9 rfl h8
set_option maxHeartbeats 40000 in
theorem zv_lshr {x : Int64} {y : Int32} (hd : (pc, .lshr, 1) ∈ M.2.2.2.2.2) (k : zx_V M d b Q S (pc + 1) lo (.long (x >>> (y.toInt64 &&& 63)) :: st) I L R) : zx_V M d b Q S pc lo (.int y :: .long x :: st) I L R := by
  intro p l e s m args below meth c D cA A ad0 ad n0 H locs ls hg hC hX hS hA hl hol hos hn0 had
  have h9 := hg.1 _ hd
  have h8 := k p l e s m args below meth c D cA A ad0 ad n0 H locs ls hg hC hX hS hA hl hol (zo_c trivial (zo_t (zo_t hos))) hn0 had
  exact lv_lshr hC.1 hC.2.1 h9 rfl h8
set_option maxHeartbeats 40000 in
theorem zv_i2l {x : Int32} (hd : (pc, .i2l, 1) ∈ M.2.2.2.2.2) (k : zx_V M d b Q S (pc + 1) lo (.long x.toInt64 :: st) I L R) : zx_V M d b Q S pc lo (.int x :: st) I L R := by
  intro p l e s m args below meth c D cA A ad0 ad n0 H locs ls hg hC hX hS hA hl hol hos hn0 had
  have h9 := hg.1 _ hd
  have h8 := k p l e s m args below meth c D cA A ad0 ad n0 H locs ls hg hC hX hS hA hl hol (zo_c trivial (zo_t hos)) hn0 had
  exact lv_i2l hC.1 hC.2.1 h9 rfl h8
set_option maxHeartbeats 40000 in
theorem zv_l2i {x : Int64} (hd : (pc, .l2i, 1) ∈ M.2.2.2.2.2) (k : zx_V M d b Q S (pc + 1) lo (.int x.toInt32 :: st) I L R) : zx_V M d b Q S pc lo (.long x :: st) I L R := by
  intro p l e s m args below meth c D cA A ad0 ad n0 H locs ls hg hC hX hS hA hl hol hos hn0 had
  have h9 := hg.1 _ hd
  have h8 := k p l e s m args below meth c D cA A ad0 ad n0 H locs ls hg hC hX hS hA hl hol (zo_c trivial (zo_t hos)) hn0 had
  exact lv_l2i hC.1 hC.2.1 h9 rfl h8
set_option maxHeartbeats 40000 in
theorem zv_i2b {x : Int32} (hd : (pc, .i2b, 1) ∈ M.2.2.2.2.2) (k : zx_V M d b Q S (pc + 1) lo (.int x.toInt8.toInt32 :: st) I L R) : zx_V M d b Q S pc lo (.int x :: st) I L R := by
  intro p l e s m args below meth c D cA A ad0 ad n0 H locs ls hg hC hX hS hA hl hol hos hn0 had
  have h9 := hg.1 _ hd
  have h8 := k p l e s m args below meth c D cA A ad0 ad n0 H locs ls hg hC hX hS hA hl hol (zo_c trivial (zo_t hos)) hn0 had
  exact lv_i2b hC.1 hC.2.1 h9 rfl h8
set_option maxHeartbeats 40000 in
theorem zv_lcmp {x y : Int64} (hd : (pc, .lcmp, 1) ∈ M.2.2.2.2.2) (k : zx_V M d b Q S (pc + 1) lo (.int (lg_cmp x y) :: st) I L R) : zx_V M d b Q S pc lo (.long y :: .long x :: st) I L R := by
  intro p l e s m args below meth c D cA A ad0 ad n0 H locs ls hg hC hX hS hA hl hol hos hn0 had
  have h9 := hg.1 _ hd
  have h8 := k p l e s m args below meth c D cA A ad0 ad n0 H locs ls hg hC hX hS hA hl hol (zo_c trivial (zo_t (zo_t hos))) hn0 had
  exact W.lcmp hC.1 hC.2.1 h9  h8
set_option maxHeartbeats 40000 in
theorem zv_iconst {v : Int} (hd : (pc, .iconst v, 1) ∈ M.2.2.2.2.2) (k : zx_V M d b Q S (pc + 1) lo (.int (Int32.ofInt v) :: st) I L R) : zx_V M d b Q S pc lo (st) I L R := by
  intro p l e s m args below meth c D cA A ad0 ad n0 H locs ls hg hC hX hS hA hl hol hos hn0 had
  have h9 := hg.1 _ hd
  have h8 := k p l e s m args below meth c D cA A ad0 ad n0 H locs ls hg hC hX hS hA hl hol (zo_c trivial hos) hn0 had
  exact lv_iconst hC.1 hC.2.1 h9 rfl h8
set_option maxHeartbeats 40000 in
theorem zv_bipush {v : Int} (hd : (pc, .bipush v, 2) ∈ M.2.2.2.2.2) (k : zx_V M d b Q S (pc + 2) lo (.int ((Int8.ofInt v).toInt32) :: st) I L R) : zx_V M d b Q S pc lo (st) I L R := by
  intro p l e s m args below meth c D cA A ad0 ad n0 H locs ls hg hC hX hS hA hl hol hos hn0 had
  have h9 := hg.1 _ hd
  have h8 := k p l e s m args below meth c D cA A ad0 ad n0 H locs ls hg hC hX hS hA hl hol (zo_c trivial hos) hn0 had
  exact lv_bipush hC.1 hC.2.1 h9 rfl h8
set_option maxHeartbeats 40000 in
theorem zv_sipush {v : Int} (hd : (pc, .sipush v, 3) ∈ M.2.2.2.2.2) (k : zx_V M d b Q S (pc + 3) lo (.int ((Int16.ofInt v).toInt32) :: st) I L R) : zx_V M d b Q S pc lo (st) I L R := by
  intro p l e s m args below meth c D cA A ad0 ad n0 H locs ls hg hC hX hS hA hl hol hos hn0 had
  have h9 := hg.1 _ hd
  have h8 := k p l e s m args below meth c D cA A ad0 ad n0 H locs ls hg hC hX hS hA hl hol (zo_c trivial hos) hn0 had
  exact lv_sipush hC.1 hC.2.1 h9 rfl h8
set_option maxHeartbeats 40000 in
theorem zv_lconst {v : Fin 2} (hd : (pc, .lconst v, 1) ∈ M.2.2.2.2.2) (k : zx_V M d b Q S (pc + 1) lo (.long (Int64.ofNat (v : Nat)) :: st) I L R) : zx_V M d b Q S pc lo (st) I L R := by
  intro p l e s m args below meth c D cA A ad0 ad n0 H locs ls hg hC hX hS hA hl hol hos hn0 had
  have h9 := hg.1 _ hd
  have h8 := k p l e s m args below meth c D cA A ad0 ad n0 H locs ls hg hC hX hS hA hl hol (zo_c trivial hos) hn0 had
  exact lv_lconst hC.1 hC.2.1 h9 rfl h8
set_option maxHeartbeats 40000 in
theorem zv_null  (hd : (pc, .aconst_null, 1) ∈ M.2.2.2.2.2) (k : zx_V M d b Q S (pc + 1) lo (.null :: st) I L R) : zx_V M d b Q S pc lo (st) I L R := by
  intro p l e s m args below meth c D cA A ad0 ad n0 H locs ls hg hC hX hS hA hl hol hos hn0 had
  have h9 := hg.1 _ hd
  have h8 := k p l e s m args below meth c D cA A ad0 ad n0 H locs ls hg hC hX hS hA hl hol (zo_c trivial hos) hn0 had
  exact lv_null hC.1 hC.2.1 h9  h8
set_option maxHeartbeats 40000 in
theorem zv_ldc {i : Nat} {v : Int32} (hd : (pc, .ldc i, 2) ∈ M.2.2.2.2.2) (hw : Cond.constant M.1.cls i v ∈ zx_G) (k : zx_V M d b Q S (pc + 2) lo (.int v :: st) I L R) : zx_V M d b Q S pc lo (st) I L R := by
  intro p l e s m args below meth c D cA A ad0 ad n0 H locs ls hg hC hX hS hA hl hol hos hn0 had
  have h9 := hg.1 _ hd
  have h8 := k p l e s m args below meth c D cA A ad0 ad n0 H locs ls hg hC hX hS hA hl hol (zo_c trivial hos) hn0 had
  exact lv_ldc hC.1 hC.2.1 hC.2.2.2.2.1 (hC.2.2.2.2.2.1 _ hw) h9  h8
set_option maxHeartbeats 40000 in
theorem zv_ldc2 {i : Nat} {v : Int64} (hd : (pc, .ldc2_w i, 3) ∈ M.2.2.2.2.2) (hw : Cond.constantLong M.1.cls i v ∈ zx_G) (k : zx_V M d b Q S (pc + 3) lo (.long v :: st) I L R) : zx_V M d b Q S pc lo (st) I L R := by
  intro p l e s m args below meth c D cA A ad0 ad n0 H locs ls hg hC hX hS hA hl hol hos hn0 had
  have h9 := hg.1 _ hd
  have h8 := k p l e s m args below meth c D cA A ad0 ad n0 H locs ls hg hC hX hS hA hl hol (zo_c trivial hos) hn0 had
  exact lv_ldc2 hC.1 hC.2.1 hC.2.2.2.2.1 (hC.2.2.2.2.2.1 _ hw) h9  h8
set_option maxHeartbeats 40000 in
theorem zv_dup {v : Value} (hd : (pc, .dup, 1) ∈ M.2.2.2.2.2) (hv : v.category = 1) (k : zx_V M d b Q S (pc + 1) lo (v :: v :: st) I L R) : zx_V M d b Q S pc lo (v :: st) I L R := by
  intro p l e s m args below meth c D cA A ad0 ad n0 H locs ls hg hC hX hS hA hl hol hos hn0 had
  have h9 := hg.1 _ hd
  have h8 := k p l e s m args below meth c D cA A ad0 ad n0 H locs ls hg hC hX hS hA hl hol (zo_c (zo_h hos) hos) hn0 had
  exact lv_dup hC.1 hC.2.1 h9 ((zx_rl_cat ad v).trans hv) h8
set_option maxHeartbeats 40000 in
theorem zv_pop {v : Value} (hd : (pc, .pop, 1) ∈ M.2.2.2.2.2) (hv : v.category = 1) (k : zx_V M d b Q S (pc + 1) lo (st) I L R) : zx_V M d b Q S pc lo (v :: st) I L R := by
  intro p l e s m args below meth c D cA A ad0 ad n0 H locs ls hg hC hX hS hA hl hol hos hn0 had
  have h9 := hg.1 _ hd
  have h8 := k p l e s m args below meth c D cA A ad0 ad n0 H locs ls hg hC hX hS hA hl hol (zo_t hos) hn0 had
  exact lv_pop hC.1 hC.2.1 h9 ((zx_rl_cat ad v).trans hv) h8
set_option maxHeartbeats 40000 in
theorem zv_dup2 {v w : Value} (hd : (pc, .dup2, 1) ∈ M.2.2.2.2.2) (hv : v.category = 1) (hw : w.category = 1) (k : zx_V M d b Q S (pc + 1) lo (v :: w :: v :: w :: st) I L R) : zx_V M d b Q S pc lo (v :: w :: st) I L R := by
  intro p l e s m args below meth c D cA A ad0 ad n0 H locs ls hg hC hX hS hA hl hol hos hn0 had
  have h9 := hg.1 _ hd
  have h8 := k p l e s m args below meth c D cA A ad0 ad n0 H locs ls hg hC hX hS hA hl hol (zo_c (zo_h hos) (zo_c (zo_h (zo_t hos)) hos)) hn0 had
  exact lv_dup2_11 hC.1 hC.2.1 h9 ((zx_rl_cat ad v).trans hv) ((zx_rl_cat ad w).trans hw) h8
set_option maxHeartbeats 40000 in
theorem zv_iload {i : Nat} {x : Int32} (hd : (pc, .iload i, 2) ∈ M.2.2.2.2.2) (hv : lo[i]? = some (some (.int x))) (k : zx_V M d b Q S (pc + 2) lo (.int x :: st) I L R) : zx_V M d b Q S pc lo (st) I L R := by
  intro p l e s m args below meth c D cA A ad0 ad n0 H locs ls hg hC hX hS hA hl hol hos hn0 had
  have h9 := hg.1 _ hd
  have h8 := k p l e s m args below meth c D cA A ad0 ad n0 H locs ls hg hC hX hS hA hl hol (zo_c trivial hos) hn0 had
  exact lv_iload hC.1 hC.2.1 h9 (hl.2.2.2 _ _ hv) h8
set_option maxHeartbeats 40000 in
theorem zv_iload_n {i : Fin 4} {x : Int32} (hd : (pc, .iload_n i, 1) ∈ M.2.2.2.2.2) (hv : lo[(i : Nat)]? = some (some (.int x))) (k : zx_V M d b Q S (pc + 1) lo (.int x :: st) I L R) : zx_V M d b Q S pc lo (st) I L R := by
  intro p l e s m args below meth c D cA A ad0 ad n0 H locs ls hg hC hX hS hA hl hol hos hn0 had
  have h9 := hg.1 _ hd
  have h8 := k p l e s m args below meth c D cA A ad0 ad n0 H locs ls hg hC hX hS hA hl hol (zo_c trivial hos) hn0 had
  exact lv_iload_n hC.1 hC.2.1 h9 rfl (hl.2.2.2 _ _ hv) h8
set_option maxHeartbeats 40000 in
theorem zv_lload {i : Nat} {x : Int64} (hd : (pc, .lload i, 2) ∈ M.2.2.2.2.2) (hv : lo[i]? = some (some (.long x))) (k : zx_V M d b Q S (pc + 2) lo (.long x :: st) I L R) : zx_V M d b Q S pc lo (st) I L R := by
  intro p l e s m args below meth c D cA A ad0 ad n0 H locs ls hg hC hX hS hA hl hol hos hn0 had
  have h9 := hg.1 _ hd
  have h8 := k p l e s m args below meth c D cA A ad0 ad n0 H locs ls hg hC hX hS hA hl hol (zo_c trivial hos) hn0 had
  exact lv_lload hC.1 hC.2.1 h9 (hl.2.2.2 _ _ hv) h8
set_option maxHeartbeats 40000 in
theorem zv_lload_n {i : Fin 4} {x : Int64} (hd : (pc, .lload_n i, 1) ∈ M.2.2.2.2.2) (hv : lo[(i : Nat)]? = some (some (.long x))) (k : zx_V M d b Q S (pc + 1) lo (.long x :: st) I L R) : zx_V M d b Q S pc lo (st) I L R := by
  intro p l e s m args below meth c D cA A ad0 ad n0 H locs ls hg hC hX hS hA hl hol hos hn0 had
  have h9 := hg.1 _ hd
  have h8 := k p l e s m args below meth c D cA A ad0 ad n0 H locs ls hg hC hX hS hA hl hol (zo_c trivial hos) hn0 had
  exact lv_lload_n hC.1 hC.2.1 h9 rfl (hl.2.2.2 _ _ hv) h8
set_option maxHeartbeats 40000 in
theorem zv_aload {i : Nat} {x : Nat} (hd : (pc, .aload i, 2) ∈ M.2.2.2.2.2) (hv : lo[i]? = some (some (.ref x))) (k : zx_V M d b Q S (pc + 2) lo (.ref x :: st) I L R) : zx_V M d b Q S pc lo (st) I L R := by
  intro p l e s m args below meth c D cA A ad0 ad n0 H locs ls hg hC hX hS hA hl hol hos hn0 had
  have h9 := hg.1 _ hd
  have h8 := k p l e s m args below meth c D cA A ad0 ad n0 H locs ls hg hC hX hS hA hl hol (zo_c (hol _ _ hv) hos) hn0 had
  exact lv_aload hC.1 hC.2.1 h9 (hl.2.2.2 _ _ hv) h8
set_option maxHeartbeats 40000 in
theorem zv_aload_n {i : Fin 4} {x : Nat} (hd : (pc, .aload_n i, 1) ∈ M.2.2.2.2.2) (hv : lo[(i : Nat)]? = some (some (.ref x))) (k : zx_V M d b Q S (pc + 1) lo (.ref x :: st) I L R) : zx_V M d b Q S pc lo (st) I L R := by
  intro p l e s m args below meth c D cA A ad0 ad n0 H locs ls hg hC hX hS hA hl hol hos hn0 had
  have h9 := hg.1 _ hd
  have h8 := k p l e s m args below meth c D cA A ad0 ad n0 H locs ls hg hC hX hS hA hl hol (zo_c (hol _ _ hv) hos) hn0 had
  exact lv_aload_n hC.1 hC.2.1 h9 rfl (hl.2.2.2 _ _ hv) h8
set_option maxHeartbeats 40000 in
theorem zv_aloadN {i : Nat} (hd : (pc, .aload i, 2) ∈ M.2.2.2.2.2) (hv : lo[i]? = some (some .null)) (k : zx_V M d b Q S (pc + 2) lo (.null :: st) I L R) : zx_V M d b Q S pc lo (st) I L R := by
  intro p l e s m args below meth c D cA A ad0 ad n0 H locs ls hg hC hX hS hA hl hol hos hn0 had
  have h9 := hg.1 _ hd
  have h8 := k p l e s m args below meth c D cA A ad0 ad n0 H locs ls hg hC hX hS hA hl hol (zo_c trivial hos) hn0 had
  exact lv_aloadN hC.1 hC.2.1 h9 (hl.2.2.2 _ _ hv) h8
set_option maxHeartbeats 40000 in
theorem zv_aload_nN {i : Fin 4} (hd : (pc, .aload_n i, 1) ∈ M.2.2.2.2.2) (hv : lo[(i : Nat)]? = some (some .null)) (k : zx_V M d b Q S (pc + 1) lo (.null :: st) I L R) : zx_V M d b Q S pc lo (st) I L R := by
  intro p l e s m args below meth c D cA A ad0 ad n0 H locs ls hg hC hX hS hA hl hol hos hn0 had
  have h9 := hg.1 _ hd
  have h8 := k p l e s m args below meth c D cA A ad0 ad n0 H locs ls hg hC hX hS hA hl hol (zo_c trivial hos) hn0 had
  exact lv_aload_nN hC.1 hC.2.1 h9 rfl (hl.2.2.2 _ _ hv) h8
set_option maxHeartbeats 40000 in
theorem zv_istore {i : Nat} {x : Int32} (hd : (pc, .istore i, 2) ∈ M.2.2.2.2.2) (hi : (i : Nat) < lo.length) (k : zx_V M d b Q S (pc + 2) (zx_st1 lo i (.int x)) st I L R) : zx_V M d b Q S pc lo (.int x :: st) I L R := by
  intro p l e s m args below meth c D cA A ad0 ad n0 H locs ls hg hC hX hS hA hl hol hos hn0 had
  have h9 := hg.1 _ hd
  exact lv_istore hC.1 hC.2.1 h9 (zx_lv_has hl) (by rw [← hl.2.2.1]; exact hi) rfl (fun _ hls => k p l e s m args below meth c D cA A ad0 ad n0 H locs _ hg hC hX hS hA (zx_lo_st1 hl.2.2.1 hls) (zx_okl_st1 hol trivial) (zo_t hos) hn0 had)
set_option maxHeartbeats 40000 in
theorem zv_istore_n {i : Fin 4} {x : Int32} (hd : (pc, .istore_n i, 1) ∈ M.2.2.2.2.2) (hi : (i : Nat) < lo.length) (k : zx_V M d b Q S (pc + 1) (zx_st1 lo i (.int x)) st I L R) : zx_V M d b Q S pc lo (.int x :: st) I L R := by
  intro p l e s m args below meth c D cA A ad0 ad n0 H locs ls hg hC hX hS hA hl hol hos hn0 had
  have h9 := hg.1 _ hd
  exact lv_istore_n hC.1 hC.2.1 h9 rfl (zx_lv_has hl) (by rw [← hl.2.2.1]; exact hi) rfl (fun _ hls => k p l e s m args below meth c D cA A ad0 ad n0 H locs _ hg hC hX hS hA (zx_lo_st1 hl.2.2.1 hls) (zx_okl_st1 hol trivial) (zo_t hos) hn0 had)
set_option maxHeartbeats 40000 in
theorem zv_lstore {i : Nat} {x : Int64} (hd : (pc, .lstore i, 2) ∈ M.2.2.2.2.2) (hi : (i : Nat) + 1 < lo.length) (k : zx_V M d b Q S (pc + 2) (zx_st2 lo i (.long x)) st I L R) : zx_V M d b Q S pc lo (.long x :: st) I L R := by
  intro p l e s m args below meth c D cA A ad0 ad n0 H locs ls hg hC hX hS hA hl hol hos hn0 had
  have h9 := hg.1 _ hd
  exact lv_lstore hC.1 hC.2.1 h9 (zx_lv_has hl) (by rw [← hl.2.2.1]; exact hi) rfl (fun _ hls => k p l e s m args below meth c D cA A ad0 ad n0 H locs _ hg hC hX hS hA (zx_lo_st2 hl.2.2.1 hls) (zx_okl_st2 hol trivial) (zo_t hos) hn0 had)
set_option maxHeartbeats 40000 in
theorem zv_lstore_n {i : Fin 4} {x : Int64} (hd : (pc, .lstore_n i, 1) ∈ M.2.2.2.2.2) (hi : (i : Nat) + 1 < lo.length) (k : zx_V M d b Q S (pc + 1) (zx_st2 lo i (.long x)) st I L R) : zx_V M d b Q S pc lo (.long x :: st) I L R := by
  intro p l e s m args below meth c D cA A ad0 ad n0 H locs ls hg hC hX hS hA hl hol hos hn0 had
  have h9 := hg.1 _ hd
  exact lv_lstore_n hC.1 hC.2.1 h9 rfl (zx_lv_has hl) (by rw [← hl.2.2.1]; exact hi) rfl (fun _ hls => k p l e s m args below meth c D cA A ad0 ad n0 H locs _ hg hC hX hS hA (zx_lo_st2 hl.2.2.1 hls) (zx_okl_st2 hol trivial) (zo_t hos) hn0 had)
set_option maxHeartbeats 40000 in
theorem zv_astore {i : Nat} {x : Nat} (hd : (pc, .astore i, 2) ∈ M.2.2.2.2.2) (hi : (i : Nat) < lo.length) (k : zx_V M d b Q S (pc + 2) (zx_st1 lo i (.ref x)) st I L R) : zx_V M d b Q S pc lo (.ref x :: st) I L R := by
  intro p l e s m args below meth c D cA A ad0 ad n0 H locs ls hg hC hX hS hA hl hol hos hn0 had
  have h9 := hg.1 _ hd
  exact lv_astore hC.1 hC.2.1 h9 (zx_lv_has hl) (by rw [← hl.2.2.1]; exact hi) rfl (fun _ hls => k p l e s m args below meth c D cA A ad0 ad n0 H locs _ hg hC hX hS hA (zx_lo_st1 hl.2.2.1 hls) (zx_okl_st1 hol (zo_h hos)) (zo_t hos) hn0 had)
set_option maxHeartbeats 40000 in
theorem zv_astore_n {i : Fin 4} {x : Nat} (hd : (pc, .astore_n i, 1) ∈ M.2.2.2.2.2) (hi : (i : Nat) < lo.length) (k : zx_V M d b Q S (pc + 1) (zx_st1 lo i (.ref x)) st I L R) : zx_V M d b Q S pc lo (.ref x :: st) I L R := by
  intro p l e s m args below meth c D cA A ad0 ad n0 H locs ls hg hC hX hS hA hl hol hos hn0 had
  have h9 := hg.1 _ hd
  exact lv_astore_n hC.1 hC.2.1 h9 rfl (zx_lv_has hl) (by rw [← hl.2.2.1]; exact hi) rfl (fun _ hls => k p l e s m args below meth c D cA A ad0 ad n0 H locs _ hg hC hX hS hA (zx_lo_st1 hl.2.2.1 hls) (zx_okl_st1 hol (zo_h hos)) (zo_t hos) hn0 had)
set_option maxHeartbeats 40000 in
theorem zv_astoreN {i : Nat}  (hd : (pc, .astore i, 2) ∈ M.2.2.2.2.2) (hi : (i : Nat) < lo.length) (k : zx_V M d b Q S (pc + 2) (zx_st1 lo i (.null)) st I L R) : zx_V M d b Q S pc lo (.null :: st) I L R := by
  intro p l e s m args below meth c D cA A ad0 ad n0 H locs ls hg hC hX hS hA hl hol hos hn0 had
  have h9 := hg.1 _ hd
  exact lv_astoreN hC.1 hC.2.1 h9 (zx_lv_has hl) (by rw [← hl.2.2.1]; exact hi) rfl (fun _ hls => k p l e s m args below meth c D cA A ad0 ad n0 H locs _ hg hC hX hS hA (zx_lo_st1 hl.2.2.1 hls) (zx_okl_st1 hol trivial) (zo_t hos) hn0 had)
set_option maxHeartbeats 40000 in
theorem zv_astore_nN {i : Fin 4}  (hd : (pc, .astore_n i, 1) ∈ M.2.2.2.2.2) (hi : (i : Nat) < lo.length) (k : zx_V M d b Q S (pc + 1) (zx_st1 lo i (.null)) st I L R) : zx_V M d b Q S pc lo (.null :: st) I L R := by
  intro p l e s m args below meth c D cA A ad0 ad n0 H locs ls hg hC hX hS hA hl hol hos hn0 had
  have h9 := hg.1 _ hd
  exact lv_astore_nN hC.1 hC.2.1 h9 rfl (zx_lv_has hl) (by rw [← hl.2.2.1]; exact hi) rfl (fun _ hls => k p l e s m args below meth c D cA A ad0 ad n0 H locs _ hg hC hX hS hA (zx_lo_st1 hl.2.2.1 hls) (zx_okl_st1 hol trivial) (zo_t hos) hn0 had)
set_option maxHeartbeats 40000 in
theorem zv_iinc {i : Nat} {v : Int} {x : Int32} (hd : (pc, .iinc i v, 3) ∈ M.2.2.2.2.2) (hv : lo[i]? = some (some (.int x))) (k : zx_V M d b Q S (pc + 3) (zx_st1 lo i (.int (x + Int32.ofInt v))) st I L R) : zx_V M d b Q S pc lo st I L R := by
  intro p l e s m args below meth c D cA A ad0 ad n0 H locs ls hg hC hX hS hA hl hol hos hn0 had
  obtain ⟨kk, hkk⟩ := List.getElem?_of_mem (zx_lv_mem (ad := ad) hv)
  have h9 := hg.1 _ hd
  exact lv_iinc hC.1 hC.2.1 h9 (zx_lv_has hl) hkk rfl (by rw [← hl.2.2.1]; exact (List.getElem?_eq_some_iff.mp hv).1) rfl (fun _ hls => k p l e s m args below meth c D cA A ad0 ad n0 H locs _ hg hC hX hS hA (zx_lo_st1 (v := .int _) hl.2.2.1 hls) (zx_okl_st1 hol trivial) hos hn0 had)
set_option maxHeartbeats 40000 in
theorem zv_goto {off : Int} {tgt : Nat} (hd : (pc, .goto off, 3) ∈ M.2.2.2.2.2) (ht : (pc : Int) + off = (tgt : Int)) (k : zx_V M d b Q S tgt lo st I L R) : zx_V M d b Q S pc lo st I L R := by
  intro p l e s m args below meth c D cA A ad0 ad n0 H locs ls hg hC hX hS hA hl hol hos hn0 had
  have h9 := hg.1 _ hd
  have h8 := k p l e s m args below meth c D cA A ad0 ad n0 H locs ls hg hC hX hS hA hl hol hos hn0 had
  exact lv_goto hC.1 hC.2.1 h9 ht h8
set_option maxHeartbeats 40000 in
theorem zv_if_eq {x : Int32} {off : Int} {tgt : Nat} (hd : (pc, .ifCond .eq off, 3) ∈ M.2.2.2.2.2) (ht : (pc : Int) + off = (tgt : Int)) (kt : x = 0 → zx_V M d b Q S tgt lo st I L R) (kf : ¬ x = 0 → zx_V M d b Q S (pc + 3) lo st I L R) : zx_V M d b Q S pc lo (.int x :: st) I L R := by
  intro p l e s m args below meth c D cA A ad0 ad n0 H locs ls hg hC hX hS hA hl hol hos hn0 had
  have h9 := hg.1 _ hd
  have ht8 := fun q => kt q p l e s m args below meth c D cA A ad0 ad n0 H locs ls hg hC hX hS hA hl hol (zo_t hos) hn0 had
  have hf8 := fun q => kf q p l e s m args below meth c D cA A ad0 ad n0 H locs ls hg hC hX hS hA hl hol (zo_t hos) hn0 had
  exact lv_if_eq hC.1 hC.2.1 h9 ht ht8 hf8
set_option maxHeartbeats 40000 in
theorem zv_icmp_eq {x y : Int32} {off : Int} {tgt : Nat} (hd : (pc, .if_icmp .eq off, 3) ∈ M.2.2.2.2.2) (ht : (pc : Int) + off = (tgt : Int)) (kt : x = y → zx_V M d b Q S tgt lo st I L R) (kf : ¬ x = y → zx_V M d b Q S (pc + 3) lo st I L R) : zx_V M d b Q S pc lo (.int y :: .int x :: st) I L R := by
  intro p l e s m args below meth c D cA A ad0 ad n0 H locs ls hg hC hX hS hA hl hol hos hn0 had
  have h9 := hg.1 _ hd
  have ht8 := fun q => kt q p l e s m args below meth c D cA A ad0 ad n0 H locs ls hg hC hX hS hA hl hol (zo_t (zo_t hos)) hn0 had
  have hf8 := fun q => kf q p l e s m args below meth c D cA A ad0 ad n0 H locs ls hg hC hX hS hA hl hol (zo_t (zo_t hos)) hn0 had
  exact lv_icmp_eq hC.1 hC.2.1 h9 ht ht8 hf8
set_option maxHeartbeats 40000 in
theorem zv_if_ne {x : Int32} {off : Int} {tgt : Nat} (hd : (pc, .ifCond .ne off, 3) ∈ M.2.2.2.2.2) (ht : (pc : Int) + off = (tgt : Int)) (kt : ¬ x = 0 → zx_V M d b Q S tgt lo st I L R) (kf : x = 0 → zx_V M d b Q S (pc + 3) lo st I L R) : zx_V M d b Q S pc lo (.int x :: st) I L R := by
  intro p l e s m args below meth c D cA A ad0 ad n0 H locs ls hg hC hX hS hA hl hol hos hn0 had
  have h9 := hg.1 _ hd
  have ht8 := fun q => kt q p l e s m args below meth c D cA A ad0 ad n0 H locs ls hg hC hX hS hA hl hol (zo_t hos) hn0 had
  have hf8 := fun q => kf q p l e s m args below meth c D cA A ad0 ad n0 H locs ls hg hC hX hS hA hl hol (zo_t hos) hn0 had
  exact lv_if_ne hC.1 hC.2.1 h9 ht ht8 hf8
set_option maxHeartbeats 40000 in
theorem zv_icmp_ne {x y : Int32} {off : Int} {tgt : Nat} (hd : (pc, .if_icmp .ne off, 3) ∈ M.2.2.2.2.2) (ht : (pc : Int) + off = (tgt : Int)) (kt : ¬ x = y → zx_V M d b Q S tgt lo st I L R) (kf : x = y → zx_V M d b Q S (pc + 3) lo st I L R) : zx_V M d b Q S pc lo (.int y :: .int x :: st) I L R := by
  intro p l e s m args below meth c D cA A ad0 ad n0 H locs ls hg hC hX hS hA hl hol hos hn0 had
  have h9 := hg.1 _ hd
  have ht8 := fun q => kt q p l e s m args below meth c D cA A ad0 ad n0 H locs ls hg hC hX hS hA hl hol (zo_t (zo_t hos)) hn0 had
  have hf8 := fun q => kf q p l e s m args below meth c D cA A ad0 ad n0 H locs ls hg hC hX hS hA hl hol (zo_t (zo_t hos)) hn0 had
  exact lv_icmp_ne hC.1 hC.2.1 h9 ht ht8 hf8
set_option maxHeartbeats 40000 in
theorem zv_if_lt {x : Int32} {off : Int} {tgt : Nat} (hd : (pc, .ifCond .lt off, 3) ∈ M.2.2.2.2.2) (ht : (pc : Int) + off = (tgt : Int)) (kt : x < 0 → zx_V M d b Q S tgt lo st I L R) (kf : ¬ x < 0 → zx_V M d b Q S (pc + 3) lo st I L R) : zx_V M d b Q S pc lo (.int x :: st) I L R := by
  intro p l e s m args below meth c D cA A ad0 ad n0 H locs ls hg hC hX hS hA hl hol hos hn0 had
  have h9 := hg.1 _ hd
  have ht8 := fun q => kt q p l e s m args below meth c D cA A ad0 ad n0 H locs ls hg hC hX hS hA hl hol (zo_t hos) hn0 had
  have hf8 := fun q => kf q p l e s m args below meth c D cA A ad0 ad n0 H locs ls hg hC hX hS hA hl hol (zo_t hos) hn0 had
  exact lv_if_lt hC.1 hC.2.1 h9 ht ht8 hf8
set_option maxHeartbeats 40000 in
theorem zv_icmp_lt {x y : Int32} {off : Int} {tgt : Nat} (hd : (pc, .if_icmp .lt off, 3) ∈ M.2.2.2.2.2) (ht : (pc : Int) + off = (tgt : Int)) (kt : x < y → zx_V M d b Q S tgt lo st I L R) (kf : ¬ x < y → zx_V M d b Q S (pc + 3) lo st I L R) : zx_V M d b Q S pc lo (.int y :: .int x :: st) I L R := by
  intro p l e s m args below meth c D cA A ad0 ad n0 H locs ls hg hC hX hS hA hl hol hos hn0 had
  have h9 := hg.1 _ hd
  have ht8 := fun q => kt q p l e s m args below meth c D cA A ad0 ad n0 H locs ls hg hC hX hS hA hl hol (zo_t (zo_t hos)) hn0 had
  have hf8 := fun q => kf q p l e s m args below meth c D cA A ad0 ad n0 H locs ls hg hC hX hS hA hl hol (zo_t (zo_t hos)) hn0 had
  exact lv_icmp_lt hC.1 hC.2.1 h9 ht ht8 hf8
set_option maxHeartbeats 40000 in
theorem zv_if_ge {x : Int32} {off : Int} {tgt : Nat} (hd : (pc, .ifCond .ge off, 3) ∈ M.2.2.2.2.2) (ht : (pc : Int) + off = (tgt : Int)) (kt : 0 ≤ x → zx_V M d b Q S tgt lo st I L R) (kf : ¬ 0 ≤ x → zx_V M d b Q S (pc + 3) lo st I L R) : zx_V M d b Q S pc lo (.int x :: st) I L R := by
  intro p l e s m args below meth c D cA A ad0 ad n0 H locs ls hg hC hX hS hA hl hol hos hn0 had
  have h9 := hg.1 _ hd
  have ht8 := fun q => kt q p l e s m args below meth c D cA A ad0 ad n0 H locs ls hg hC hX hS hA hl hol (zo_t hos) hn0 had
  have hf8 := fun q => kf q p l e s m args below meth c D cA A ad0 ad n0 H locs ls hg hC hX hS hA hl hol (zo_t hos) hn0 had
  exact lv_if_ge hC.1 hC.2.1 h9 ht ht8 hf8
set_option maxHeartbeats 40000 in
theorem zv_icmp_ge {x y : Int32} {off : Int} {tgt : Nat} (hd : (pc, .if_icmp .ge off, 3) ∈ M.2.2.2.2.2) (ht : (pc : Int) + off = (tgt : Int)) (kt : y ≤ x → zx_V M d b Q S tgt lo st I L R) (kf : ¬ y ≤ x → zx_V M d b Q S (pc + 3) lo st I L R) : zx_V M d b Q S pc lo (.int y :: .int x :: st) I L R := by
  intro p l e s m args below meth c D cA A ad0 ad n0 H locs ls hg hC hX hS hA hl hol hos hn0 had
  have h9 := hg.1 _ hd
  have ht8 := fun q => kt q p l e s m args below meth c D cA A ad0 ad n0 H locs ls hg hC hX hS hA hl hol (zo_t (zo_t hos)) hn0 had
  have hf8 := fun q => kf q p l e s m args below meth c D cA A ad0 ad n0 H locs ls hg hC hX hS hA hl hol (zo_t (zo_t hos)) hn0 had
  exact lv_icmp_ge hC.1 hC.2.1 h9 ht ht8 hf8
set_option maxHeartbeats 40000 in
theorem zv_if_gt {x : Int32} {off : Int} {tgt : Nat} (hd : (pc, .ifCond .gt off, 3) ∈ M.2.2.2.2.2) (ht : (pc : Int) + off = (tgt : Int)) (kt : 0 < x → zx_V M d b Q S tgt lo st I L R) (kf : ¬ 0 < x → zx_V M d b Q S (pc + 3) lo st I L R) : zx_V M d b Q S pc lo (.int x :: st) I L R := by
  intro p l e s m args below meth c D cA A ad0 ad n0 H locs ls hg hC hX hS hA hl hol hos hn0 had
  have h9 := hg.1 _ hd
  have ht8 := fun q => kt q p l e s m args below meth c D cA A ad0 ad n0 H locs ls hg hC hX hS hA hl hol (zo_t hos) hn0 had
  have hf8 := fun q => kf q p l e s m args below meth c D cA A ad0 ad n0 H locs ls hg hC hX hS hA hl hol (zo_t hos) hn0 had
  exact lv_if_gt hC.1 hC.2.1 h9 ht ht8 hf8
set_option maxHeartbeats 40000 in
theorem zv_icmp_gt {x y : Int32} {off : Int} {tgt : Nat} (hd : (pc, .if_icmp .gt off, 3) ∈ M.2.2.2.2.2) (ht : (pc : Int) + off = (tgt : Int)) (kt : y < x → zx_V M d b Q S tgt lo st I L R) (kf : ¬ y < x → zx_V M d b Q S (pc + 3) lo st I L R) : zx_V M d b Q S pc lo (.int y :: .int x :: st) I L R := by
  intro p l e s m args below meth c D cA A ad0 ad n0 H locs ls hg hC hX hS hA hl hol hos hn0 had
  have h9 := hg.1 _ hd
  have ht8 := fun q => kt q p l e s m args below meth c D cA A ad0 ad n0 H locs ls hg hC hX hS hA hl hol (zo_t (zo_t hos)) hn0 had
  have hf8 := fun q => kf q p l e s m args below meth c D cA A ad0 ad n0 H locs ls hg hC hX hS hA hl hol (zo_t (zo_t hos)) hn0 had
  exact lv_icmp_gt hC.1 hC.2.1 h9 ht ht8 hf8
set_option maxHeartbeats 40000 in
theorem zv_if_le {x : Int32} {off : Int} {tgt : Nat} (hd : (pc, .ifCond .le off, 3) ∈ M.2.2.2.2.2) (ht : (pc : Int) + off = (tgt : Int)) (kt : x ≤ 0 → zx_V M d b Q S tgt lo st I L R) (kf : ¬ x ≤ 0 → zx_V M d b Q S (pc + 3) lo st I L R) : zx_V M d b Q S pc lo (.int x :: st) I L R := by
  intro p l e s m args below meth c D cA A ad0 ad n0 H locs ls hg hC hX hS hA hl hol hos hn0 had
  have h9 := hg.1 _ hd
  have ht8 := fun q => kt q p l e s m args below meth c D cA A ad0 ad n0 H locs ls hg hC hX hS hA hl hol (zo_t hos) hn0 had
  have hf8 := fun q => kf q p l e s m args below meth c D cA A ad0 ad n0 H locs ls hg hC hX hS hA hl hol (zo_t hos) hn0 had
  exact lv_if_le hC.1 hC.2.1 h9 ht ht8 hf8
set_option maxHeartbeats 40000 in
theorem zv_icmp_le {x y : Int32} {off : Int} {tgt : Nat} (hd : (pc, .if_icmp .le off, 3) ∈ M.2.2.2.2.2) (ht : (pc : Int) + off = (tgt : Int)) (kt : x ≤ y → zx_V M d b Q S tgt lo st I L R) (kf : ¬ x ≤ y → zx_V M d b Q S (pc + 3) lo st I L R) : zx_V M d b Q S pc lo (.int y :: .int x :: st) I L R := by
  intro p l e s m args below meth c D cA A ad0 ad n0 H locs ls hg hC hX hS hA hl hol hos hn0 had
  have h9 := hg.1 _ hd
  have ht8 := fun q => kt q p l e s m args below meth c D cA A ad0 ad n0 H locs ls hg hC hX hS hA hl hol (zo_t (zo_t hos)) hn0 had
  have hf8 := fun q => kf q p l e s m args below meth c D cA A ad0 ad n0 H locs ls hg hC hX hS hA hl hol (zo_t (zo_t hos)) hn0 had
  exact lv_icmp_le hC.1 hC.2.1 h9 ht ht8 hf8
set_option maxHeartbeats 40000 in
theorem zv_ifnull {off : Int} {x : Nat} (hd : (pc, .ifnull off, 3) ∈ M.2.2.2.2.2) (k : zx_V M d b Q S (pc + 3) lo st I L R) : zx_V M d b Q S pc lo (.ref x :: st) I L R := by
  intro p l e s m args below meth c D cA A ad0 ad n0 H locs ls hg hC hX hS hA hl hol hos hn0 had
  have h9 := hg.1 _ hd
  have h8 := k p l e s m args below meth c D cA A ad0 ad n0 H locs ls hg hC hX hS hA hl hol (zo_t hos) hn0 had
  exact lv_ifnull hC.1 hC.2.1 h9 h8
set_option maxHeartbeats 40000 in
theorem zv_ifnullN {off : Int} {tgt : Nat} (hd : (pc, .ifnull off, 3) ∈ M.2.2.2.2.2) (ht : (pc : Int) + off = (tgt : Int)) (k : zx_V M d b Q S tgt lo st I L R) : zx_V M d b Q S pc lo (.null :: st) I L R := by
  intro p l e s m args below meth c D cA A ad0 ad n0 H locs ls hg hC hX hS hA hl hol hos hn0 had
  have h9 := hg.1 _ hd
  have h8 := k p l e s m args below meth c D cA A ad0 ad n0 H locs ls hg hC hX hS hA hl hol (zo_t hos) hn0 had
  exact lv_ifnullN hC.1 hC.2.1 h9 ht h8
set_option maxHeartbeats 40000 in
theorem zv_ifnonnull {off : Int} {x tgt : Nat} (hd : (pc, .ifnonnull off, 3) ∈ M.2.2.2.2.2) (ht : (pc : Int) + off = (tgt : Int)) (k : zx_V M d b Q S tgt lo st I L R) : zx_V M d b Q S pc lo (.ref x :: st) I L R := by
  intro p l e s m args below meth c D cA A ad0 ad n0 H locs ls hg hC hX hS hA hl hol hos hn0 had
  have h9 := hg.1 _ hd
  have h8 := k p l e s m args below meth c D cA A ad0 ad n0 H locs ls hg hC hX hS hA hl hol (zo_t hos) hn0 had
  exact lv_ifnonnull hC.1 hC.2.1 h9 ht h8
set_option maxHeartbeats 40000 in
theorem zv_ifnonnullN {off : Int} (hd : (pc, .ifnonnull off, 3) ∈ M.2.2.2.2.2) (k : zx_V M d b Q S (pc + 3) lo st I L R) : zx_V M d b Q S pc lo (.null :: st) I L R := by
  intro p l e s m args below meth c D cA A ad0 ad n0 H locs ls hg hC hX hS hA hl hol hos hn0 had
  have h9 := hg.1 _ hd
  have h8 := k p l e s m args below meth c D cA A ad0 ad n0 H locs ls hg hC hX hS hA hl hol (zo_t hos) hn0 had
  exact lv_ifnonnullN hC.1 hC.2.1 h9 h8
set_option maxHeartbeats 40000 in
theorem zv_lookup {dflt : Int} {ps : Array (Int × Int)} {len tgt : Nat} {off : Int} {x : Int32} (hd : (pc, .lookupswitch dflt ps, len) ∈ M.2.2.2.2.2) (hp : (ps.toList.zip (ps.toList.drop 1)).all (fun (a, next) => a.1 < next.1) = true) (ho : Op.lookupswitch.offset ps.toList dflt x.toInt = off) (ht : (pc : Int) + off = (tgt : Int)) (k : zx_V M d b Q S tgt lo st I L R) : zx_V M d b Q S pc lo (.int x :: st) I L R := by
  intro p l e s m args below meth c D cA A ad0 ad n0 H locs ls hg hC hX hS hA hl hol hos hn0 had
  have h9 := hg.1 _ hd
  have h8 := k p l e s m args below meth c D cA A ad0 ad n0 H locs ls hg hC hX hS hA hl hol (zo_t hos) hn0 had
  exact lv_lookup hC.1 hC.2.1 h9 hp ho ht h8
set_option maxHeartbeats 40000 in
theorem zv_tableOut {dflt l0 hi : Int} {offs : Array Int} {len tgt : Nat} {x : Int32} (hd : (pc, .tableswitch dflt l0 hi offs, len) ∈ M.2.2.2.2.2) (h : x.toInt < l0 ∨ hi < x.toInt) (ht : (pc : Int) + dflt = (tgt : Int)) (k : zx_V M d b Q S tgt lo st I L R) : zx_V M d b Q S pc lo (.int x :: st) I L R := by
  intro p l e s m args below meth c D cA A ad0 ad n0 H locs ls hg hC hX hS hA hl hol hos hn0 had
  have h9 := hg.1 _ hd
  have h8 := k p l e s m args below meth c D cA A ad0 ad n0 H locs ls hg hC hX hS hA hl hol (zo_t hos) hn0 had
  exact lv_tableOut hC.1 hC.2.1 h9 h ht h8
set_option maxHeartbeats 40000 in
theorem zv_tableIn {dflt l0 hi : Int} {offs : Array Int} {len tgt : Nat} {off : Int} {x : Int32} (hd : (pc, .tableswitch dflt l0 hi offs, len) ∈ M.2.2.2.2.2) (h1 : ¬ x.toInt < l0) (h2 : ¬ hi < x.toInt) (ho : offs[(x.toInt - l0).toNat]? = some off) (ht : (pc : Int) + off = (tgt : Int)) (k : zx_V M d b Q S tgt lo st I L R) : zx_V M d b Q S pc lo (.int x :: st) I L R := by
  intro p l e s m args below meth c D cA A ad0 ad n0 H locs ls hg hC hX hS hA hl hol hos hn0 had
  have h9 := hg.1 _ hd
  have h8 := k p l e s m args below meth c D cA A ad0 ad n0 H locs ls hg hC hX hS hA hl hol (zo_t hos) hn0 had
  exact lv_tableIn hC.1 hC.2.1 h9 h1 h2 ho ht h8
end
end
section
/-! links: what the tables say of classes, fields and calls -/
theorem zg_at {i : Nat} {w : Cond} (h : lw_tbl[i]? = some w) (g : goodWord w = true) : w ∈ zx_G := List.mem_filter.mpr ⟨List.mem_of_getElem? h, g⟩
theorem zg_nat {i : Nat} {w : Cond} (h : lw_tbl[i]? = some w) (g : zx_nest w = true) : w ∈ zx_N := List.mem_filter.mpr ⟨List.mem_of_getElem? h, g⟩
theorem zg_good : ∀ w ∈ zx_G, goodWord w = true := fun _ h => (List.mem_filter.mp h).2
theorem zg_nest : ∀ w ∈ zx_N, zx_nest w = true := fun _ h => (List.mem_filter.mp h).2
def zk_code : FieldType → Nat
  | .long => 1
  | .object _ => 2
  | .array _ => 2
  | .boolean => 3
  | _ => 0
def zk_C (ci : Nat) (C : String) (T : u_T) (N : Nat) (ty : Nat → FieldType) : Prop := vwCl[ci]? = some (C, T, N) ∧ (∀ w ∈ u_ws C T N, w ∈ zx_G) ∧ (∀ k, k < N → parseFieldDescriptor (T k).2.2.1 = some (ty k)) ∧ (∀ a, a < N → ∀ b, b < N → a ≠ b → (T a).2.1 ≠ (T b).2.1) ∧ (∀ k, k < N → (zt_T.getD ci [])[k]? = some (zk_code (ty k))) ∧ ci < 100 ∧ (zt_T.getD ci []).length = N ∧ (∀ k, k < N → (T k).1 = C) ∧ (∀ k, k < N → ty k = .int ∨ ty k = .long ∨ ty k = .boolean ∨ zk_code (ty k) = 2)
theorem zk_G {C : String} {T : u_T} {N : Nat} (h : ∀ w ∈ u_ws C T N, w ∈ lw_tbl) (g : (u_ws C T N).all goodWord = true) : ∀ w ∈ u_ws C T N, w ∈ zx_G := fun w hw => List.mem_filter.mpr ⟨h w hw, List.all_eq_true.mp g w hw⟩
set_option maxRecDepth 20000 in
theorem zk_0 : zk_C 0 RX0 TX0 8 tyX0 := ⟨rfl, zk_G (by decide +kernel) (by decide +kernel), tyX0_ok, nmX0, by decide +kernel, by decide, rfl, by decide +kernel, by decide +kernel⟩
set_option maxRecDepth 20000 in
theorem zk_1 : zk_C 1 RX1 TX1 4 tyX1 := ⟨rfl, zk_G (by decide +kernel) (by decide +kernel), tyX1_ok, nmX1, by decide +kernel, by decide, rfl, by decide +kernel, by decide +kernel⟩
set_option maxRecDepth 20000 in
theorem zk_2 : zk_C 2 RX2 TX2 14 tyX2 := ⟨rfl, zk_G (by decide +kernel) (by decide +kernel), tyX2_ok, nmX2, by decide +kernel, by decide, rfl, by decide +kernel, by decide +kernel⟩
set_option maxRecDepth 20000 in
theorem zk_3 : zk_C 3 RX3 TX3 8 tyX3 := ⟨rfl, zk_G (by decide +kernel) (by decide +kernel), tyX3_ok, nmX3, by decide +kernel, by decide, rfl, by decide +kernel, by decide +kernel⟩
set_option maxRecDepth 20000 in
theorem zk_4 : zk_C 4 RX4 TX4 3 tyX4 := ⟨rfl, zk_G (by decide +kernel) (by decide +kernel), tyX4_ok, nmX4, by decide +kernel, by decide, rfl, by decide +kernel, by decide +kernel⟩
set_option maxRecDepth 20000 in
theorem zk_5 : zk_C 5 RX5 TX5 15 tyX5 := ⟨rfl, zk_G (by decide +kernel) (by decide +kernel), tyX5_ok, nmX5, by decide +kernel, by decide, rfl, by decide +kernel, by decide +kernel⟩
set_option maxRecDepth 20000 in
theorem zk_6 : zk_C 6 RX6 TX6 3 tyX6 := ⟨rfl, zk_G (by decide +kernel) (by decide +kernel), tyX6_ok, nmX6, by decide +kernel, by decide, rfl, by decide +kernel, by decide +kernel⟩
set_option maxRecDepth 20000 in
theorem zk_7 : zk_C 7 RX7 TX7 4 tyX7 := ⟨rfl, zk_G (by decide +kernel) (by decide +kernel), tyX7_ok, nmX7, by decide +kernel, by decide, rfl, by decide +kernel, by decide +kernel⟩
set_option maxRecDepth 20000 in
theorem zk_8 : zk_C 8 RX8 TX8 4 tyX8 := ⟨rfl, zk_G (by decide +kernel) (by decide +kernel), tyX8_ok, nmX8, by decide +kernel, by decide, rfl, by decide +kernel, by decide +kernel⟩
set_option maxRecDepth 20000 in
theorem zk_9 : zk_C 9 RX9 TX9 11 tyX9 := ⟨rfl, zk_G (by decide +kernel) (by decide +kernel), tyX9_ok, nmX9, by decide +kernel, by decide, rfl, by decide +kernel, by decide +kernel⟩
set_option maxRecDepth 20000 in
theorem zk_10 : zk_C 10 RX10 TX10 36 tyX10 := ⟨rfl, zk_G (by decide +kernel) (by decide +kernel), tyX10_ok, nmX10, by decide +kernel, by decide, rfl, by decide +kernel, by decide +kernel⟩
theorem zk_all {ci : Nat} {C : String} {T : u_T} {N : Nat} (h : vwCl[ci]? = some (C, T, N)) : ∃ ty, zk_C ci C T N ty := by
  have hl : ci < 11 := (List.getElem?_eq_some_iff.mp h).1
  match ci, hl, h with
  | 0, _, h => exact (by cases h; exact ⟨_, zk_0⟩)
  | 1, _, h => exact (by cases h; exact ⟨_, zk_1⟩)
  | 2, _, h => exact (by cases h; exact ⟨_, zk_2⟩)
  | 3, _, h => exact (by cases h; exact ⟨_, zk_3⟩)
  | 4, _, h => exact (by cases h; exact ⟨_, zk_4⟩)
  | 5, _, h => exact (by cases h; exact ⟨_, zk_5⟩)
  | 6, _, h => exact (by cases h; exact ⟨_, zk_6⟩)
  | 7, _, h => exact (by cases h; exact ⟨_, zk_7⟩)
  | 8, _, h => exact (by cases h; exact ⟨_, zk_8⟩)
  | 9, _, h => exact (by cases h; exact ⟨_, zk_9⟩)
  | 10, _, h => exact (by cases h; exact ⟨_, zk_10⟩)
  | n + 11, hl, _ => exact absurd hl (by omega)
/-- field links: the pool's number, the class, the field, the place of the word -/
def zl_F : List (List (Nat × Nat × Nat × Nat)) := [[(9, 0, 4, 288), (15, 0, 0, 279), (19, 8, 1, 255), (24, 0, 1, 281), (25, 0, 2, 284), (28, 8, 2, 258), (32, 0, 3, 286), (33, 8, 0, 253), (40, 0, 5, 289), (43, 0, 6, 291), (46, 0, 7, 293), (59, 2, 1, 107), (64, 2, 9, 129)],
  [(9, 1, 0, 363), (15, 1, 2, 369), (18, 1, 3, 371), (22, 2, 12, 138), (27, 2, 4, 112), (30, 1, 1, 366), (31, 2, 8, 123), (34, 2, 0, 102), (37, 2, 2, 109), (40, 2, 3, 111), (43, 2, 1, 106), (44, 7, 3, 329)],
  [(9, 2, 0, 101), (21, 2, 1, 105), (24, 2, 2, 108), (27, 2, 3, 110), (30, 2, 4, 113), (33, 2, 5, 115), (36, 2, 6, 118), (39, 2, 7, 120), (42, 2, 8, 124), (45, 2, 9, 126), (48, 2, 10, 131), (51, 2, 11, 134), (54, 2, 12, 139), (57, 2, 13, 142)],
  [(12, 3, 0, 382), (21, 3, 1, 384), (28, 3, 2, 386), (32, 0, 2, 283), (42, 5, 12, 203), (54, 3, 5, 390), (68, 0, 7, 294), (92, 5, 5, 189), (102, 3, 3, 388), (113, 3, 4, 389), (117, 3, 6, 391), (120, 3, 7, 392), (123, 5, 14, 210), (132, 0, 0, 280), (150, 0, 1, 282), (153, 5, 13, 207), (160, 1, 3, 372), (164, 2, 9, 127), (167, 2, 0, 103), (170, 2, 7, 121), (173, 2, 11, 135), (176, 5, 11, 202), (183, 5, 10, 200), (186, 5, 9, 197), (193, 1, 0, 364), (196, 1, 2, 370), (197, 2, 10, 132), (200, 2, 4, 114), (203, 1, 1, 367), (206, 2, 12, 140), (207, 2, 13, 143)],
  [(9, 4, 0, 345), (15, 4, 1, 347), (18, 4, 2, 348), (21, 5, 6, 191), (27, 5, 7, 193)],
  [(9, 5, 6, 190), (15, 5, 7, 192), (20, 5, 14, 209), (30, 5, 0, 178), (34, 5, 1, 180), (38, 5, 2, 182), (41, 5, 3, 184), (44, 5, 4, 186), (47, 5, 5, 188), (50, 5, 8, 194), (53, 5, 9, 196), (56, 5, 10, 199), (59, 5, 11, 201), (62, 5, 12, 204), (65, 5, 13, 206), (84, 2, 5, 116), (87, 2, 9, 128), (90, 6, 1, 76), (114, 6, 2, 78), (137, 2, 7, 122), (140, 2, 0, 104), (143, 2, 8, 125), (150, 2, 11, 137), (153, 2, 6, 119)],
  [(9, 6, 0, 74), (15, 6, 2, 77), (19, 6, 1, 75)],
  [(9, 7, 0, 325), (15, 7, 2, 327), (19, 5, 1, 179), (30, 7, 1, 326), (31, 5, 2, 183), (35, 5, 3, 185), (38, 7, 3, 328), (39, 5, 4, 187)],
  [(9, 8, 0, 252), (15, 8, 3, 261), (21, 8, 1, 256), (25, 8, 2, 259)],
  [(9, 9, 0, 410), (16, 9, 2, 412), (23, 9, 3, 413), (27, 9, 4, 414), (33, 9, 5, 415), (37, 9, 6, 416), (44, 9, 8, 418), (51, 9, 9, 419), (55, 9, 10, 420), (59, 9, 1, 411), (79, 9, 7, 417), (82, 5, 13, 208), (95, 3, 0, 383), (108, 5, 1, 181), (121, 3, 2, 387), (125, 5, 9, 198), (134, 1, 0, 365), (137, 1, 1, 368), (140, 8, 0, 254), (143, 8, 1, 257), (146, 8, 2, 260), (163, 2, 10, 133), (166, 2, 11, 136), (169, 2, 12, 141), (170, 2, 13, 144), (173, 3, 1, 385), (177, 4, 2, 349), (182, 4, 0, 346), (203, 5, 8, 195), (206, 0, 2, 285), (207, 5, 12, 205), (210, 0, 3, 287), (221, 0, 5, 290), (224, 0, 6, 292), (227, 0, 7, 295), (230, 8, 3, 262), (236, 2, 5, 117), (243, 2, 9, 130)],
  [(7, 10, 1, 828), (13, 10, 5, 832), (16, 10, 6, 833), (19, 10, 7, 834), (22, 10, 10, 837), (25, 10, 12, 839), (28, 10, 13, 840), (31, 10, 14, 841), (35, 10, 15, 842), (38, 10, 16, 843), (41, 10, 17, 844), (44, 10, 18, 845), (47, 10, 19, 846), (50, 10, 20, 847), (53, 10, 21, 848), (56, 10, 22, 849), (59, 10, 23, 850), (62, 10, 34, 861), (65, 10, 35, 862), (75, 10, 8, 835), (79, 10, 9, 836), (83, 10, 11, 838), (90, 10, 0, 827), (95, 10, 2, 829), (98, 10, 4, 831), (123, 10, 3, 830), (156, 10, 31, 858), (159, 10, 32, 859), (168, 10, 33, 860), (172, 10, 27, 854), (178, 10, 24, 851), (181, 10, 25, 852), (184, 10, 26, 853), (191, 10, 28, 855), (194, 10, 29, 856), (197, 10, 30, 857)],
  [],
  []]
def zl_fgo : List (Nat × Nat × Nat × Nat) → Nat → Option (Nat × Nat)
  | [], _ => none
  | (i, ci, k, _) :: r, idx => if i = idx then some (ci, k) else zl_fgo r idx
def zfl (oc idx : Nat) : Option (Nat × Nat) := zl_fgo (zl_F.getD oc []) idx
def zl_nst (own : String) (idx : Nat) (C f d : String) : Cond → Bool
  | .fieldLinkNest a b c x y _ => decide (a = own) && decide (b = idx) && decide (c = C) && decide (x = f) && decide (y = d)
  | _ => false
def zl_chk (oc : Nat) (q : Nat × Nat × Nat × Nat) : Bool := match zt_own[oc]?, vwCl[q.2.1]?, lw_tbl[q.2.2.2]? with
  | some own, some (C, T, N), some w => decide (q.2.2.1 < N) && ((decide (w = .fieldLink own q.1 C (T q.2.2.1).2.1 (T q.2.2.1).2.2.1) && goodWord w) || zl_nst own q.1 C (T q.2.2.1).2.1 (T q.2.2.1).2.2.1 w)
  | _, _, _ => false
def zl_all : List (List (Nat × Nat × Nat × Nat)) → Nat → Bool
  | [], _ => true
  | r :: l, i => r.all (zl_chk i) && zl_all l (i + 1)
set_option maxRecDepth 20000 in
theorem zl_F_ok : zl_all zl_F 0 = true := by decide +kernel
theorem zl_all_at : ∀ (l : List (List (Nat × Nat × Nat × Nat))) (i j : Nat), zl_all l i = true → ∀ q ∈ l.getD j [], zl_chk (i + j) q = true
  | [], i, j, _, q, hq => by simp at hq
  | r :: l, i, 0, h, q, hq => by
    simp only [zl_all, Bool.and_eq_true] at h
    exact List.all_eq_true.mp h.1 q (by simpa using hq)
  | r :: l, i, j + 1, h, q, hq => by
    simp only [zl_all, Bool.and_eq_true] at h
    rw [show i + (j + 1) = i + 1 + j by omega]
    exact zl_all_at l (i + 1) j h.2 q (by simpa using hq)
theorem zl_fgo_mem : ∀ (l : List (Nat × Nat × Nat × Nat)) (idx ci k : Nat), zl_fgo l idx = some (ci, k) → ∃ p, (idx, ci, k, p) ∈ l
  | [], _, _, _, h => by simp [zl_fgo] at h
  | (i, a, b, p) :: r, idx, ci, k, h => by
    unfold zl_fgo at h
    by_cases hi : i = idx
    · rw [if_pos hi] at h
      cases h
      exact ⟨p, by rw [hi]; exact List.mem_cons_self⟩
    · rw [if_neg hi] at h
      obtain ⟨p, hp⟩ := zl_fgo_mem r idx ci k h
      exact ⟨p, List.mem_cons_of_mem _ hp⟩
/-- a field link, and what is known of the class -/
def zfo (oc idx ci k : Nat) : Prop := ∃ (own C : String) (T : u_T) (N : Nat) (ty : Nat → FieldType), zt_own[oc]? = some own ∧ zk_C ci C T N ty ∧ k < N ∧ (Cond.fieldLink own idx C (T k).2.1 (T k).2.2.1 ∈ zx_G ∨ ∃ h, Cond.fieldLinkNest own idx C (T k).2.1 (T k).2.2.1 h ∈ zx_N)
theorem zf_ok {oc idx ci k : Nat} (h : zfl oc idx = some (ci, k)) : zfo oc idx ci k := by
  obtain ⟨p, hp⟩ := zl_fgo_mem _ _ _ _ h
  have hc := zl_all_at zl_F 0 oc zl_F_ok _ hp
  rw [Nat.zero_add] at hc
  unfold zl_chk at hc
  dsimp only at hc
  cases h1 : zt_own[oc]? with
  | none => rw [h1] at hc; simp at hc
  | some own =>
    cases h2 : vwCl[ci]? with
    | none => rw [h1, h2] at hc; simp at hc
    | some q =>
      obtain ⟨C, T, N⟩ := q
      cases h3 : lw_tbl[p]? with
      | none => rw [h1, h2, h3] at hc; simp at hc
      | some w =>
        rw [h1, h2, h3] at hc
        simp only [Bool.and_eq_true, Bool.or_eq_true, decide_eq_true_eq] at hc
        obtain ⟨hk, hw⟩ := hc
        obtain ⟨ty, hty⟩ := zk_all h2
        refine ⟨own, C, T, N, ty, h1, hty, hk, ?_⟩
        rcases hw with ⟨rfl, hg⟩ | hw
        · exact Or.inl (zg_at h3 hg)
        · unfold zl_nst at hw
          split at hw
          · simp only [Bool.and_eq_true, decide_eq_true_eq] at hw
            obtain ⟨⟨⟨⟨rfl, rfl⟩, rfl⟩, rfl⟩, rfl⟩ := hw
            exact Or.inr ⟨_, zg_nat h3 rfl⟩
          · cases hw
/-- call links -/
def zcP (y : MethodName) (np : Nat) : Prop := y.cls ≠ "java/lang/invoke/MethodHandle" ∧ y.cls ≠ "java/lang/invoke/VarHandle" ∧ (parseMethodDescriptor y.desc).map (fun d => d.parameters.length) = some np
def zcV (oc idx : Nat) (y : MethodName) (np : Nat) : Prop := ∃ own, zt_own[oc]? = some own ∧ Cond.methodLink own idx y ∈ zx_G ∧ Cond.instanceMethod y ∈ zx_G ∧ Cond.selects y.cls y y ∈ zx_G ∧ Cond.initialized y.cls ∈ zx_G ∧ zcP y np
def zcS (oc idx : Nat) (y : MethodName) (np : Nat) : Prop := ∃ own, zt_own[oc]? = some own ∧ Cond.methodLink own idx y ∈ zx_G ∧ Cond.static y ∈ zx_G ∧ Cond.initialized y.cls ∈ zx_G ∧ zcP y np
def zcI (oc idx : Nat) (y : MethodName) (np : Nat) : Prop := ∃ own, zt_own[oc]? = some own ∧ (Cond.methodLink own idx y ∈ zx_G ∨ ∃ h, Cond.methodLinkNest own idx y h ∈ zx_N) ∧ Cond.instanceMethod y ∈ zx_G ∧ Cond.initialized y.cls ∈ zx_G ∧ y.name = "<init>" ∧ zcP y np
theorem zp_J9_min_7cf53 : zcP yJ9_min_7cf53 2 := ⟨by decide +kernel, by decide +kernel, by decide +kernel⟩
theorem zs_J9_min_7cf53 : Cond.static yJ9_min_7cf53 ∈ zx_G := zg_at (i := 540) (by decide +kernel) (by decide +kernel)
theorem zn_J9 : Cond.initialized RJ9 ∈ zx_G := zg_at (i := 57) (by decide +kernel) (by decide +kernel)
theorem zc_0_49 : zcS 0 49 yJ9_min_7cf53 2 := ⟨_, rfl, zg_at (i := 718) (by decide +kernel) (by decide +kernel), zs_J9_min_7cf53, zn_J9, zp_J9_min_7cf53⟩
theorem zp_X0_changePlaces : zcP yX0_changePlaces 2 := ⟨by decide +kernel, by decide +kernel, by decide +kernel⟩
theorem zi_X0_changePlaces : Cond.instanceMethod yX0_changePlaces ∈ zx_G := zg_at (i := 724) (by decide +kernel) (by decide +kernel)
theorem ze_X0_changePlaces : Cond.selects yX0_changePlaces.cls yX0_changePlaces yX0_changePlaces ∈ zx_G := zg_at (i := 725) (by decide +kernel) (by decide +kernel)
theorem zn_X0 : Cond.initialized RX0 ∈ zx_G := zg_at (i := 51) (by decide +kernel) (by decide +kernel)
theorem zc_0_55 : zcV 0 55 yX0_changePlaces 2 := ⟨_, rfl, zg_at (i := 723) (by decide +kernel) (by decide +kernel), zi_X0_changePlaces, ze_X0_changePlaces, zn_X0, zp_X0_changePlaces⟩
theorem zp_X7_pintsFor : zcP yX7_pintsFor 2 := ⟨by decide +kernel, by decide +kernel, by decide +kernel⟩
theorem zi_X7_pintsFor : Cond.instanceMethod yX7_pintsFor ∈ zx_G := zg_at (i := 574) (by decide +kernel) (by decide +kernel)
theorem ze_X7_pintsFor : Cond.selects yX7_pintsFor.cls yX7_pintsFor yX7_pintsFor ∈ zx_G := zg_at (i := 575) (by decide +kernel) (by decide +kernel)
theorem zn_X7 : Cond.initialized RX7 ∈ zx_G := zg_at (i := 53) (by decide +kernel) (by decide +kernel)
theorem zc_1_49 : zcV 1 49 yX7_pintsFor 2 := ⟨_, rfl, zg_at (i := 573) (by decide +kernel) (by decide +kernel), zi_X7_pintsFor, ze_X7_pintsFor, zn_X7, zp_X7_pintsFor⟩
theorem zp_X7_unitsOfTop : zcP yX7_unitsOfTop 1 := ⟨by decide +kernel, by decide +kernel, by decide +kernel⟩
theorem zi_X7_unitsOfTop : Cond.instanceMethod yX7_unitsOfTop ∈ zx_G := zg_at (i := 550) (by decide +kernel) (by decide +kernel)
theorem ze_X7_unitsOfTop : Cond.selects yX7_unitsOfTop.cls yX7_unitsOfTop yX7_unitsOfTop ∈ zx_G := zg_at (i := 551) (by decide +kernel) (by decide +kernel)
theorem zc_1_53 : zcV 1 53 yX7_unitsOfTop 1 := ⟨_, rfl, zg_at (i := 577) (by decide +kernel) (by decide +kernel), zi_X7_unitsOfTop, ze_X7_unitsOfTop, zn_X7, zp_X7_unitsOfTop⟩
theorem zp_X6_number : zcP yX6_number 1 := ⟨by decide +kernel, by decide +kernel, by decide +kernel⟩
theorem zi_X6_number : Cond.instanceMethod yX6_number ∈ zx_G := zg_at (i := 474) (by decide +kernel) (by decide +kernel)
theorem ze_X6_number : Cond.selects yX6_number.cls yX6_number yX6_number ∈ zx_G := zg_at (i := 475) (by decide +kernel) (by decide +kernel)
theorem zn_X6 : Cond.initialized RX6 ∈ zx_G := zg_at (i := 47) (by decide +kernel) (by decide +kernel)
theorem zc_2_15 : zcV 2 15 yX6_number 1 := ⟨_, rfl, zg_at (i := 490) (by decide +kernel) (by decide +kernel), zi_X6_number, ze_X6_number, zn_X6, zp_X6_number⟩
theorem zp_X7_init : zcP yX7_init 0 := ⟨by decide +kernel, by decide +kernel, by decide +kernel⟩
theorem zi_X7_init : Cond.instanceMethod yX7_init ∈ zx_G := zg_at (i := 322) (by decide +kernel) (by decide +kernel)
theorem zc_3_11 : zcI 3 11 yX7_init 0 := ⟨_, rfl, Or.inr ⟨"BathNight", zg_nat (i := 321) (by decide +kernel) (by decide +kernel)⟩, zi_X7_init, zn_X7, rfl, zp_X7_init⟩
theorem zp_X4_init : zcP yX4_init 0 := ⟨by decide +kernel, by decide +kernel, by decide +kernel⟩
theorem zi_X4_init : Cond.instanceMethod yX4_init ∈ zx_G := zg_at (i := 342) (by decide +kernel) (by decide +kernel)
theorem zn_X4 : Cond.initialized RX4 ∈ zx_G := zg_at (i := 54) (by decide +kernel) (by decide +kernel)
theorem zc_3_20 : zcI 3 20 yX4_init 0 := ⟨_, rfl, Or.inr ⟨"BathNight", zg_nat (i := 341) (by decide +kernel) (by decide +kernel)⟩, zi_X4_init, zn_X4, rfl, zp_X4_init⟩
theorem zp_X1_init : zcP yX1_init 0 := ⟨by decide +kernel, by decide +kernel, by decide +kernel⟩
theorem zi_X1_init : Cond.instanceMethod yX1_init ∈ zx_G := zg_at (i := 360) (by decide +kernel) (by decide +kernel)
theorem zn_X1 : Cond.initialized RX1 ∈ zx_G := zg_at (i := 55) (by decide +kernel) (by decide +kernel)
theorem zc_3_27 : zcI 3 27 yX1_init 0 := ⟨_, rfl, Or.inr ⟨"BathNight", zg_nat (i := 359) (by decide +kernel) (by decide +kernel)⟩, zi_X1_init, zn_X1, rfl, zp_X1_init⟩
theorem zp_X3_begin : zcP yX3_begin 2 := ⟨by decide +kernel, by decide +kernel, by decide +kernel⟩
theorem zi_X3_begin : Cond.instanceMethod yX3_begin ∈ zx_G := zg_at (i := 619) (by decide +kernel) (by decide +kernel)
theorem ze_X3_begin : Cond.selects yX3_begin.cls yX3_begin yX3_begin ∈ zx_G := zg_at (i := 8) (by decide +kernel) (by decide +kernel)
theorem zn_X3 : Cond.initialized RX3 ∈ zx_G := zg_at (i := 52) (by decide +kernel) (by decide +kernel)
theorem zc_3_38 : zcV 3 38 yX3_begin 2 := ⟨_, rfl, zg_at (i := 617) (by decide +kernel) (by decide +kernel), zi_X3_begin, ze_X3_begin, zn_X3, zp_X3_begin⟩
theorem zp_X0_plansFor : zcP yX0_plansFor 1 := ⟨by decide +kernel, by decide +kernel, by decide +kernel⟩
theorem zi_X0_plansFor : Cond.instanceMethod yX0_plansFor ∈ zx_G := zg_at (i := 631) (by decide +kernel) (by decide +kernel)
theorem ze_X0_plansFor : Cond.selects yX0_plansFor.cls yX0_plansFor yX0_plansFor ∈ zx_G := zg_at (i := 632) (by decide +kernel) (by decide +kernel)
theorem zc_3_47 : zcV 3 47 yX0_plansFor 1 := ⟨_, rfl, zg_at (i := 630) (by decide +kernel) (by decide +kernel), zi_X0_plansFor, ze_X0_plansFor, zn_X0, zp_X0_plansFor⟩
theorem zp_X4_makeUp : zcP yX4_makeUp 0 := ⟨by decide +kernel, by decide +kernel, by decide +kernel⟩
theorem zi_X4_makeUp : Cond.instanceMethod yX4_makeUp ∈ zx_G := zg_at (i := 635) (by decide +kernel) (by decide +kernel)
theorem ze_X4_makeUp : Cond.selects yX4_makeUp.cls yX4_makeUp yX4_makeUp ∈ zx_G := zg_at (i := 636) (by decide +kernel) (by decide +kernel)
theorem zc_3_51 : zcV 3 51 yX4_makeUp 0 := ⟨_, rfl, zg_at (i := 634) (by decide +kernel) (by decide +kernel), zi_X4_makeUp, ze_X4_makeUp, zn_X4, zp_X4_makeUp⟩
theorem zp_X3_chosen : zcP yX3_chosen 3 := ⟨by decide +kernel, by decide +kernel, by decide +kernel⟩
theorem zi_X3_chosen : Cond.instanceMethod yX3_chosen ∈ zx_G := zg_at (i := 640) (by decide +kernel) (by decide +kernel)
theorem ze_X3_chosen : Cond.selects yX3_chosen.cls yX3_chosen yX3_chosen ∈ zx_G := zg_at (i := 9) (by decide +kernel) (by decide +kernel)
theorem zc_3_57 : zcV 3 57 yX3_chosen 3 := ⟨_, rfl, zg_at (i := 638) (by decide +kernel) (by decide +kernel), zi_X3_chosen, ze_X3_chosen, zn_X3, zp_X3_chosen⟩
theorem zp_X3_goesIn : zcP yX3_goesIn 3 := ⟨by decide +kernel, by decide +kernel, by decide +kernel⟩
theorem zi_X3_goesIn : Cond.instanceMethod yX3_goesIn ∈ zx_G := zg_at (i := 667) (by decide +kernel) (by decide +kernel)
theorem ze_X3_goesIn : Cond.selects yX3_goesIn.cls yX3_goesIn yX3_goesIn ∈ zx_G := zg_at (i := 11) (by decide +kernel) (by decide +kernel)
theorem zc_3_61 : zcV 3 61 yX3_goesIn 3 := ⟨_, rfl, zg_at (i := 665) (by decide +kernel) (by decide +kernel), zi_X3_goesIn, ze_X3_goesIn, zn_X3, zp_X3_goesIn⟩
theorem zp_X0_tapsAt : zcP yX0_tapsAt 1 := ⟨by decide +kernel, by decide +kernel, by decide +kernel⟩
theorem zi_X0_tapsAt : Cond.instanceMethod yX0_tapsAt ∈ zx_G := zg_at (i := 671) (by decide +kernel) (by decide +kernel)
theorem ze_X0_tapsAt : Cond.selects yX0_tapsAt.cls yX0_tapsAt yX0_tapsAt ∈ zx_G := zg_at (i := 672) (by decide +kernel) (by decide +kernel)
theorem zc_3_65 : zcV 3 65 yX0_tapsAt 1 := ⟨_, rfl, zg_at (i := 670) (by decide +kernel) (by decide +kernel), zi_X0_tapsAt, ze_X0_tapsAt, zn_X0, zp_X0_tapsAt⟩
theorem zp_X7_holds : zcP yX7_holds 0 := ⟨by decide +kernel, by decide +kernel, by decide +kernel⟩
theorem zi_X7_holds : Cond.instanceMethod yX7_holds ∈ zx_G := zg_at (i := 546) (by decide +kernel) (by decide +kernel)
theorem ze_X7_holds : Cond.selects yX7_holds.cls yX7_holds yX7_holds ∈ zx_G := zg_at (i := 547) (by decide +kernel) (by decide +kernel)
theorem zc_3_71 : zcV 3 71 yX7_holds 0 := ⟨_, rfl, zg_at (i := 674) (by decide +kernel) (by decide +kernel), zi_X7_holds, ze_X7_holds, zn_X7, zp_X7_holds⟩
theorem zc_3_75 : zcS 3 75 yJ9_min_7cf53 2 := ⟨_, rfl, zg_at (i := 675) (by decide +kernel) (by decide +kernel), zs_J9_min_7cf53, zn_J9, zp_J9_min_7cf53⟩
theorem zp_X7_draw : zcP yX7_draw 1 := ⟨by decide +kernel, by decide +kernel, by decide +kernel⟩
theorem zi_X7_draw : Cond.instanceMethod yX7_draw ∈ zx_G := zg_at (i := 554) (by decide +kernel) (by decide +kernel)
theorem ze_X7_draw : Cond.selects yX7_draw.cls yX7_draw yX7_draw ∈ zx_G := zg_at (i := 555) (by decide +kernel) (by decide +kernel)
theorem zc_3_81 : zcV 3 81 yX7_draw 1 := ⟨_, rfl, zg_at (i := 669) (by decide +kernel) (by decide +kernel), zi_X7_draw, ze_X7_draw, zn_X7, zp_X7_draw⟩
theorem zp_X4_gives : zcP yX4_gives 1 := ⟨by decide +kernel, by decide +kernel, by decide +kernel⟩
theorem zi_X4_gives : Cond.instanceMethod yX4_gives ∈ zx_G := zg_at (i := 677) (by decide +kernel) (by decide +kernel)
theorem ze_X4_gives : Cond.selects yX4_gives.cls yX4_gives yX4_gives ∈ zx_G := zg_at (i := 678) (by decide +kernel) (by decide +kernel)
theorem zc_3_85 : zcV 3 85 yX4_gives 1 := ⟨_, rfl, zg_at (i := 676) (by decide +kernel) (by decide +kernel), zi_X4_gives, ze_X4_gives, zn_X4, zp_X4_gives⟩
theorem zp_X7_warm : zcP yX7_warm 1 := ⟨by decide +kernel, by decide +kernel, by decide +kernel⟩
theorem zi_X7_warm : Cond.instanceMethod yX7_warm ∈ zx_G := zg_at (i := 681) (by decide +kernel) (by decide +kernel)
theorem ze_X7_warm : Cond.selects yX7_warm.cls yX7_warm yX7_warm ∈ zx_G := zg_at (i := 682) (by decide +kernel) (by decide +kernel)
theorem zc_3_89 : zcV 3 89 yX7_warm 1 := ⟨_, rfl, zg_at (i := 680) (by decide +kernel) (by decide +kernel), zi_X7_warm, ze_X7_warm, zn_X7, zp_X7_warm⟩
theorem zp_X7_lose : zcP yX7_lose 1 := ⟨by decide +kernel, by decide +kernel, by decide +kernel⟩
theorem zi_X7_lose : Cond.instanceMethod yX7_lose ∈ zx_G := zg_at (i := 685) (by decide +kernel) (by decide +kernel)
theorem ze_X7_lose : Cond.selects yX7_lose.cls yX7_lose yX7_lose ∈ zx_G := zg_at (i := 686) (by decide +kernel) (by decide +kernel)
theorem zc_3_95 : zcV 3 95 yX7_lose 1 := ⟨_, rfl, zg_at (i := 684) (by decide +kernel) (by decide +kernel), zi_X7_lose, ze_X7_lose, zn_X7, zp_X7_lose⟩
theorem zp_X4_getOlder : zcP yX4_getOlder 1 := ⟨by decide +kernel, by decide +kernel, by decide +kernel⟩
theorem zi_X4_getOlder : Cond.instanceMethod yX4_getOlder ∈ zx_G := zg_at (i := 689) (by decide +kernel) (by decide +kernel)
theorem ze_X4_getOlder : Cond.selects yX4_getOlder.cls yX4_getOlder yX4_getOlder ∈ zx_G := zg_at (i := 690) (by decide +kernel) (by decide +kernel)
theorem zc_3_98 : zcV 3 98 yX4_getOlder 1 := ⟨_, rfl, zg_at (i := 688) (by decide +kernel) (by decide +kernel), zi_X4_getOlder, ze_X4_getOlder, zn_X4, zp_X4_getOlder⟩
theorem zp_X5_scoreOfEvening : zcP yX5_scoreOfEvening 0 := ⟨by decide +kernel, by decide +kernel, by decide +kernel⟩
theorem zi_X5_scoreOfEvening : Cond.instanceMethod yX5_scoreOfEvening ∈ zx_G := zg_at (i := 693) (by decide +kernel) (by decide +kernel)
theorem ze_X5_scoreOfEvening : Cond.selects yX5_scoreOfEvening.cls yX5_scoreOfEvening yX5_scoreOfEvening ∈ zx_G := zg_at (i := 694) (by decide +kernel) (by decide +kernel)
theorem zn_X5 : Cond.initialized RX5 ∈ zx_G := zg_at (i := 48) (by decide +kernel) (by decide +kernel)
theorem zc_3_105 : zcV 3 105 yX5_scoreOfEvening 0 := ⟨_, rfl, zg_at (i := 692) (by decide +kernel) (by decide +kernel), zi_X5_scoreOfEvening, ze_X5_scoreOfEvening, zn_X5, zp_X5_scoreOfEvening⟩
theorem zp_X7_fill : zcP yX7_fill 1 := ⟨by decide +kernel, by decide +kernel, by decide +kernel⟩
theorem zi_X7_fill : Cond.instanceMethod yX7_fill ∈ zx_G := zg_at (i := 536) (by decide +kernel) (by decide +kernel)
theorem ze_X7_fill : Cond.selects yX7_fill.cls yX7_fill yX7_fill ∈ zx_G := zg_at (i := 537) (by decide +kernel) (by decide +kernel)
theorem zc_3_108 : zcV 3 108 yX7_fill 1 := ⟨_, rfl, zg_at (i := 621) (by decide +kernel) (by decide +kernel), zi_X7_fill, ze_X7_fill, zn_X7, zp_X7_fill⟩
theorem zp_X4_begin : zcP yX4_begin 1 := ⟨by decide +kernel, by decide +kernel, by decide +kernel⟩
theorem zi_X4_begin : Cond.instanceMethod yX4_begin ∈ zx_G := zg_at (i := 623) (by decide +kernel) (by decide +kernel)
theorem ze_X4_begin : Cond.selects yX4_begin.cls yX4_begin yX4_begin ∈ zx_G := zg_at (i := 624) (by decide +kernel) (by decide +kernel)
theorem zc_3_111 : zcV 3 111 yX4_begin 1 := ⟨_, rfl, zg_at (i := 622) (by decide +kernel) (by decide +kernel), zi_X4_begin, ze_X4_begin, zn_X4, zp_X4_begin⟩
theorem zp_X2_isNotInYet : zcP yX2_isNotInYet 0 := ⟨by decide +kernel, by decide +kernel, by decide +kernel⟩
theorem zi_X2_isNotInYet : Cond.instanceMethod yX2_isNotInYet ∈ zx_G := zg_at (i := 627) (by decide +kernel) (by decide +kernel)
theorem ze_X2_isNotInYet : Cond.selects yX2_isNotInYet.cls yX2_isNotInYet yX2_isNotInYet ∈ zx_G := zg_at (i := 628) (by decide +kernel) (by decide +kernel)
theorem zn_X2 : Cond.initialized RX2 ∈ zx_G := zg_at (i := 49) (by decide +kernel) (by decide +kernel)
theorem zc_3_127 : zcV 3 127 yX2_isNotInYet 0 := ⟨_, rfl, zg_at (i := 626) (by decide +kernel) (by decide +kernel), zi_X2_isNotInYet, ze_X2_isNotInYet, zn_X2, zp_X2_isNotInYet⟩
theorem zp_X0_placeInRow : zcP yX0_placeInRow 1 := ⟨by decide +kernel, by decide +kernel, by decide +kernel⟩
theorem zi_X0_placeInRow : Cond.instanceMethod yX0_placeInRow ∈ zx_G := zg_at (i := 643) (by decide +kernel) (by decide +kernel)
theorem ze_X0_placeInRow : Cond.selects yX0_placeInRow.cls yX0_placeInRow yX0_placeInRow ∈ zx_G := zg_at (i := 644) (by decide +kernel) (by decide +kernel)
theorem zc_3_135 : zcV 3 135 yX0_placeInRow 1 := ⟨_, rfl, zg_at (i := 642) (by decide +kernel) (by decide +kernel), zi_X0_placeInRow, ze_X0_placeInRow, zn_X0, zp_X0_placeInRow⟩
theorem zp_X5_who : zcP yX5_who 1 := ⟨by decide +kernel, by decide +kernel, by decide +kernel⟩
theorem zi_X5_who : Cond.instanceMethod yX5_who ∈ zx_G := zg_at (i := 496) (by decide +kernel) (by decide +kernel)
theorem ze_X5_who : Cond.selects yX5_who.cls yX5_who yX5_who ∈ zx_G := zg_at (i := 497) (by decide +kernel) (by decide +kernel)
theorem zc_3_139 : zcV 3 139 yX5_who 1 := ⟨_, rfl, zg_at (i := 646) (by decide +kernel) (by decide +kernel), zi_X5_who, ze_X5_who, zn_X5, zp_X5_who⟩
theorem zp_X3_can : zcP yX3_can 3 := ⟨by decide +kernel, by decide +kernel, by decide +kernel⟩
theorem zi_X3_can : Cond.instanceMethod yX3_can ∈ zx_G := zg_at (i := 649) (by decide +kernel) (by decide +kernel)
theorem ze_X3_can : Cond.selects yX3_can.cls yX3_can yX3_can ∈ zx_G := zg_at (i := 10) (by decide +kernel) (by decide +kernel)
theorem zc_3_143 : zcV 3 143 yX3_can 3 := ⟨_, rfl, zg_at (i := 647) (by decide +kernel) (by decide +kernel), zi_X3_can, ze_X3_can, zn_X3, zp_X3_can⟩
theorem zp_X7_heatOf : zcP yX7_heatOf 1 := ⟨by decide +kernel, by decide +kernel, by decide +kernel⟩
theorem zi_X7_heatOf : Cond.instanceMethod yX7_heatOf ∈ zx_G := zg_at (i := 657) (by decide +kernel) (by decide +kernel)
theorem ze_X7_heatOf : Cond.selects yX7_heatOf.cls yX7_heatOf yX7_heatOf ∈ zx_G := zg_at (i := 658) (by decide +kernel) (by decide +kernel)
theorem zc_3_147 : zcV 3 147 yX7_heatOf 1 := ⟨_, rfl, zg_at (i := 656) (by decide +kernel) (by decide +kernel), zi_X7_heatOf, ze_X7_heatOf, zn_X7, zp_X7_heatOf⟩
theorem zp_X0_prefers : zcP yX0_prefers 2 := ⟨by decide +kernel, by decide +kernel, by decide +kernel⟩
theorem zi_X0_prefers : Cond.instanceMethod yX0_prefers ∈ zx_G := zg_at (i := 662) (by decide +kernel) (by decide +kernel)
theorem ze_X0_prefers : Cond.selects yX0_prefers.cls yX0_prefers yX0_prefers ∈ zx_G := zg_at (i := 663) (by decide +kernel) (by decide +kernel)
theorem zc_3_156 : zcV 3 156 yX0_prefers 2 := ⟨_, rfl, zg_at (i := 661) (by decide +kernel) (by decide +kernel), zi_X0_prefers, ze_X0_prefers, zn_X0, zp_X0_prefers⟩
theorem zp_X1_isLeftBy : zcP yX1_isLeftBy 3 := ⟨by decide +kernel, by decide +kernel, by decide +kernel⟩
theorem zi_X1_isLeftBy : Cond.instanceMethod yX1_isLeftBy ∈ zx_G := zg_at (i := 652) (by decide +kernel) (by decide +kernel)
theorem ze_X1_isLeftBy : Cond.selects yX1_isLeftBy.cls yX1_isLeftBy yX1_isLeftBy ∈ zx_G := zg_at (i := 653) (by decide +kernel) (by decide +kernel)
theorem zc_3_179 : zcV 3 179 yX1_isLeftBy 3 := ⟨_, rfl, zg_at (i := 651) (by decide +kernel) (by decide +kernel), zi_X1_isLeftBy, ze_X1_isLeftBy, zn_X1, zp_X1_isLeftBy⟩
theorem zp_X1_comesFrom : zcP yX1_comesFrom 3 := ⟨by decide +kernel, by decide +kernel, by decide +kernel⟩
theorem zi_X1_comesFrom : Cond.instanceMethod yX1_comesFrom ∈ zx_G := zg_at (i := 570) (by decide +kernel) (by decide +kernel)
theorem ze_X1_comesFrom : Cond.selects yX1_comesFrom.cls yX1_comesFrom yX1_comesFrom ∈ zx_G := zg_at (i := 571) (by decide +kernel) (by decide +kernel)
theorem zc_3_189 : zcV 3 189 yX1_comesFrom 3 := ⟨_, rfl, zg_at (i := 655) (by decide +kernel) (by decide +kernel), zi_X1_comesFrom, ze_X1_comesFrom, zn_X1, zp_X1_comesFrom⟩
theorem zp_X2_init : zcP yX2_init 1 := ⟨by decide +kernel, by decide +kernel, by decide +kernel⟩
theorem zi_X2_init : Cond.instanceMethod yX2_init ∈ zx_G := zg_at (i := 98) (by decide +kernel) (by decide +kernel)
theorem zc_5_24 : zcI 5 24 yX2_init 1 := ⟨_, rfl, Or.inl (zg_at (i := 97) (by decide +kernel) (by decide +kernel)), zi_X2_init, zn_X2, rfl, zp_X2_init⟩
theorem zp_X5_clear : zcP yX5_clear 0 := ⟨by decide +kernel, by decide +kernel, by decide +kernel⟩
theorem zi_X5_clear : Cond.instanceMethod yX5_clear ∈ zx_G := zg_at (i := 175) (by decide +kernel) (by decide +kernel)
theorem ze_X5_clear : Cond.selects yX5_clear.cls yX5_clear yX5_clear ∈ zx_G := zg_at (i := 176) (by decide +kernel) (by decide +kernel)
theorem zc_5_27 : zcV 5 27 yX5_clear 0 := ⟨_, rfl, zg_at (i := 174) (by decide +kernel) (by decide +kernel), zi_X5_clear, ze_X5_clear, zn_X5, zp_X5_clear⟩
theorem zp_X2_becomeLike : zcP yX2_becomeLike 1 := ⟨by decide +kernel, by decide +kernel, by decide +kernel⟩
theorem zi_X2_becomeLike : Cond.instanceMethod yX2_becomeLike ∈ zx_G := zg_at (i := 755) (by decide +kernel) (by decide +kernel)
theorem ze_X2_becomeLike : Cond.selects yX2_becomeLike.cls yX2_becomeLike yX2_becomeLike ∈ zx_G := zg_at (i := 756) (by decide +kernel) (by decide +kernel)
theorem zc_5_74 : zcV 5 74 yX2_becomeLike 1 := ⟨_, rfl, zg_at (i := 754) (by decide +kernel) (by decide +kernel), zi_X2_becomeLike, ze_X2_becomeLike, zn_X2, zp_X2_becomeLike⟩
theorem zc_5_78 : zcS 5 78 yJ9_min_7cf53 2 := ⟨_, rfl, zg_at (i := 762) (by decide +kernel) (by decide +kernel), zs_J9_min_7cf53, zn_J9, zp_J9_min_7cf53⟩
theorem zp_X5_takesTank : zcP yX5_takesTank 1 := ⟨by decide +kernel, by decide +kernel, by decide +kernel⟩
theorem zi_X5_takesTank : Cond.instanceMethod yX5_takesTank ∈ zx_G := zg_at (i := 467) (by decide +kernel) (by decide +kernel)
theorem ze_X5_takesTank : Cond.selects yX5_takesTank.cls yX5_takesTank yX5_takesTank ∈ zx_G := zg_at (i := 0) (by decide +kernel) (by decide +kernel)
theorem zc_5_95 : zcV 5 95 yX5_takesTank 1 := ⟨_, rfl, zg_at (i := 465) (by decide +kernel) (by decide +kernel), zi_X5_takesTank, ze_X5_takesTank, zn_X5, zp_X5_takesTank⟩
theorem zp_X5_takesStage : zcP yX5_takesStage 1 := ⟨by decide +kernel, by decide +kernel, by decide +kernel⟩
theorem zi_X5_takesStage : Cond.instanceMethod yX5_takesStage ∈ zx_G := zg_at (i := 480) (by decide +kernel) (by decide +kernel)
theorem ze_X5_takesStage : Cond.selects yX5_takesStage.cls yX5_takesStage yX5_takesStage ∈ zx_G := zg_at (i := 1) (by decide +kernel) (by decide +kernel)
theorem zc_5_99 : zcV 5 99 yX5_takesStage 1 := ⟨_, rfl, zg_at (i := 478) (by decide +kernel) (by decide +kernel), zi_X5_takesStage, ze_X5_takesStage, zn_X5, zp_X5_takesStage⟩
theorem zp_X5_takesBather : zcP yX5_takesBather 1 := ⟨by decide +kernel, by decide +kernel, by decide +kernel⟩
theorem zi_X5_takesBather : Cond.instanceMethod yX5_takesBather ∈ zx_G := zg_at (i := 484) (by decide +kernel) (by decide +kernel)
theorem ze_X5_takesBather : Cond.selects yX5_takesBather.cls yX5_takesBather yX5_takesBather ∈ zx_G := zg_at (i := 2) (by decide +kernel) (by decide +kernel)
theorem zc_5_102 : zcV 5 102 yX5_takesBather 1 := ⟨_, rfl, zg_at (i := 482) (by decide +kernel) (by decide +kernel), zi_X5_takesBather, ze_X5_takesBather, zn_X5, zp_X5_takesBather⟩
theorem zp_X5_takesPair : zcP yX5_takesPair 1 := ⟨by decide +kernel, by decide +kernel, by decide +kernel⟩
theorem zi_X5_takesPair : Cond.instanceMethod yX5_takesPair ∈ zx_G := zg_at (i := 493) (by decide +kernel) (by decide +kernel)
theorem ze_X5_takesPair : Cond.selects yX5_takesPair.cls yX5_takesPair yX5_takesPair ∈ zx_G := zg_at (i := 3) (by decide +kernel) (by decide +kernel)
theorem zc_5_105 : zcV 5 105 yX5_takesPair 1 := ⟨_, rfl, zg_at (i := 491) (by decide +kernel) (by decide +kernel), zi_X5_takesPair, ze_X5_takesPair, zn_X5, zp_X5_takesPair⟩
theorem zp_X5_takesKettle : zcP yX5_takesKettle 1 := ⟨by decide +kernel, by decide +kernel, by decide +kernel⟩
theorem zi_X5_takesKettle : Cond.instanceMethod yX5_takesKettle ∈ zx_G := zg_at (i := 506) (by decide +kernel) (by decide +kernel)
theorem ze_X5_takesKettle : Cond.selects yX5_takesKettle.cls yX5_takesKettle yX5_takesKettle ∈ zx_G := zg_at (i := 4) (by decide +kernel) (by decide +kernel)
theorem zc_5_108 : zcV 5 108 yX5_takesKettle 1 := ⟨_, rfl, zg_at (i := 504) (by decide +kernel) (by decide +kernel), zi_X5_takesKettle, ze_X5_takesKettle, zn_X5, zp_X5_takesKettle⟩
theorem zp_X5_takesNumber : zcP yX5_takesNumber 1 := ⟨by decide +kernel, by decide +kernel, by decide +kernel⟩
theorem zi_X5_takesNumber : Cond.instanceMethod yX5_takesNumber ∈ zx_G := zg_at (i := 510) (by decide +kernel) (by decide +kernel)
theorem ze_X5_takesNumber : Cond.selects yX5_takesNumber.cls yX5_takesNumber yX5_takesNumber ∈ zx_G := zg_at (i := 5) (by decide +kernel) (by decide +kernel)
theorem zc_5_111 : zcV 5 111 yX5_takesNumber 1 := ⟨_, rfl, zg_at (i := 508) (by decide +kernel) (by decide +kernel), zi_X5_takesNumber, ze_X5_takesNumber, zn_X5, zp_X5_takesNumber⟩
theorem zp_X6_isWithin : zcP yX6_isWithin 3 := ⟨by decide +kernel, by decide +kernel, by decide +kernel⟩
theorem zi_X6_isWithin : Cond.instanceMethod yX6_isWithin ∈ zx_G := zg_at (i := 470) (by decide +kernel) (by decide +kernel)
theorem ze_X6_isWithin : Cond.selects yX6_isWithin.cls yX6_isWithin yX6_isWithin ∈ zx_G := zg_at (i := 471) (by decide +kernel) (by decide +kernel)
theorem zc_5_117 : zcV 5 117 yX6_isWithin 3 := ⟨_, rfl, zg_at (i := 469) (by decide +kernel) (by decide +kernel), zi_X6_isWithin, ze_X6_isWithin, zn_X6, zp_X6_isWithin⟩
theorem zc_5_121 : zcV 5 121 yX6_number 1 := ⟨_, rfl, zg_at (i := 477) (by decide +kernel) (by decide +kernel), zi_X6_number, ze_X6_number, zn_X6, zp_X6_number⟩
theorem zp_X2_become : zcP yX2_become 1 := ⟨by decide +kernel, by decide +kernel, by decide +kernel⟩
theorem zi_X2_become : Cond.instanceMethod yX2_become ∈ zx_G := zg_at (i := 487) (by decide +kernel) (by decide +kernel)
theorem ze_X2_become : Cond.selects yX2_become.cls yX2_become yX2_become ∈ zx_G := zg_at (i := 488) (by decide +kernel) (by decide +kernel)
theorem zc_5_125 : zcV 5 125 yX2_become 1 := ⟨_, rfl, zg_at (i := 486) (by decide +kernel) (by decide +kernel), zi_X2_become, ze_X2_become, zn_X2, zp_X2_become⟩
theorem zc_5_129 : zcV 5 129 yX5_who 1 := ⟨_, rfl, zg_at (i := 495) (by decide +kernel) (by decide +kernel), zi_X5_who, ze_X5_who, zn_X5, zp_X5_who⟩
theorem zp_X6_isPairOf : zcP yX6_isPairOf 1 := ⟨by decide +kernel, by decide +kernel, by decide +kernel⟩
theorem zi_X6_isPairOf : Cond.instanceMethod yX6_isPairOf ∈ zx_G := zg_at (i := 500) (by decide +kernel) (by decide +kernel)
theorem ze_X6_isPairOf : Cond.selects yX6_isPairOf.cls yX6_isPairOf yX6_isPairOf ∈ zx_G := zg_at (i := 501) (by decide +kernel) (by decide +kernel)
theorem zc_5_133 : zcV 5 133 yX6_isPairOf 1 := ⟨_, rfl, zg_at (i := 499) (by decide +kernel) (by decide +kernel), zi_X6_isPairOf, ze_X6_isPairOf, zn_X6, zp_X6_isPairOf⟩
theorem zp_X6_isOneWithin : zcP yX6_isOneWithin 2 := ⟨by decide +kernel, by decide +kernel, by decide +kernel⟩
theorem zi_X6_isOneWithin : Cond.instanceMethod yX6_isOneWithin ∈ zx_G := zg_at (i := 513) (by decide +kernel) (by decide +kernel)
theorem ze_X6_isOneWithin : Cond.selects yX6_isOneWithin.cls yX6_isOneWithin yX6_isOneWithin ∈ zx_G := zg_at (i := 514) (by decide +kernel) (by decide +kernel)
theorem zc_5_146 : zcV 5 146 yX6_isOneWithin 2 := ⟨_, rfl, zg_at (i := 512) (by decide +kernel) (by decide +kernel), zi_X6_isOneWithin, ze_X6_isOneWithin, zn_X6, zp_X6_isOneWithin⟩
theorem zp_J9_max_7cf53 : zcP yJ9_max_7cf53 2 := ⟨by decide +kernel, by decide +kernel, by decide +kernel⟩
theorem zs_J9_max_7cf53 : Cond.static yJ9_max_7cf53 ∈ zx_G := zg_at (i := 543) (by decide +kernel) (by decide +kernel)
theorem zc_5_156 : zcS 5 156 yJ9_max_7cf53 2 := ⟨_, rfl, zg_at (i := 696) (by decide +kernel) (by decide +kernel), zs_J9_max_7cf53, zn_J9, zp_J9_max_7cf53⟩
theorem zc_6_22 : zcV 6 22 yX6_number 1 := ⟨_, rfl, zg_at (i := 473) (by decide +kernel) (by decide +kernel), zi_X6_number, ze_X6_number, zn_X6, zp_X6_number⟩
theorem zc_6_26 : zcV 6 26 yX6_isWithin 3 := ⟨_, rfl, zg_at (i := 503) (by decide +kernel) (by decide +kernel), zi_X6_isWithin, ze_X6_isWithin, zn_X6, zp_X6_isWithin⟩
theorem zc_7_24 : zcS 7 24 yJ9_min_7cf53 2 := ⟨_, rfl, zg_at (i := 539) (by decide +kernel) (by decide +kernel), zs_J9_min_7cf53, zn_J9, zp_J9_min_7cf53⟩
theorem zc_7_32 : zcS 7 32 yJ9_max_7cf53 2 := ⟨_, rfl, zg_at (i := 542) (by decide +kernel) (by decide +kernel), zs_J9_max_7cf53, zn_J9, zp_J9_max_7cf53⟩
theorem zp_X7_unitsIn : zcP yX7_unitsIn 1 := ⟨by decide +kernel, by decide +kernel, by decide +kernel⟩
theorem zi_X7_unitsIn : Cond.instanceMethod yX7_unitsIn ∈ zx_G := zg_at (i := 562) (by decide +kernel) (by decide +kernel)
theorem ze_X7_unitsIn : Cond.selects yX7_unitsIn.cls yX7_unitsIn yX7_unitsIn ∈ zx_G := zg_at (i := 563) (by decide +kernel) (by decide +kernel)
theorem zc_7_42 : zcV 7 42 yX7_unitsIn 1 := ⟨_, rfl, zg_at (i := 660) (by decide +kernel) (by decide +kernel), zi_X7_unitsIn, ze_X7_unitsIn, zn_X7, zp_X7_unitsIn⟩
theorem zp_X7_unitsOfPart : zcP yX7_unitsOfPart 2 := ⟨by decide +kernel, by decide +kernel, by decide +kernel⟩
theorem zi_X7_unitsOfPart : Cond.instanceMethod yX7_unitsOfPart ∈ zx_G := zg_at (i := 559) (by decide +kernel) (by decide +kernel)
theorem ze_X7_unitsOfPart : Cond.selects yX7_unitsOfPart.cls yX7_unitsOfPart yX7_unitsOfPart ∈ zx_G := zg_at (i := 6) (by decide +kernel) (by decide +kernel)
theorem zc_7_46 : zcV 7 46 yX7_unitsOfPart 2 := ⟨_, rfl, zg_at (i := 557) (by decide +kernel) (by decide +kernel), zi_X7_unitsOfPart, ze_X7_unitsOfPart, zn_X7, zp_X7_unitsOfPart⟩
theorem zp_X8_clear : zcP yX8_clear 0 := ⟨by decide +kernel, by decide +kernel, by decide +kernel⟩
theorem zi_X8_clear : Cond.instanceMethod yX8_clear ∈ zx_G := zg_at (i := 249) (by decide +kernel) (by decide +kernel)
theorem ze_X8_clear : Cond.selects yX8_clear.cls yX8_clear yX8_clear ∈ zx_G := zg_at (i := 250) (by decide +kernel) (by decide +kernel)
theorem zn_X8 : Cond.initialized RX8 ∈ zx_G := zg_at (i := 50) (by decide +kernel) (by decide +kernel)
theorem zc_8_18 : zcV 8 18 yX8_clear 0 := ⟨_, rfl, zg_at (i := 248) (by decide +kernel) (by decide +kernel), zi_X8_clear, ze_X8_clear, zn_X8, zp_X8_clear⟩
theorem zp_X6_init : zcP yX6_init 0 := ⟨by decide +kernel, by decide +kernel, by decide +kernel⟩
theorem zi_X6_init : Cond.instanceMethod yX6_init ∈ zx_G := zg_at (i := 71) (by decide +kernel) (by decide +kernel)
theorem zc_9_15 : zcI 9 15 yX6_init 0 := ⟨_, rfl, Or.inr ⟨"BathNight", zg_nat (i := 70) (by decide +kernel) (by decide +kernel)⟩, zi_X6_init, zn_X6, rfl, zp_X6_init⟩
theorem zp_X5_init : zcP yX5_init 0 := ⟨by decide +kernel, by decide +kernel, by decide +kernel⟩
theorem zi_X5_init : Cond.instanceMethod yX5_init ∈ zx_G := zg_at (i := 91) (by decide +kernel) (by decide +kernel)
theorem zc_9_22 : zcI 9 22 yX5_init 0 := ⟨_, rfl, Or.inl (zg_at (i := 90) (by decide +kernel) (by decide +kernel)), zi_X5_init, zn_X5, rfl, zp_X5_init⟩
theorem zp_X8_init : zcP yX8_init 0 := ⟨by decide +kernel, by decide +kernel, by decide +kernel⟩
theorem zi_X8_init : Cond.instanceMethod yX8_init ∈ zx_G := zg_at (i := 245) (by decide +kernel) (by decide +kernel)
theorem zc_9_32 : zcI 9 32 yX8_init 0 := ⟨_, rfl, Or.inl (zg_at (i := 244) (by decide +kernel) (by decide +kernel)), zi_X8_init, zn_X8, rfl, zp_X8_init⟩
theorem zp_X0_init : zcP yX0_init 0 := ⟨by decide +kernel, by decide +kernel, by decide +kernel⟩
theorem zi_X0_init : Cond.instanceMethod yX0_init ∈ zx_G := zg_at (i := 276) (by decide +kernel) (by decide +kernel)
theorem zc_9_43 : zcI 9 43 yX0_init 0 := ⟨_, rfl, Or.inr ⟨"BathNight", zg_nat (i := 275) (by decide +kernel) (by decide +kernel)⟩, zi_X0_init, zn_X0, rfl, zp_X0_init⟩
theorem zp_X3_init : zcP yX3_init 0 := ⟨by decide +kernel, by decide +kernel, by decide +kernel⟩
theorem zi_X3_init : Cond.instanceMethod yX3_init ∈ zx_G := zg_at (i := 316) (by decide +kernel) (by decide +kernel)
theorem zc_9_50 : zcI 9 50 yX3_init 0 := ⟨_, rfl, Or.inr ⟨"BathNight", zg_nat (i := 315) (by decide +kernel) (by decide +kernel)⟩, zi_X3_init, zn_X3, rfl, zp_X3_init⟩
theorem zc_9_63 : zcV 9 63 yX5_clear 0 := ⟨_, rfl, zg_at (i := 456) (by decide +kernel) (by decide +kernel), zi_X5_clear, ze_X5_clear, zn_X5, zp_X5_clear⟩
theorem zp_X6_readFrom : zcP yX6_readFrom 3 := ⟨by decide +kernel, by decide +kernel, by decide +kernel⟩
theorem zi_X6_readFrom : Cond.instanceMethod yX6_readFrom ∈ zx_G := zg_at (i := 458) (by decide +kernel) (by decide +kernel)
theorem ze_X6_readFrom : Cond.selects yX6_readFrom.cls yX6_readFrom yX6_readFrom ∈ zx_G := zg_at (i := 459) (by decide +kernel) (by decide +kernel)
theorem zc_9_66 : zcV 9 66 yX6_readFrom 3 := ⟨_, rfl, zg_at (i := 457) (by decide +kernel) (by decide +kernel), zi_X6_readFrom, ze_X6_readFrom, zn_X6, zp_X6_readFrom⟩
theorem zp_X5_takes : zcP yX5_takes 1 := ⟨by decide +kernel, by decide +kernel, by decide +kernel⟩
theorem zi_X5_takes : Cond.instanceMethod yX5_takes ∈ zx_G := zg_at (i := 462) (by decide +kernel) (by decide +kernel)
theorem ze_X5_takes : Cond.selects yX5_takes.cls yX5_takes yX5_takes ∈ zx_G := zg_at (i := 463) (by decide +kernel) (by decide +kernel)
theorem zc_9_70 : zcV 9 70 yX5_takes 1 := ⟨_, rfl, zg_at (i := 461) (by decide +kernel) (by decide +kernel), zi_X5_takes, ze_X5_takes, zn_X5, zp_X5_takes⟩
theorem zp_X9_fault : zcP yX9_fault 0 := ⟨by decide +kernel, by decide +kernel, by decide +kernel⟩
theorem zi_X9_fault : Cond.instanceMethod yX9_fault ∈ zx_G := zg_at (i := 453) (by decide +kernel) (by decide +kernel)
theorem ze_X9_fault : Cond.selects yX9_fault.cls yX9_fault yX9_fault ∈ zx_G := zg_at (i := 454) (by decide +kernel) (by decide +kernel)
theorem zn_X9 : Cond.initialized RX9 ∈ zx_G := zg_at (i := 46) (by decide +kernel) (by decide +kernel)
theorem zc_9_74 : zcV 9 74 yX9_fault 0 := ⟨_, rfl, zg_at (i := 520) (by decide +kernel) (by decide +kernel), zi_X9_fault, ze_X9_fault, zn_X9, zp_X9_fault⟩
theorem zc_9_78 : zcV 9 78 yX8_clear 0 := ⟨_, rfl, zg_at (i := 521) (by decide +kernel) (by decide +kernel), zi_X8_clear, ze_X8_clear, zn_X8, zp_X8_clear⟩
theorem zc_9_85 : zcV 9 85 yX5_who 1 := ⟨_, rfl, zg_at (i := 526) (by decide +kernel) (by decide +kernel), zi_X5_who, ze_X5_who, zn_X5, zp_X5_who⟩
theorem zp_X2_toldOf : zcP yX2_toldOf 1 := ⟨by decide +kernel, by decide +kernel, by decide +kernel⟩
theorem zi_X2_toldOf : Cond.instanceMethod yX2_toldOf ∈ zx_G := zg_at (i := 528) (by decide +kernel) (by decide +kernel)
theorem ze_X2_toldOf : Cond.selects yX2_toldOf.cls yX2_toldOf yX2_toldOf ∈ zx_G := zg_at (i := 529) (by decide +kernel) (by decide +kernel)
theorem zc_9_89 : zcV 9 89 yX2_toldOf 1 := ⟨_, rfl, zg_at (i := 527) (by decide +kernel) (by decide +kernel), zi_X2_toldOf, ze_X2_toldOf, zn_X2, zp_X2_toldOf⟩
theorem zc_9_99 : zcV 9 99 yX7_fill 1 := ⟨_, rfl, zg_at (i := 535) (by decide +kernel) (by decide +kernel), zi_X7_fill, ze_X7_fill, zn_X7, zp_X7_fill⟩
theorem zc_9_105 : zcV 9 105 yX7_holds 0 := ⟨_, rfl, zg_at (i := 545) (by decide +kernel) (by decide +kernel), zi_X7_holds, ze_X7_holds, zn_X7, zp_X7_holds⟩
theorem zc_9_111 : zcV 9 111 yX7_unitsOfTop 1 := ⟨_, rfl, zg_at (i := 549) (by decide +kernel) (by decide +kernel), zi_X7_unitsOfTop, ze_X7_unitsOfTop, zn_X7, zp_X7_unitsOfTop⟩
theorem zc_9_114 : zcV 9 114 yX7_draw 1 := ⟨_, rfl, zg_at (i := 553) (by decide +kernel) (by decide +kernel), zi_X7_draw, ze_X7_draw, zn_X7, zp_X7_draw⟩
theorem zc_9_118 : zcV 9 118 yX7_unitsIn 1 := ⟨_, rfl, zg_at (i := 561) (by decide +kernel) (by decide +kernel), zi_X7_unitsIn, ze_X7_unitsIn, zn_X7, zp_X7_unitsIn⟩
theorem zc_9_128 : zcV 9 128 yX1_comesFrom 3 := ⟨_, rfl, zg_at (i := 569) (by decide +kernel) (by decide +kernel), zi_X1_comesFrom, ze_X1_comesFrom, zn_X1, zp_X1_comesFrom⟩
theorem zp_X9_isRule : zcP yX9_isRule 1 := ⟨by decide +kernel, by decide +kernel, by decide +kernel⟩
theorem zs_X9_isRule : Cond.static yX9_isRule ∈ zx_G := zg_at (i := 596) (by decide +kernel) (by decide +kernel)
theorem zc_9_152 : zcS 9 152 yX9_isRule 1 := ⟨_, rfl, zg_at (i := 595) (by decide +kernel) (by decide +kernel), zs_X9_isRule, zn_X9, zp_X9_isRule⟩
theorem zp_X9_ask : zcP yX9_ask 1 := ⟨by decide +kernel, by decide +kernel, by decide +kernel⟩
theorem zi_X9_ask : Cond.instanceMethod yX9_ask ∈ zx_G := zg_at (i := 600) (by decide +kernel) (by decide +kernel)
theorem ze_X9_ask : Cond.selects yX9_ask.cls yX9_ask yX9_ask ∈ zx_G := zg_at (i := 7) (by decide +kernel) (by decide +kernel)
theorem zc_9_156 : zcV 9 156 yX9_ask 1 := ⟨_, rfl, zg_at (i := 598) (by decide +kernel) (by decide +kernel), zi_X9_ask, ze_X9_ask, zn_X9, zp_X9_ask⟩
theorem zp_X3_run : zcP yX3_run 2 := ⟨by decide +kernel, by decide +kernel, by decide +kernel⟩
theorem zi_X3_run : Cond.instanceMethod yX3_run ∈ zx_G := zg_at (i := 614) (by decide +kernel) (by decide +kernel)
theorem ze_X3_run : Cond.selects yX3_run.cls yX3_run yX3_run ∈ zx_G := zg_at (i := 615) (by decide +kernel) (by decide +kernel)
theorem zc_9_159 : zcV 9 159 yX3_run 2 := ⟨_, rfl, zg_at (i := 613) (by decide +kernel) (by decide +kernel), zi_X3_run, ze_X3_run, zn_X3, zp_X3_run⟩
theorem zc_9_185 : zcV 9 185 yX7_heatOf 1 := ⟨_, rfl, zg_at (i := 705) (by decide +kernel) (by decide +kernel), zi_X7_heatOf, ze_X7_heatOf, zn_X7, zp_X7_heatOf⟩
theorem zp_X0_rowByNumbers : zcP yX0_rowByNumbers 0 := ⟨by decide +kernel, by decide +kernel, by decide +kernel⟩
theorem zi_X0_rowByNumbers : Cond.instanceMethod yX0_rowByNumbers ∈ zx_G := zg_at (i := 711) (by decide +kernel) (by decide +kernel)
theorem ze_X0_rowByNumbers : Cond.selects yX0_rowByNumbers.cls yX0_rowByNumbers yX0_rowByNumbers ∈ zx_G := zg_at (i := 712) (by decide +kernel) (by decide +kernel)
theorem zc_9_188 : zcV 9 188 yX0_rowByNumbers 0 := ⟨_, rfl, zg_at (i := 710) (by decide +kernel) (by decide +kernel), zi_X0_rowByNumbers, ze_X0_rowByNumbers, zn_X0, zp_X0_rowByNumbers⟩
theorem zp_X0_copyRowTo : zcP yX0_copyRowTo 1 := ⟨by decide +kernel, by decide +kernel, by decide +kernel⟩
theorem zi_X0_copyRowTo : Cond.instanceMethod yX0_copyRowTo ∈ zx_G := zg_at (i := 715) (by decide +kernel) (by decide +kernel)
theorem ze_X0_copyRowTo : Cond.selects yX0_copyRowTo.cls yX0_copyRowTo yX0_copyRowTo ∈ zx_G := zg_at (i := 716) (by decide +kernel) (by decide +kernel)
theorem zc_9_191 : zcV 9 191 yX0_copyRowTo 1 := ⟨_, rfl, zg_at (i := 714) (by decide +kernel) (by decide +kernel), zi_X0_copyRowTo, ze_X0_copyRowTo, zn_X0, zp_X0_copyRowTo⟩
theorem zp_X0_nextRow : zcP yX0_nextRow 1 := ⟨by decide +kernel, by decide +kernel, by decide +kernel⟩
theorem zi_X0_nextRow : Cond.instanceMethod yX0_nextRow ∈ zx_G := zg_at (i := 720) (by decide +kernel) (by decide +kernel)
theorem ze_X0_nextRow : Cond.selects yX0_nextRow.cls yX0_nextRow yX0_nextRow ∈ zx_G := zg_at (i := 721) (by decide +kernel) (by decide +kernel)
theorem zc_9_195 : zcV 9 195 yX0_nextRow 1 := ⟨_, rfl, zg_at (i := 719) (by decide +kernel) (by decide +kernel), zi_X0_nextRow, ze_X0_nextRow, zn_X0, zp_X0_nextRow⟩
theorem zc_9_199 : zcV 9 199 yX0_changePlaces 2 := ⟨_, rfl, zg_at (i := 732) (by decide +kernel) (by decide +kernel), zi_X0_changePlaces, ze_X0_changePlaces, zn_X0, zp_X0_changePlaces⟩
theorem zp_X9_nobodyLate : zcP yX9_nobodyLate 1 := ⟨by decide +kernel, by decide +kernel, by decide +kernel⟩
theorem zi_X9_nobodyLate : Cond.instanceMethod yX9_nobodyLate ∈ zx_G := zg_at (i := 743) (by decide +kernel) (by decide +kernel)
theorem ze_X9_nobodyLate : Cond.selects yX9_nobodyLate.cls yX9_nobodyLate yX9_nobodyLate ∈ zx_G := zg_at (i := 12) (by decide +kernel) (by decide +kernel)
theorem zc_9_211 : zcV 9 211 yX9_nobodyLate 1 := ⟨_, rfl, zg_at (i := 741) (by decide +kernel) (by decide +kernel), zi_X9_nobodyLate, ze_X9_nobodyLate, zn_X9, zp_X9_nobodyLate⟩
theorem zp_X5_becomeLike : zcP yX5_becomeLike 1 := ⟨by decide +kernel, by decide +kernel, by decide +kernel⟩
theorem zi_X5_becomeLike : Cond.instanceMethod yX5_becomeLike ∈ zx_G := zg_at (i := 750) (by decide +kernel) (by decide +kernel)
theorem ze_X5_becomeLike : Cond.selects yX5_becomeLike.cls yX5_becomeLike yX5_becomeLike ∈ zx_G := zg_at (i := 751) (by decide +kernel) (by decide +kernel)
theorem zc_9_215 : zcV 9 215 yX5_becomeLike 1 := ⟨_, rfl, zg_at (i := 749) (by decide +kernel) (by decide +kernel), zi_X5_becomeLike, ze_X5_becomeLike, zn_X5, zp_X5_becomeLike⟩
theorem zp_X5_grow : zcP yX5_grow 1 := ⟨by decide +kernel, by decide +kernel, by decide +kernel⟩
theorem zi_X5_grow : Cond.instanceMethod yX5_grow ∈ zx_G := zg_at (i := 759) (by decide +kernel) (by decide +kernel)
theorem ze_X5_grow : Cond.selects yX5_grow.cls yX5_grow yX5_grow ∈ zx_G := zg_at (i := 760) (by decide +kernel) (by decide +kernel)
theorem zc_9_218 : zcV 9 218 yX5_grow 1 := ⟨_, rfl, zg_at (i := 758) (by decide +kernel) (by decide +kernel), zi_X5_grow, ze_X5_grow, zn_X5, zp_X5_grow⟩
theorem zp_X8_sumOfTenths : zcP yX8_sumOfTenths 0 := ⟨by decide +kernel, by decide +kernel, by decide +kernel⟩
theorem zi_X8_sumOfTenths : Cond.instanceMethod yX8_sumOfTenths ∈ zx_G := zg_at (i := 776) (by decide +kernel) (by decide +kernel)
theorem ze_X8_sumOfTenths : Cond.selects yX8_sumOfTenths.cls yX8_sumOfTenths yX8_sumOfTenths ∈ zx_G := zg_at (i := 777) (by decide +kernel) (by decide +kernel)
theorem zc_9_233 : zcV 9 233 yX8_sumOfTenths 0 := ⟨_, rfl, zg_at (i := 775) (by decide +kernel) (by decide +kernel), zi_X8_sumOfTenths, ze_X8_sumOfTenths, zn_X8, zp_X8_sumOfTenths⟩
theorem zp_X9_sumToldAt : zcP yX9_sumToldAt 2 := ⟨by decide +kernel, by decide +kernel, by decide +kernel⟩
theorem zi_X9_sumToldAt : Cond.instanceMethod yX9_sumToldAt ∈ zx_G := zg_at (i := 781) (by decide +kernel) (by decide +kernel)
theorem ze_X9_sumToldAt : Cond.selects yX9_sumToldAt.cls yX9_sumToldAt yX9_sumToldAt ∈ zx_G := zg_at (i := 13) (by decide +kernel) (by decide +kernel)
theorem zc_9_239 : zcV 9 239 yX9_sumToldAt 2 := ⟨_, rfl, zg_at (i := 779) (by decide +kernel) (by decide +kernel), zi_X9_sumToldAt, ze_X9_sumToldAt, zn_X9, zp_X9_sumToldAt⟩
theorem zp_X9_bestToCome : zcP yX9_bestToCome 1 := ⟨by decide +kernel, by decide +kernel, by decide +kernel⟩
theorem zi_X9_bestToCome : Cond.instanceMethod yX9_bestToCome ∈ zx_G := zg_at (i := 789) (by decide +kernel) (by decide +kernel)
theorem ze_X9_bestToCome : Cond.selects yX9_bestToCome.cls yX9_bestToCome yX9_bestToCome ∈ zx_G := zg_at (i := 14) (by decide +kernel) (by decide +kernel)
theorem zc_9_246 : zcV 9 246 yX9_bestToCome 1 := ⟨_, rfl, zg_at (i := 787) (by decide +kernel) (by decide +kernel), zi_X9_bestToCome, ze_X9_bestToCome, zn_X9, zp_X9_bestToCome⟩
theorem zp_X8_becomeLike : zcP yX8_becomeLike 1 := ⟨by decide +kernel, by decide +kernel, by decide +kernel⟩
theorem zi_X8_becomeLike : Cond.instanceMethod yX8_becomeLike ∈ zx_G := zg_at (i := 796) (by decide +kernel) (by decide +kernel)
theorem ze_X8_becomeLike : Cond.selects yX8_becomeLike.cls yX8_becomeLike yX8_becomeLike ∈ zx_G := zg_at (i := 797) (by decide +kernel) (by decide +kernel)
theorem zc_9_250 : zcV 9 250 yX8_becomeLike 1 := ⟨_, rfl, zg_at (i := 795) (by decide +kernel) (by decide +kernel), zi_X8_becomeLike, ze_X8_becomeLike, zn_X8, zp_X8_becomeLike⟩
theorem zp_J13_bitCount_95d88 : zcP yJ13_bitCount_95d88 1 := ⟨by decide +kernel, by decide +kernel, by decide +kernel⟩
theorem zs_J13_bitCount_95d88 : Cond.static yJ13_bitCount_95d88 ∈ zx_G := zg_at (i := 809) (by decide +kernel) (by decide +kernel)
theorem zn_J13 : Cond.initialized RJ13 ∈ zx_G := zg_at (i := 59) (by decide +kernel) (by decide +kernel)
theorem zc_9_253 : zcS 9 253 yJ13_bitCount_95d88 1 := ⟨_, rfl, zg_at (i := 808) (by decide +kernel) (by decide +kernel), zs_J13_bitCount_95d88, zn_J13, zp_J13_bitCount_95d88⟩
theorem zp_X0_become : zcP yX0_become 3 := ⟨by decide +kernel, by decide +kernel, by decide +kernel⟩
theorem zi_X0_become : Cond.instanceMethod yX0_become ∈ zx_G := zg_at (i := 603) (by decide +kernel) (by decide +kernel)
theorem ze_X0_become : Cond.selects yX0_become.cls yX0_become yX0_become ∈ zx_G := zg_at (i := 604) (by decide +kernel) (by decide +kernel)
theorem zc_9_259 : zcV 9 259 yX0_become 3 := ⟨_, rfl, zg_at (i := 602) (by decide +kernel) (by decide +kernel), zi_X0_become, ze_X0_become, zn_X0, zp_X0_become⟩
theorem zp_X5_allComeAsTold : zcP yX5_allComeAsTold 0 := ⟨by decide +kernel, by decide +kernel, by decide +kernel⟩
theorem zi_X5_allComeAsTold : Cond.instanceMethod yX5_allComeAsTold ∈ zx_G := zg_at (i := 610) (by decide +kernel) (by decide +kernel)
theorem ze_X5_allComeAsTold : Cond.selects yX5_allComeAsTold.cls yX5_allComeAsTold yX5_allComeAsTold ∈ zx_G := zg_at (i := 611) (by decide +kernel) (by decide +kernel)
theorem zc_9_263 : zcV 9 263 yX5_allComeAsTold 0 := ⟨_, rfl, zg_at (i := 609) (by decide +kernel) (by decide +kernel), zi_X5_allComeAsTold, ze_X5_allComeAsTold, zn_X5, zp_X5_allComeAsTold⟩
theorem zp_X10_firstHouse : zcP yX10_firstHouse 1 := ⟨by decide +kernel, by decide +kernel, by decide +kernel⟩
theorem zs_X10_firstHouse : Cond.static yX10_firstHouse ∈ zx_G := zg_at (i := 821) (by decide +kernel) (by decide +kernel)
theorem zn_X10 : Cond.initialized RX10 ∈ zx_G := zg_at (i := 56) (by decide +kernel) (by decide +kernel)
theorem zc_10_68 : zcS 10 68 yX10_firstHouse 1 := ⟨_, rfl, zg_at (i := 820) (by decide +kernel) (by decide +kernel), zs_X10_firstHouse, zn_X10, zp_X10_firstHouse⟩
theorem zp_X10_layDown : zcP yX10_layDown 0 := ⟨by decide +kernel, by decide +kernel, by decide +kernel⟩
theorem zi_X10_layDown : Cond.instanceMethod yX10_layDown ∈ zx_G := zg_at (i := 825) (by decide +kernel) (by decide +kernel)
theorem ze_X10_layDown : Cond.selects yX10_layDown.cls yX10_layDown yX10_layDown ∈ zx_G := zg_at (i := 15) (by decide +kernel) (by decide +kernel)
theorem zc_10_72 : zcV 10 72 yX10_layDown 0 := ⟨_, rfl, zg_at (i := 823) (by decide +kernel) (by decide +kernel), zi_X10_layDown, ze_X10_layDown, zn_X10, zp_X10_layDown⟩
theorem zp_X10_in : zcP yX10_in 3 := ⟨by decide +kernel, by decide +kernel, by decide +kernel⟩
theorem zs_X10_in : Cond.static yX10_in ∈ zx_G := zg_at (i := 942) (by decide +kernel) (by decide +kernel)
theorem zc_10_86 : zcS 10 86 yX10_in 3 := ⟨_, rfl, zg_at (i := 941) (by decide +kernel) (by decide +kernel), zs_X10_in, zn_X10, zp_X10_in⟩
theorem zp_X10_byteNow : zcP yX10_byteNow 0 := ⟨by decide +kernel, by decide +kernel, by decide +kernel⟩
theorem zi_X10_byteNow : Cond.instanceMethod yX10_byteNow ∈ zx_G := zg_at (i := 963) (by decide +kernel) (by decide +kernel)
theorem ze_X10_byteNow : Cond.selects yX10_byteNow.cls yX10_byteNow yX10_byteNow ∈ zx_G := zg_at (i := 18) (by decide +kernel) (by decide +kernel)
theorem zc_10_101 : zcV 10 101 yX10_byteNow 0 := ⟨_, rfl, zg_at (i := 961) (by decide +kernel) (by decide +kernel), zi_X10_byteNow, ze_X10_byteNow, zn_X10, zp_X10_byteNow⟩
theorem zp_X10_isNumber : zcP yX10_isNumber 3 := ⟨by decide +kernel, by decide +kernel, by decide +kernel⟩
theorem zi_X10_isNumber : Cond.instanceMethod yX10_isNumber ∈ zx_G := zg_at (i := 971) (by decide +kernel) (by decide +kernel)
theorem ze_X10_isNumber : Cond.selects yX10_isNumber.cls yX10_isNumber yX10_isNumber ∈ zx_G := zg_at (i := 20) (by decide +kernel) (by decide +kernel)
theorem zc_10_105 : zcV 10 105 yX10_isNumber 3 := ⟨_, rfl, zg_at (i := 969) (by decide +kernel) (by decide +kernel), zi_X10_isNumber, ze_X10_isNumber, zn_X10, zp_X10_isNumber⟩
theorem zp_X10_isPut : zcP yX10_isPut 4 := ⟨by decide +kernel, by decide +kernel, by decide +kernel⟩
theorem zi_X10_isPut : Cond.instanceMethod yX10_isPut ∈ zx_G := zg_at (i := 967) (by decide +kernel) (by decide +kernel)
theorem ze_X10_isPut : Cond.selects yX10_isPut.cls yX10_isPut yX10_isPut ∈ zx_G := zg_at (i := 19) (by decide +kernel) (by decide +kernel)
theorem zc_10_108 : zcV 10 108 yX10_isPut 4 := ⟨_, rfl, zg_at (i := 965) (by decide +kernel) (by decide +kernel), zi_X10_isPut, ze_X10_isPut, zn_X10, zp_X10_isPut⟩
theorem zp_X10_isFire : zcP yX10_isFire 0 := ⟨by decide +kernel, by decide +kernel, by decide +kernel⟩
theorem zi_X10_isFire : Cond.instanceMethod yX10_isFire ∈ zx_G := zg_at (i := 975) (by decide +kernel) (by decide +kernel)
theorem ze_X10_isFire : Cond.selects yX10_isFire.cls yX10_isFire yX10_isFire ∈ zx_G := zg_at (i := 21) (by decide +kernel) (by decide +kernel)
theorem zc_10_112 : zcV 10 112 yX10_isFire 0 := ⟨_, rfl, zg_at (i := 973) (by decide +kernel) (by decide +kernel), zi_X10_isFire, ze_X10_isFire, zn_X10, zp_X10_isFire⟩
theorem zp_X10_isBather : zcP yX10_isBather 0 := ⟨by decide +kernel, by decide +kernel, by decide +kernel⟩
theorem zi_X10_isBather : Cond.instanceMethod yX10_isBather ∈ zx_G := zg_at (i := 979) (by decide +kernel) (by decide +kernel)
theorem ze_X10_isBather : Cond.selects yX10_isBather.cls yX10_isBather yX10_isBather ∈ zx_G := zg_at (i := 22) (by decide +kernel) (by decide +kernel)
theorem zc_10_116 : zcV 10 116 yX10_isBather 0 := ⟨_, rfl, zg_at (i := 977) (by decide +kernel) (by decide +kernel), zi_X10_isBather, ze_X10_isBather, zn_X10, zp_X10_isBather⟩
theorem zp_X10_isPair : zcP yX10_isPair 1 := ⟨by decide +kernel, by decide +kernel, by decide +kernel⟩
theorem zi_X10_isPair : Cond.instanceMethod yX10_isPair ∈ zx_G := zg_at (i := 983) (by decide +kernel) (by decide +kernel)
theorem ze_X10_isPair : Cond.selects yX10_isPair.cls yX10_isPair yX10_isPair ∈ zx_G := zg_at (i := 23) (by decide +kernel) (by decide +kernel)
theorem zc_10_119 : zcV 10 119 yX10_isPair 1 := ⟨_, rfl, zg_at (i := 981) (by decide +kernel) (by decide +kernel), zi_X10_isPair, ze_X10_isPair, zn_X10, zp_X10_isPair⟩
theorem zp_X10_isItem : zcP yX10_isItem 1 := ⟨by decide +kernel, by decide +kernel, by decide +kernel⟩
theorem zi_X10_isItem : Cond.instanceMethod yX10_isItem ∈ zx_G := zg_at (i := 959) (by decide +kernel) (by decide +kernel)
theorem ze_X10_isItem : Cond.selects yX10_isItem.cls yX10_isItem yX10_isItem ∈ zx_G := zg_at (i := 17) (by decide +kernel) (by decide +kernel)
theorem zc_10_126 : zcV 10 126 yX10_isItem 1 := ⟨_, rfl, zg_at (i := 957) (by decide +kernel) (by decide +kernel), zi_X10_isItem, ze_X10_isItem, zn_X10, zp_X10_isItem⟩
theorem zp_X10_isRead : zcP yX10_isRead 0 := ⟨by decide +kernel, by decide +kernel, by decide +kernel⟩
theorem zi_X10_isRead : Cond.instanceMethod yX10_isRead ∈ zx_G := zg_at (i := 955) (by decide +kernel) (by decide +kernel)
theorem ze_X10_isRead : Cond.selects yX10_isRead.cls yX10_isRead yX10_isRead ∈ zx_G := zg_at (i := 16) (by decide +kernel) (by decide +kernel)
theorem zc_10_130 : zcV 10 130 yX10_isRead 0 := ⟨_, rfl, zg_at (i := 953) (by decide +kernel) (by decide +kernel), zi_X10_isRead, ze_X10_isRead, zn_X10, zp_X10_isRead⟩
theorem zp_X10_many : zcP yX10_many 0 := ⟨by decide +kernel, by decide +kernel, by decide +kernel⟩
theorem zi_X10_many : Cond.instanceMethod yX10_many ∈ zx_G := zg_at (i := 999) (by decide +kernel) (by decide +kernel)
theorem ze_X10_many : Cond.selects yX10_many.cls yX10_many yX10_many ∈ zx_G := zg_at (i := 25) (by decide +kernel) (by decide +kernel)
theorem zc_10_133 : zcV 10 133 yX10_many 0 := ⟨_, rfl, zg_at (i := 997) (by decide +kernel) (by decide +kernel), zi_X10_many, ze_X10_many, zn_X10, zp_X10_many⟩
theorem zp_X10_isBatherOf : zcP yX10_isBatherOf 1 := ⟨by decide +kernel, by decide +kernel, by decide +kernel⟩
theorem zi_X10_isBatherOf : Cond.instanceMethod yX10_isBatherOf ∈ zx_G := zg_at (i := 995) (by decide +kernel) (by decide +kernel)
theorem ze_X10_isBatherOf : Cond.selects yX10_isBatherOf.cls yX10_isBatherOf yX10_isBatherOf ∈ zx_G := zg_at (i := 24) (by decide +kernel) (by decide +kernel)
theorem zc_10_136 : zcV 10 136 yX10_isBatherOf 1 := ⟨_, rfl, zg_at (i := 993) (by decide +kernel) (by decide +kernel), zi_X10_isBatherOf, ze_X10_isBatherOf, zn_X10, zp_X10_isBatherOf⟩
theorem zp_X10_of : zcP yX10_of 2 := ⟨by decide +kernel, by decide +kernel, by decide +kernel⟩
theorem zi_X10_of : Cond.instanceMethod yX10_of ∈ zx_G := zg_at (i := 1003) (by decide +kernel) (by decide +kernel)
theorem ze_X10_of : Cond.selects yX10_of.cls yX10_of yX10_of ∈ zx_G := zg_at (i := 26) (by decide +kernel) (by decide +kernel)
theorem zc_10_139 : zcV 10 139 yX10_of 2 := ⟨_, rfl, zg_at (i := 1001) (by decide +kernel) (by decide +kernel), zi_X10_of, ze_X10_of, zn_X10, zp_X10_of⟩
theorem zp_X10_holds : zcP yX10_holds 0 := ⟨by decide +kernel, by decide +kernel, by decide +kernel⟩
theorem zi_X10_holds : Cond.instanceMethod yX10_holds ∈ zx_G := zg_at (i := 1011) (by decide +kernel) (by decide +kernel)
theorem ze_X10_holds : Cond.selects yX10_holds.cls yX10_holds yX10_holds ∈ zx_G := zg_at (i := 27) (by decide +kernel) (by decide +kernel)
theorem zc_10_143 : zcV 10 143 yX10_holds 0 := ⟨_, rfl, zg_at (i := 1009) (by decide +kernel) (by decide +kernel), zi_X10_holds, ze_X10_holds, zn_X10, zp_X10_holds⟩
theorem zp_X10_unitsOf : zcP yX10_unitsOf 2 := ⟨by decide +kernel, by decide +kernel, by decide +kernel⟩
theorem zi_X10_unitsOf : Cond.instanceMethod yX10_unitsOf ∈ zx_G := zg_at (i := 1019) (by decide +kernel) (by decide +kernel)
theorem ze_X10_unitsOf : Cond.selects yX10_unitsOf.cls yX10_unitsOf yX10_unitsOf ∈ zx_G := zg_at (i := 29) (by decide +kernel) (by decide +kernel)
theorem zc_10_146 : zcV 10 146 yX10_unitsOf 2 := ⟨_, rfl, zg_at (i := 1017) (by decide +kernel) (by decide +kernel), zi_X10_unitsOf, ze_X10_unitsOf, zn_X10, zp_X10_unitsOf⟩
theorem zp_X10_fill : zcP yX10_fill 0 := ⟨by decide +kernel, by decide +kernel, by decide +kernel⟩
theorem zi_X10_fill : Cond.instanceMethod yX10_fill ∈ zx_G := zg_at (i := 1015) (by decide +kernel) (by decide +kernel)
theorem ze_X10_fill : Cond.selects yX10_fill.cls yX10_fill yX10_fill ∈ zx_G := zg_at (i := 28) (by decide +kernel) (by decide +kernel)
theorem zc_10_149 : zcV 10 149 yX10_fill 0 := ⟨_, rfl, zg_at (i := 1013) (by decide +kernel) (by decide +kernel), zi_X10_fill, ze_X10_fill, zn_X10, zp_X10_fill⟩
theorem zp_X10_draw : zcP yX10_draw 1 := ⟨by decide +kernel, by decide +kernel, by decide +kernel⟩
theorem zi_X10_draw : Cond.instanceMethod yX10_draw ∈ zx_G := zg_at (i := 1023) (by decide +kernel) (by decide +kernel)
theorem ze_X10_draw : Cond.selects yX10_draw.cls yX10_draw yX10_draw ∈ zx_G := zg_at (i := 30) (by decide +kernel) (by decide +kernel)
theorem zc_10_152 : zcV 10 152 yX10_draw 1 := ⟨_, rfl, zg_at (i := 1021) (by decide +kernel) (by decide +kernel), zi_X10_draw, ze_X10_draw, zn_X10, zp_X10_draw⟩
theorem zp_X10_hasBath : zcP yX10_hasBath 2 := ⟨by decide +kernel, by decide +kernel, by decide +kernel⟩
theorem zi_X10_hasBath : Cond.instanceMethod yX10_hasBath ∈ zx_G := zg_at (i := 1031) (by decide +kernel) (by decide +kernel)
theorem ze_X10_hasBath : Cond.selects yX10_hasBath.cls yX10_hasBath yX10_hasBath ∈ zx_G := zg_at (i := 31) (by decide +kernel) (by decide +kernel)
theorem zc_10_162 : zcV 10 162 yX10_hasBath 2 := ⟨_, rfl, zg_at (i := 1029) (by decide +kernel) (by decide +kernel), zi_X10_hasBath, ze_X10_hasBath, zn_X10, zp_X10_hasBath⟩
theorem zp_X10_canGo : zcP yX10_canGo 3 := ⟨by decide +kernel, by decide +kernel, by decide +kernel⟩
theorem zi_X10_canGo : Cond.instanceMethod yX10_canGo ∈ zx_G := zg_at (i := 1071) (by decide +kernel) (by decide +kernel)
theorem ze_X10_canGo : Cond.selects yX10_canGo.cls yX10_canGo yX10_canGo ∈ zx_G := zg_at (i := 36) (by decide +kernel) (by decide +kernel)
theorem zc_10_175 : zcV 10 175 yX10_canGo 3 := ⟨_, rfl, zg_at (i := 1069) (by decide +kernel) (by decide +kernel), zi_X10_canGo, ze_X10_canGo, zn_X10, zp_X10_canGo⟩
theorem zp_X10_chosen : zcP yX10_chosen 4 := ⟨by decide +kernel, by decide +kernel, by decide +kernel⟩
theorem zi_X10_chosen : Cond.instanceMethod yX10_chosen ∈ zx_G := zg_at (i := 1067) (by decide +kernel) (by decide +kernel)
theorem ze_X10_chosen : Cond.selects yX10_chosen.cls yX10_chosen yX10_chosen ∈ zx_G := zg_at (i := 35) (by decide +kernel) (by decide +kernel)
theorem zc_10_187 : zcV 10 187 yX10_chosen 4 := ⟨_, rfl, zg_at (i := 1065) (by decide +kernel) (by decide +kernel), zi_X10_chosen, ze_X10_chosen, zn_X10, zp_X10_chosen⟩
theorem zp_X10_warm : zcP yX10_warm 0 := ⟨by decide +kernel, by decide +kernel, by decide +kernel⟩
theorem zi_X10_warm : Cond.instanceMethod yX10_warm ∈ zx_G := zg_at (i := 1075) (by decide +kernel) (by decide +kernel)
theorem ze_X10_warm : Cond.selects yX10_warm.cls yX10_warm yX10_warm ∈ zx_G := zg_at (i := 37) (by decide +kernel) (by decide +kernel)
theorem zc_10_200 : zcV 10 200 yX10_warm 0 := ⟨_, rfl, zg_at (i := 1073) (by decide +kernel) (by decide +kernel), zi_X10_warm, ze_X10_warm, zn_X10, zp_X10_warm⟩
theorem zp_X10_scoreNow : zcP yX10_scoreNow 0 := ⟨by decide +kernel, by decide +kernel, by decide +kernel⟩
theorem zi_X10_scoreNow : Cond.instanceMethod yX10_scoreNow ∈ zx_G := zg_at (i := 1079) (by decide +kernel) (by decide +kernel)
theorem ze_X10_scoreNow : Cond.selects yX10_scoreNow.cls yX10_scoreNow yX10_scoreNow ∈ zx_G := zg_at (i := 38) (by decide +kernel) (by decide +kernel)
theorem zc_10_203 : zcV 10 203 yX10_scoreNow 0 := ⟨_, rfl, zg_at (i := 1077) (by decide +kernel) (by decide +kernel), zi_X10_scoreNow, ze_X10_scoreNow, zn_X10, zp_X10_scoreNow⟩
theorem zp_X10_lateNow : zcP yX10_lateNow 0 := ⟨by decide +kernel, by decide +kernel, by decide +kernel⟩
theorem zi_X10_lateNow : Cond.instanceMethod yX10_lateNow ∈ zx_G := zg_at (i := 1083) (by decide +kernel) (by decide +kernel)
theorem ze_X10_lateNow : Cond.selects yX10_lateNow.cls yX10_lateNow yX10_lateNow ∈ zx_G := zg_at (i := 39) (by decide +kernel) (by decide +kernel)
theorem zc_10_206 : zcV 10 206 yX10_lateNow 0 := ⟨_, rfl, zg_at (i := 1081) (by decide +kernel) (by decide +kernel), zi_X10_lateNow, ze_X10_lateNow, zn_X10, zp_X10_lateNow⟩
theorem zp_X10_doneNow : zcP yX10_doneNow 0 := ⟨by decide +kernel, by decide +kernel, by decide +kernel⟩
theorem zi_X10_doneNow : Cond.instanceMethod yX10_doneNow ∈ zx_G := zg_at (i := 1087) (by decide +kernel) (by decide +kernel)
theorem ze_X10_doneNow : Cond.selects yX10_doneNow.cls yX10_doneNow yX10_doneNow ∈ zx_G := zg_at (i := 40) (by decide +kernel) (by decide +kernel)
theorem zc_10_209 : zcV 10 209 yX10_doneNow 0 := ⟨_, rfl, zg_at (i := 1085) (by decide +kernel) (by decide +kernel), zi_X10_doneNow, ze_X10_doneNow, zn_X10, zp_X10_doneNow⟩
theorem zp_X10_asTold : zcP yX10_asTold 0 := ⟨by decide +kernel, by decide +kernel, by decide +kernel⟩
theorem zi_X10_asTold : Cond.instanceMethod yX10_asTold ∈ zx_G := zg_at (i := 1059) (by decide +kernel) (by decide +kernel)
theorem ze_X10_asTold : Cond.selects yX10_asTold.cls yX10_asTold yX10_asTold ∈ zx_G := zg_at (i := 33) (by decide +kernel) (by decide +kernel)
theorem zc_10_212 : zcV 10 212 yX10_asTold 0 := ⟨_, rfl, zg_at (i := 1057) (by decide +kernel) (by decide +kernel), zi_X10_asTold, ze_X10_asTold, zn_X10, zp_X10_asTold⟩
theorem zp_X10_goThrough : zcP yX10_goThrough 3 := ⟨by decide +kernel, by decide +kernel, by decide +kernel⟩
theorem zi_X10_goThrough : Cond.instanceMethod yX10_goThrough ∈ zx_G := zg_at (i := 1063) (by decide +kernel) (by decide +kernel)
theorem ze_X10_goThrough : Cond.selects yX10_goThrough.cls yX10_goThrough yX10_goThrough ∈ zx_G := zg_at (i := 34) (by decide +kernel) (by decide +kernel)
theorem zc_10_215 : zcV 10 215 yX10_goThrough 3 := ⟨_, rfl, zg_at (i := 1061) (by decide +kernel) (by decide +kernel), zi_X10_goThrough, ze_X10_goThrough, zn_X10, zp_X10_goThrough⟩
theorem zp_X10_isRule : zcP yX10_isRule 1 := ⟨by decide +kernel, by decide +kernel, by decide +kernel⟩
theorem zs_X10_isRule : Cond.static yX10_isRule ∈ zx_G := zg_at (i := 1051) (by decide +kernel) (by decide +kernel)
theorem zc_10_219 : zcS 10 219 yX10_isRule 1 := ⟨_, rfl, zg_at (i := 1050) (by decide +kernel) (by decide +kernel), zs_X10_isRule, zn_X10, zp_X10_isRule⟩
theorem zp_X10_scoreOf : zcP yX10_scoreOf 1 := ⟨by decide +kernel, by decide +kernel, by decide +kernel⟩
theorem zi_X10_scoreOf : Cond.instanceMethod yX10_scoreOf ∈ zx_G := zg_at (i := 1055) (by decide +kernel) (by decide +kernel)
theorem ze_X10_scoreOf : Cond.selects yX10_scoreOf.cls yX10_scoreOf yX10_scoreOf ∈ zx_G := zg_at (i := 32) (by decide +kernel) (by decide +kernel)
theorem zc_10_222 : zcV 10 222 yX10_scoreOf 1 := ⟨_, rfl, zg_at (i := 1053) (by decide +kernel) (by decide +kernel), zi_X10_scoreOf, ze_X10_scoreOf, zn_X10, zp_X10_scoreOf⟩
theorem zp_X10_turns : zcP yX10_turns 0 := ⟨by decide +kernel, by decide +kernel, by decide +kernel⟩
theorem zi_X10_turns : Cond.instanceMethod yX10_turns ∈ zx_G := zg_at (i := 1103) (by decide +kernel) (by decide +kernel)
theorem ze_X10_turns : Cond.selects yX10_turns.cls yX10_turns yX10_turns ∈ zx_G := zg_at (i := 41) (by decide +kernel) (by decide +kernel)
theorem zc_10_226 : zcV 10 226 yX10_turns 0 := ⟨_, rfl, zg_at (i := 1101) (by decide +kernel) (by decide +kernel), zi_X10_turns, ze_X10_turns, zn_X10, zp_X10_turns⟩
theorem zp_X10_change : zcP yX10_change 1 := ⟨by decide +kernel, by decide +kernel, by decide +kernel⟩
theorem zi_X10_change : Cond.instanceMethod yX10_change ∈ zx_G := zg_at (i := 1111) (by decide +kernel) (by decide +kernel)
theorem ze_X10_change : Cond.selects yX10_change.cls yX10_change yX10_change ∈ zx_G := zg_at (i := 42) (by decide +kernel) (by decide +kernel)
theorem zc_10_229 : zcV 10 229 yX10_change 1 := ⟨_, rfl, zg_at (i := 1109) (by decide +kernel) (by decide +kernel), zi_X10_change, ze_X10_change, zn_X10, zp_X10_change⟩
theorem zp_X10_isNobodyLate : zcP yX10_isNobodyLate 2 := ⟨by decide +kernel, by decide +kernel, by decide +kernel⟩
theorem zi_X10_isNobodyLate : Cond.instanceMethod yX10_isNobodyLate ∈ zx_G := zg_at (i := 1123) (by decide +kernel) (by decide +kernel)
theorem ze_X10_isNobodyLate : Cond.selects yX10_isNobodyLate.cls yX10_isNobodyLate yX10_isNobodyLate ∈ zx_G := zg_at (i := 43) (by decide +kernel) (by decide +kernel)
theorem zc_10_232 : zcV 10 232 yX10_isNobodyLate 2 := ⟨_, rfl, zg_at (i := 1121) (by decide +kernel) (by decide +kernel), zi_X10_isNobodyLate, ze_X10_isNobodyLate, zn_X10, zp_X10_isNobodyLate⟩
theorem zp_X10_grief : zcP yX10_grief 1 := ⟨by decide +kernel, by decide +kernel, by decide +kernel⟩
theorem zi_X10_grief : Cond.instanceMethod yX10_grief ∈ zx_G := zg_at (i := 1147) (by decide +kernel) (by decide +kernel)
theorem ze_X10_grief : Cond.selects yX10_grief.cls yX10_grief yX10_grief ∈ zx_G := zg_at (i := 44) (by decide +kernel) (by decide +kernel)
theorem zc_10_236 : zcV 10 236 yX10_grief 1 := ⟨_, rfl, zg_at (i := 1145) (by decide +kernel) (by decide +kernel), zi_X10_grief, ze_X10_grief, zn_X10, zp_X10_grief⟩
set_option maxRecDepth 20000 in
theorem gd_X0_init : zx_good mm_X0_init := ⟨by decide +kernel, zg_at (i := 277) (by decide +kernel) (by decide +kernel), by decide +kernel, rfl, by decide⟩
set_option maxRecDepth 20000 in
theorem gd_X0_become : zx_good mm_X0_become := ⟨by decide +kernel, zg_at (i := 605) (by decide +kernel) (by decide +kernel), by decide +kernel, rfl, by decide⟩
set_option maxRecDepth 20000 in
theorem gd_X0_copyRowTo : zx_good mm_X0_copyRowTo := ⟨by decide +kernel, zg_at (i := 717) (by decide +kernel) (by decide +kernel), by decide +kernel, rfl, by decide⟩
set_option maxRecDepth 20000 in
theorem gd_X0_rowByNumbers : zx_good mm_X0_rowByNumbers := ⟨by decide +kernel, zg_at (i := 713) (by decide +kernel) (by decide +kernel), by decide +kernel, rfl, by decide⟩
set_option maxRecDepth 20000 in
theorem gd_X0_changePlaces : zx_good mm_X0_changePlaces := ⟨by decide +kernel, zg_at (i := 726) (by decide +kernel) (by decide +kernel), by decide +kernel, rfl, by decide⟩
set_option maxRecDepth 20000 in
theorem gd_X0_nextRow : zx_good mm_X0_nextRow := ⟨by decide +kernel, zg_at (i := 722) (by decide +kernel) (by decide +kernel), by decide +kernel, rfl, by decide⟩
set_option maxRecDepth 20000 in
theorem gd_X0_placeInRow : zx_good mm_X0_placeInRow := ⟨by decide +kernel, zg_at (i := 645) (by decide +kernel) (by decide +kernel), by decide +kernel, rfl, by decide⟩
set_option maxRecDepth 20000 in
theorem gd_X0_plansFor : zx_good mm_X0_plansFor := ⟨by decide +kernel, zg_at (i := 633) (by decide +kernel) (by decide +kernel), by decide +kernel, rfl, by decide⟩
set_option maxRecDepth 20000 in
theorem gd_X0_tapsAt : zx_good mm_X0_tapsAt := ⟨by decide +kernel, zg_at (i := 673) (by decide +kernel) (by decide +kernel), by decide +kernel, rfl, by decide⟩
set_option maxRecDepth 20000 in
theorem gd_X0_prefers : zx_good mm_X0_prefers := ⟨by decide +kernel, zg_at (i := 664) (by decide +kernel) (by decide +kernel), by decide +kernel, rfl, by decide⟩
set_option maxRecDepth 20000 in
theorem gd_X1_init : zx_good mm_X1_init := ⟨by decide +kernel, zg_at (i := 361) (by decide +kernel) (by decide +kernel), by decide +kernel, rfl, by decide⟩
set_option maxRecDepth 20000 in
theorem gd_X1_isLeftBy : zx_good mm_X1_isLeftBy := ⟨by decide +kernel, zg_at (i := 654) (by decide +kernel) (by decide +kernel), by decide +kernel, rfl, by decide⟩
set_option maxRecDepth 20000 in
theorem gd_X1_comesFrom : zx_good mm_X1_comesFrom := ⟨by decide +kernel, zg_at (i := 572) (by decide +kernel) (by decide +kernel), by decide +kernel, rfl, by decide⟩
set_option maxRecDepth 20000 in
theorem gd_X2_init : zx_good mm_X2_init := ⟨by decide +kernel, zg_at (i := 99) (by decide +kernel) (by decide +kernel), by decide +kernel, rfl, by decide⟩
set_option maxRecDepth 20000 in
theorem gd_X2_become : zx_good mm_X2_become := ⟨by decide +kernel, zg_at (i := 489) (by decide +kernel) (by decide +kernel), by decide +kernel, rfl, by decide⟩
set_option maxRecDepth 20000 in
theorem gd_X2_becomeLike : zx_good mm_X2_becomeLike := ⟨by decide +kernel, zg_at (i := 757) (by decide +kernel) (by decide +kernel), by decide +kernel, rfl, by decide⟩
set_option maxRecDepth 20000 in
theorem gd_X2_toldOf : zx_good mm_X2_toldOf := ⟨by decide +kernel, zg_at (i := 530) (by decide +kernel) (by decide +kernel), by decide +kernel, rfl, by decide⟩
set_option maxRecDepth 20000 in
theorem gd_X2_isNotInYet : zx_good mm_X2_isNotInYet := ⟨by decide +kernel, zg_at (i := 629) (by decide +kernel) (by decide +kernel), by decide +kernel, rfl, by decide⟩
set_option maxRecDepth 20000 in
theorem gd_X3_init : zx_good mm_X3_init := ⟨by decide +kernel, zg_at (i := 317) (by decide +kernel) (by decide +kernel), by decide +kernel, rfl, by decide⟩
set_option maxRecDepth 20000 in
theorem gd_X3_run : zx_good mm_X3_run := ⟨by decide +kernel, zg_at (i := 616) (by decide +kernel) (by decide +kernel), by decide +kernel, rfl, by decide⟩
set_option maxRecDepth 20000 in
theorem gd_X3_begin : zx_good mm_X3_begin := ⟨by decide +kernel, zg_at (i := 620) (by decide +kernel) (by decide +kernel), by decide +kernel, rfl, by decide⟩
set_option maxRecDepth 20000 in
theorem gd_X3_chosen : zx_good mm_X3_chosen := ⟨by decide +kernel, zg_at (i := 641) (by decide +kernel) (by decide +kernel), by decide +kernel, rfl, by decide⟩
set_option maxRecDepth 20000 in
theorem gd_X3_can : zx_good mm_X3_can := ⟨by decide +kernel, zg_at (i := 650) (by decide +kernel) (by decide +kernel), by decide +kernel, rfl, by decide⟩
set_option maxRecDepth 20000 in
theorem gd_X3_goesIn : zx_good mm_X3_goesIn := ⟨by decide +kernel, zg_at (i := 668) (by decide +kernel) (by decide +kernel), by decide +kernel, rfl, by decide⟩
set_option maxRecDepth 20000 in
theorem gd_X4_init : zx_good mm_X4_init := ⟨by decide +kernel, zg_at (i := 343) (by decide +kernel) (by decide +kernel), by decide +kernel, rfl, by decide⟩
set_option maxRecDepth 20000 in
theorem gd_X4_begin : zx_good mm_X4_begin := ⟨by decide +kernel, zg_at (i := 625) (by decide +kernel) (by decide +kernel), by decide +kernel, rfl, by decide⟩
set_option maxRecDepth 20000 in
theorem gd_X4_makeUp : zx_good mm_X4_makeUp := ⟨by decide +kernel, zg_at (i := 637) (by decide +kernel) (by decide +kernel), by decide +kernel, rfl, by decide⟩
set_option maxRecDepth 20000 in
theorem gd_X4_gives : zx_good mm_X4_gives := ⟨by decide +kernel, zg_at (i := 679) (by decide +kernel) (by decide +kernel), by decide +kernel, rfl, by decide⟩
set_option maxRecDepth 20000 in
theorem gd_X4_getOlder : zx_good mm_X4_getOlder := ⟨by decide +kernel, zg_at (i := 691) (by decide +kernel) (by decide +kernel), by decide +kernel, rfl, by decide⟩
set_option maxRecDepth 20000 in
theorem gd_X5_init : zx_good mm_X5_init := ⟨by decide +kernel, zg_at (i := 92) (by decide +kernel) (by decide +kernel), by decide +kernel, rfl, by decide⟩
set_option maxRecDepth 20000 in
theorem gd_X5_clear : zx_good mm_X5_clear := ⟨by decide +kernel, zg_at (i := 177) (by decide +kernel) (by decide +kernel), by decide +kernel, rfl, by decide⟩
set_option maxRecDepth 20000 in
theorem gd_X5_becomeLike : zx_good mm_X5_becomeLike := ⟨by decide +kernel, zg_at (i := 752) (by decide +kernel) (by decide +kernel), by decide +kernel, rfl, by decide⟩
set_option maxRecDepth 20000 in
theorem gd_X5_grow : zx_good mm_X5_grow := ⟨by decide +kernel, zg_at (i := 761) (by decide +kernel) (by decide +kernel), by decide +kernel, rfl, by decide⟩
set_option maxRecDepth 20000 in
theorem gd_X5_who : zx_good mm_X5_who := ⟨by decide +kernel, zg_at (i := 498) (by decide +kernel) (by decide +kernel), by decide +kernel, rfl, by decide⟩
set_option maxRecDepth 20000 in
theorem gd_X5_allComeAsTold : zx_good mm_X5_allComeAsTold := ⟨by decide +kernel, zg_at (i := 612) (by decide +kernel) (by decide +kernel), by decide +kernel, rfl, by decide⟩
set_option maxRecDepth 20000 in
theorem gd_X5_takes : zx_good mm_X5_takes := ⟨by decide +kernel, zg_at (i := 464) (by decide +kernel) (by decide +kernel), by decide +kernel, rfl, by decide⟩
set_option maxRecDepth 20000 in
theorem gd_X5_takesTank : zx_good mm_X5_takesTank := ⟨by decide +kernel, zg_at (i := 468) (by decide +kernel) (by decide +kernel), by decide +kernel, rfl, by decide⟩
set_option maxRecDepth 20000 in
theorem gd_X5_takesStage : zx_good mm_X5_takesStage := ⟨by decide +kernel, zg_at (i := 481) (by decide +kernel) (by decide +kernel), by decide +kernel, rfl, by decide⟩
set_option maxRecDepth 20000 in
theorem gd_X5_takesBather : zx_good mm_X5_takesBather := ⟨by decide +kernel, zg_at (i := 485) (by decide +kernel) (by decide +kernel), by decide +kernel, rfl, by decide⟩
set_option maxRecDepth 20000 in
theorem gd_X5_takesPair : zx_good mm_X5_takesPair := ⟨by decide +kernel, zg_at (i := 494) (by decide +kernel) (by decide +kernel), by decide +kernel, rfl, by decide⟩
set_option maxRecDepth 20000 in
theorem gd_X5_takesKettle : zx_good mm_X5_takesKettle := ⟨by decide +kernel, zg_at (i := 507) (by decide +kernel) (by decide +kernel), by decide +kernel, rfl, by decide⟩
set_option maxRecDepth 20000 in
theorem gd_X5_takesNumber : zx_good mm_X5_takesNumber := ⟨by decide +kernel, zg_at (i := 511) (by decide +kernel) (by decide +kernel), by decide +kernel, rfl, by decide⟩
set_option maxRecDepth 20000 in
theorem gd_X5_scoreOfEvening : zx_good mm_X5_scoreOfEvening := ⟨by decide +kernel, zg_at (i := 695) (by decide +kernel) (by decide +kernel), by decide +kernel, rfl, by decide⟩
set_option maxRecDepth 20000 in
theorem gd_X6_init : zx_good mm_X6_init := ⟨by decide +kernel, zg_at (i := 72) (by decide +kernel) (by decide +kernel), by decide +kernel, rfl, by decide⟩
set_option maxRecDepth 20000 in
theorem gd_X6_readFrom : zx_good mm_X6_readFrom := ⟨by decide +kernel, zg_at (i := 460) (by decide +kernel) (by decide +kernel), by decide +kernel, rfl, by decide⟩
set_option maxRecDepth 20000 in
theorem gd_X6_number : zx_good mm_X6_number := ⟨by decide +kernel, zg_at (i := 476) (by decide +kernel) (by decide +kernel), by decide +kernel, rfl, by decide⟩
set_option maxRecDepth 20000 in
theorem gd_X6_isWithin : zx_good mm_X6_isWithin := ⟨by decide +kernel, zg_at (i := 472) (by decide +kernel) (by decide +kernel), by decide +kernel, rfl, by decide⟩
set_option maxRecDepth 20000 in
theorem gd_X6_isOneWithin : zx_good mm_X6_isOneWithin := ⟨by decide +kernel, zg_at (i := 515) (by decide +kernel) (by decide +kernel), by decide +kernel, rfl, by decide⟩
set_option maxRecDepth 20000 in
theorem gd_X6_isPairOf : zx_good mm_X6_isPairOf := ⟨by decide +kernel, zg_at (i := 502) (by decide +kernel) (by decide +kernel), by decide +kernel, rfl, by decide⟩
set_option maxRecDepth 20000 in
theorem gd_X7_init : zx_good mm_X7_init := ⟨by decide +kernel, zg_at (i := 323) (by decide +kernel) (by decide +kernel), by decide +kernel, rfl, by decide⟩
set_option maxRecDepth 20000 in
theorem gd_X7_fill : zx_good mm_X7_fill := ⟨by decide +kernel, zg_at (i := 538) (by decide +kernel) (by decide +kernel), by decide +kernel, rfl, by decide⟩
set_option maxRecDepth 20000 in
theorem gd_X7_holds : zx_good mm_X7_holds := ⟨by decide +kernel, zg_at (i := 548) (by decide +kernel) (by decide +kernel), by decide +kernel, rfl, by decide⟩
set_option maxRecDepth 20000 in
theorem gd_X7_unitsIn : zx_good mm_X7_unitsIn := ⟨by decide +kernel, zg_at (i := 564) (by decide +kernel) (by decide +kernel), by decide +kernel, rfl, by decide⟩
set_option maxRecDepth 20000 in
theorem gd_X7_heatOf : zx_good mm_X7_heatOf := ⟨by decide +kernel, zg_at (i := 659) (by decide +kernel) (by decide +kernel), by decide +kernel, rfl, by decide⟩
set_option maxRecDepth 20000 in
theorem gd_X7_unitsOfPart : zx_good mm_X7_unitsOfPart := ⟨by decide +kernel, zg_at (i := 560) (by decide +kernel) (by decide +kernel), by decide +kernel, rfl, by decide⟩
set_option maxRecDepth 20000 in
theorem gd_X7_unitsOfTop : zx_good mm_X7_unitsOfTop := ⟨by decide +kernel, zg_at (i := 552) (by decide +kernel) (by decide +kernel), by decide +kernel, rfl, by decide⟩
set_option maxRecDepth 20000 in
theorem gd_X7_draw : zx_good mm_X7_draw := ⟨by decide +kernel, zg_at (i := 556) (by decide +kernel) (by decide +kernel), by decide +kernel, rfl, by decide⟩
set_option maxRecDepth 20000 in
theorem gd_X7_pintsFor : zx_good mm_X7_pintsFor := ⟨by decide +kernel, zg_at (i := 576) (by decide +kernel) (by decide +kernel), by decide +kernel, rfl, by decide⟩
set_option maxRecDepth 20000 in
theorem gd_X7_warm : zx_good mm_X7_warm := ⟨by decide +kernel, zg_at (i := 683) (by decide +kernel) (by decide +kernel), by decide +kernel, rfl, by decide⟩
set_option maxRecDepth 20000 in
theorem gd_X7_lose : zx_good mm_X7_lose := ⟨by decide +kernel, zg_at (i := 687) (by decide +kernel) (by decide +kernel), by decide +kernel, rfl, by decide⟩
set_option maxRecDepth 20000 in
theorem gd_X8_init : zx_good mm_X8_init := ⟨by decide +kernel, zg_at (i := 246) (by decide +kernel) (by decide +kernel), by decide +kernel, rfl, by decide⟩
set_option maxRecDepth 20000 in
theorem gd_X8_clear : zx_good mm_X8_clear := ⟨by decide +kernel, zg_at (i := 251) (by decide +kernel) (by decide +kernel), by decide +kernel, rfl, by decide⟩
set_option maxRecDepth 20000 in
theorem gd_X8_becomeLike : zx_good mm_X8_becomeLike := ⟨by decide +kernel, zg_at (i := 798) (by decide +kernel) (by decide +kernel), by decide +kernel, rfl, by decide⟩
set_option maxRecDepth 20000 in
theorem gd_X8_sumOfTenths : zx_good mm_X8_sumOfTenths := ⟨by decide +kernel, zg_at (i := 778) (by decide +kernel) (by decide +kernel), by decide +kernel, rfl, by decide⟩
set_option maxRecDepth 20000 in
theorem gd_X9_init : zx_good mm_X9_init := ⟨by decide +kernel, zg_at (i := 64) (by decide +kernel) (by decide +kernel), by decide +kernel, rfl, by decide⟩
set_option maxRecDepth 20000 in
theorem gd_X9_write : zx_good mm_X9_write := ⟨by decide +kernel, zg_at (i := 447) (by decide +kernel) (by decide +kernel), by decide +kernel, rfl, by decide⟩
set_option maxRecDepth 20000 in
theorem gd_X9_wipe : zx_good mm_X9_wipe := ⟨by decide +kernel, zg_at (i := 451) (by decide +kernel) (by decide +kernel), by decide +kernel, rfl, by decide⟩
set_option maxRecDepth 20000 in
theorem gd_X9_fault : zx_good mm_X9_fault := ⟨by decide +kernel, zg_at (i := 455) (by decide +kernel) (by decide +kernel), by decide +kernel, rfl, by decide⟩
set_option maxRecDepth 20000 in
theorem gd_X9_lay : zx_good mm_X9_lay := ⟨by decide +kernel, zg_at (i := 519) (by decide +kernel) (by decide +kernel), by decide +kernel, rfl, by decide⟩
set_option maxRecDepth 20000 in
theorem gd_X9_bather : zx_good mm_X9_bather := ⟨by decide +kernel, zg_at (i := 525) (by decide +kernel) (by decide +kernel), by decide +kernel, rfl, by decide⟩
set_option maxRecDepth 20000 in
theorem gd_X9_drawn : zx_good mm_X9_drawn := ⟨by decide +kernel, zg_at (i := 534) (by decide +kernel) (by decide +kernel), by decide +kernel, rfl, by decide⟩
set_option maxRecDepth 20000 in
theorem gd_X9_bath : zx_good mm_X9_bath := ⟨by decide +kernel, zg_at (i := 568) (by decide +kernel) (by decide +kernel), by decide +kernel, rfl, by decide⟩
set_option maxRecDepth 20000 in
theorem gd_X9_row : zx_good mm_X9_row := ⟨by decide +kernel, zg_at (i := 581) (by decide +kernel) (by decide +kernel), by decide +kernel, rfl, by decide⟩
set_option maxRecDepth 20000 in
theorem gd_X9_hot : zx_good mm_X9_hot := ⟨by decide +kernel, zg_at (i := 585) (by decide +kernel) (by decide +kernel), by decide +kernel, rfl, by decide⟩
set_option maxRecDepth 20000 in
theorem gd_X9_plan : zx_good mm_X9_plan := ⟨by decide +kernel, zg_at (i := 589) (by decide +kernel) (by decide +kernel), by decide +kernel, rfl, by decide⟩
set_option maxRecDepth 20000 in
theorem gd_X9_evening : zx_good mm_X9_evening := ⟨by decide +kernel, zg_at (i := 594) (by decide +kernel) (by decide +kernel), by decide +kernel, rfl, by decide⟩
set_option maxRecDepth 20000 in
theorem gd_X9_score : zx_good mm_X9_score := ⟨by decide +kernel, zg_at (i := 700) (by decide +kernel) (by decide +kernel), by decide +kernel, rfl, by decide⟩
set_option maxRecDepth 20000 in
theorem gd_X9_left : zx_good mm_X9_left := ⟨by decide +kernel, zg_at (i := 704) (by decide +kernel) (by decide +kernel), by decide +kernel, rfl, by decide⟩
set_option maxRecDepth 20000 in
theorem gd_X9_best : zx_good mm_X9_best := ⟨by decide +kernel, zg_at (i := 709) (by decide +kernel) (by decide +kernel), by decide +kernel, rfl, by decide⟩
set_option maxRecDepth 20000 in
theorem gd_X9_swapped : zx_good mm_X9_swapped := ⟨by decide +kernel, zg_at (i := 730) (by decide +kernel) (by decide +kernel), by decide +kernel, rfl, by decide⟩
set_option maxRecDepth 20000 in
theorem gd_X9_when : zx_good mm_X9_when := ⟨by decide +kernel, zg_at (i := 736) (by decide +kernel) (by decide +kernel), by decide +kernel, rfl, by decide⟩
set_option maxRecDepth 20000 in
theorem gd_X9_fewest : zx_good mm_X9_fewest := ⟨by decide +kernel, zg_at (i := 740) (by decide +kernel) (by decide +kernel), by decide +kernel, rfl, by decide⟩
set_option maxRecDepth 20000 in
theorem gd_X9_bigger : zx_good mm_X9_bigger := ⟨by decide +kernel, zg_at (i := 748) (by decide +kernel) (by decide +kernel), by decide +kernel, rfl, by decide⟩
set_option maxRecDepth 20000 in
theorem gd_X9_tap : zx_good mm_X9_tap := ⟨by decide +kernel, zg_at (i := 766) (by decide +kernel) (by decide +kernel), by decide +kernel, rfl, by decide⟩
set_option maxRecDepth 20000 in
theorem gd_X9_tenths : zx_good mm_X9_tenths := ⟨by decide +kernel, zg_at (i := 770) (by decide +kernel) (by decide +kernel), by decide +kernel, rfl, by decide⟩
set_option maxRecDepth 20000 in
theorem gd_X9_told : zx_good mm_X9_told := ⟨by decide +kernel, zg_at (i := 774) (by decide +kernel) (by decide +kernel), by decide +kernel, rfl, by decide⟩
set_option maxRecDepth 20000 in
theorem gd_X9_looks : zx_good mm_X9_looks := ⟨by decide +kernel, zg_at (i := 786) (by decide +kernel) (by decide +kernel), by decide +kernel, rfl, by decide⟩
set_option maxRecDepth 20000 in
theorem gd_X9_keep : zx_good mm_X9_keep := ⟨by decide +kernel, zg_at (i := 794) (by decide +kernel) (by decide +kernel), by decide +kernel, rfl, by decide⟩
set_option maxRecDepth 20000 in
theorem gd_X9_back : zx_good mm_X9_back := ⟨by decide +kernel, zg_at (i := 803) (by decide +kernel) (by decide +kernel), by decide +kernel, rfl, by decide⟩
set_option maxRecDepth 20000 in
theorem gd_X9_count : zx_good mm_X9_count := ⟨by decide +kernel, zg_at (i := 807) (by decide +kernel) (by decide +kernel), by decide +kernel, rfl, by decide⟩
set_option maxRecDepth 20000 in
theorem gd_X9_isRule : zx_good mm_X9_isRule := ⟨by decide +kernel, zg_at (i := 597) (by decide +kernel) (by decide +kernel), by decide +kernel, rfl, by decide⟩
set_option maxRecDepth 20000 in
theorem gd_X9_ask : zx_good mm_X9_ask := ⟨by decide +kernel, zg_at (i := 601) (by decide +kernel) (by decide +kernel), by decide +kernel, rfl, by decide⟩
set_option maxRecDepth 20000 in
theorem gd_X9_nobodyLate : zx_good mm_X9_nobodyLate := ⟨by decide +kernel, zg_at (i := 744) (by decide +kernel) (by decide +kernel), by decide +kernel, rfl, by decide⟩
set_option maxRecDepth 20000 in
theorem gd_X9_sumToldAt : zx_good mm_X9_sumToldAt := ⟨by decide +kernel, zg_at (i := 782) (by decide +kernel) (by decide +kernel), by decide +kernel, rfl, by decide⟩
set_option maxRecDepth 20000 in
theorem gd_X9_bestToCome : zx_good mm_X9_bestToCome := ⟨by decide +kernel, zg_at (i := 790) (by decide +kernel) (by decide +kernel), by decide +kernel, rfl, by decide⟩
set_option maxRecDepth 20000 in
theorem gd_X10_init : zx_good mm_X10_init := ⟨by decide +kernel, zg_at (i := 818) (by decide +kernel) (by decide +kernel), by decide +kernel, rfl, by decide⟩
set_option maxRecDepth 20000 in
theorem gd_X10_firstHouse : zx_good mm_X10_firstHouse := ⟨by decide +kernel, zg_at (i := 822) (by decide +kernel) (by decide +kernel), by decide +kernel, rfl, by decide⟩
set_option maxRecDepth 20000 in
theorem gd_X10_layDown : zx_good mm_X10_layDown := ⟨by decide +kernel, zg_at (i := 826) (by decide +kernel) (by decide +kernel), by decide +kernel, rfl, by decide⟩
set_option maxRecDepth 20000 in
theorem gd_X10_in : zx_good mm_X10_in := ⟨by decide +kernel, zg_at (i := 943) (by decide +kernel) (by decide +kernel), by decide +kernel, rfl, by decide⟩
set_option maxRecDepth 20000 in
theorem gd_X10_write : zx_good mm_X10_write := ⟨by decide +kernel, zg_at (i := 940) (by decide +kernel) (by decide +kernel), by decide +kernel, rfl, by decide⟩
set_option maxRecDepth 20000 in
theorem gd_X10_wipe : zx_good mm_X10_wipe := ⟨by decide +kernel, zg_at (i := 948) (by decide +kernel) (by decide +kernel), by decide +kernel, rfl, by decide⟩
set_option maxRecDepth 20000 in
theorem gd_X10_byteNow : zx_good mm_X10_byteNow := ⟨by decide +kernel, zg_at (i := 964) (by decide +kernel) (by decide +kernel), by decide +kernel, rfl, by decide⟩
set_option maxRecDepth 20000 in
theorem gd_X10_isNumber : zx_good mm_X10_isNumber := ⟨by decide +kernel, zg_at (i := 972) (by decide +kernel) (by decide +kernel), by decide +kernel, rfl, by decide⟩
set_option maxRecDepth 20000 in
theorem gd_X10_isPut : zx_good mm_X10_isPut := ⟨by decide +kernel, zg_at (i := 968) (by decide +kernel) (by decide +kernel), by decide +kernel, rfl, by decide⟩
set_option maxRecDepth 20000 in
theorem gd_X10_isBather : zx_good mm_X10_isBather := ⟨by decide +kernel, zg_at (i := 980) (by decide +kernel) (by decide +kernel), by decide +kernel, rfl, by decide⟩
set_option maxRecDepth 20000 in
theorem gd_X10_isPair : zx_good mm_X10_isPair := ⟨by decide +kernel, zg_at (i := 984) (by decide +kernel) (by decide +kernel), by decide +kernel, rfl, by decide⟩
set_option maxRecDepth 20000 in
theorem gd_X10_isFire : zx_good mm_X10_isFire := ⟨by decide +kernel, zg_at (i := 976) (by decide +kernel) (by decide +kernel), by decide +kernel, rfl, by decide⟩
set_option maxRecDepth 20000 in
theorem gd_X10_isItem : zx_good mm_X10_isItem := ⟨by decide +kernel, zg_at (i := 960) (by decide +kernel) (by decide +kernel), by decide +kernel, rfl, by decide⟩
set_option maxRecDepth 20000 in
theorem gd_X10_isRead : zx_good mm_X10_isRead := ⟨by decide +kernel, zg_at (i := 956) (by decide +kernel) (by decide +kernel), by decide +kernel, rfl, by decide⟩
set_option maxRecDepth 20000 in
theorem gd_X10_fault : zx_good mm_X10_fault := ⟨by decide +kernel, zg_at (i := 952) (by decide +kernel) (by decide +kernel), by decide +kernel, rfl, by decide⟩
set_option maxRecDepth 20000 in
theorem gd_X10_lay : zx_good mm_X10_lay := ⟨by decide +kernel, zg_at (i := 988) (by decide +kernel) (by decide +kernel), by decide +kernel, rfl, by decide⟩
set_option maxRecDepth 20000 in
theorem gd_X10_many : zx_good mm_X10_many := ⟨by decide +kernel, zg_at (i := 1000) (by decide +kernel) (by decide +kernel), by decide +kernel, rfl, by decide⟩
set_option maxRecDepth 20000 in
theorem gd_X10_isBatherOf : zx_good mm_X10_isBatherOf := ⟨by decide +kernel, zg_at (i := 996) (by decide +kernel) (by decide +kernel), by decide +kernel, rfl, by decide⟩
set_option maxRecDepth 20000 in
theorem gd_X10_of : zx_good mm_X10_of := ⟨by decide +kernel, zg_at (i := 1004) (by decide +kernel) (by decide +kernel), by decide +kernel, rfl, by decide⟩
set_option maxRecDepth 20000 in
theorem gd_X10_bather : zx_good mm_X10_bather := ⟨by decide +kernel, zg_at (i := 992) (by decide +kernel) (by decide +kernel), by decide +kernel, rfl, by decide⟩
set_option maxRecDepth 20000 in
theorem gd_X10_holds : zx_good mm_X10_holds := ⟨by decide +kernel, zg_at (i := 1012) (by decide +kernel) (by decide +kernel), by decide +kernel, rfl, by decide⟩
set_option maxRecDepth 20000 in
theorem gd_X10_fill : zx_good mm_X10_fill := ⟨by decide +kernel, zg_at (i := 1016) (by decide +kernel) (by decide +kernel), by decide +kernel, rfl, by decide⟩
set_option maxRecDepth 20000 in
theorem gd_X10_unitsOf : zx_good mm_X10_unitsOf := ⟨by decide +kernel, zg_at (i := 1020) (by decide +kernel) (by decide +kernel), by decide +kernel, rfl, by decide⟩
set_option maxRecDepth 20000 in
theorem gd_X10_draw : zx_good mm_X10_draw := ⟨by decide +kernel, zg_at (i := 1024) (by decide +kernel) (by decide +kernel), by decide +kernel, rfl, by decide⟩
set_option maxRecDepth 20000 in
theorem gd_X10_drawn : zx_good mm_X10_drawn := ⟨by decide +kernel, zg_at (i := 1008) (by decide +kernel) (by decide +kernel), by decide +kernel, rfl, by decide⟩
set_option maxRecDepth 20000 in
theorem gd_X10_hasBath : zx_good mm_X10_hasBath := ⟨by decide +kernel, zg_at (i := 1032) (by decide +kernel) (by decide +kernel), by decide +kernel, rfl, by decide⟩
set_option maxRecDepth 20000 in
theorem gd_X10_bath : zx_good mm_X10_bath := ⟨by decide +kernel, zg_at (i := 1028) (by decide +kernel) (by decide +kernel), by decide +kernel, rfl, by decide⟩
set_option maxRecDepth 20000 in
theorem gd_X10_row : zx_good mm_X10_row := ⟨by decide +kernel, zg_at (i := 1036) (by decide +kernel) (by decide +kernel), by decide +kernel, rfl, by decide⟩
set_option maxRecDepth 20000 in
theorem gd_X10_hot : zx_good mm_X10_hot := ⟨by decide +kernel, zg_at (i := 1040) (by decide +kernel) (by decide +kernel), by decide +kernel, rfl, by decide⟩
set_option maxRecDepth 20000 in
theorem gd_X10_plan : zx_good mm_X10_plan := ⟨by decide +kernel, zg_at (i := 1044) (by decide +kernel) (by decide +kernel), by decide +kernel, rfl, by decide⟩
set_option maxRecDepth 20000 in
theorem gd_X10_isRule : zx_good mm_X10_isRule := ⟨by decide +kernel, zg_at (i := 1052) (by decide +kernel) (by decide +kernel), by decide +kernel, rfl, by decide⟩
set_option maxRecDepth 20000 in
theorem gd_X10_canGo : zx_good mm_X10_canGo := ⟨by decide +kernel, zg_at (i := 1072) (by decide +kernel) (by decide +kernel), by decide +kernel, rfl, by decide⟩
set_option maxRecDepth 20000 in
theorem gd_X10_chosen : zx_good mm_X10_chosen := ⟨by decide +kernel, zg_at (i := 1068) (by decide +kernel) (by decide +kernel), by decide +kernel, rfl, by decide⟩
set_option maxRecDepth 20000 in
theorem gd_X10_warm : zx_good mm_X10_warm := ⟨by decide +kernel, zg_at (i := 1076) (by decide +kernel) (by decide +kernel), by decide +kernel, rfl, by decide⟩
set_option maxRecDepth 20000 in
theorem gd_X10_goThrough : zx_good mm_X10_goThrough := ⟨by decide +kernel, zg_at (i := 1064) (by decide +kernel) (by decide +kernel), by decide +kernel, rfl, by decide⟩
set_option maxRecDepth 20000 in
theorem gd_X10_lateNow : zx_good mm_X10_lateNow := ⟨by decide +kernel, zg_at (i := 1084) (by decide +kernel) (by decide +kernel), by decide +kernel, rfl, by decide⟩
set_option maxRecDepth 20000 in
theorem gd_X10_doneNow : zx_good mm_X10_doneNow := ⟨by decide +kernel, zg_at (i := 1088) (by decide +kernel) (by decide +kernel), by decide +kernel, rfl, by decide⟩
set_option maxRecDepth 20000 in
theorem gd_X10_scoreNow : zx_good mm_X10_scoreNow := ⟨by decide +kernel, zg_at (i := 1080) (by decide +kernel) (by decide +kernel), by decide +kernel, rfl, by decide⟩
set_option maxRecDepth 20000 in
theorem gd_X10_asTold : zx_good mm_X10_asTold := ⟨by decide +kernel, zg_at (i := 1060) (by decide +kernel) (by decide +kernel), by decide +kernel, rfl, by decide⟩
set_option maxRecDepth 20000 in
theorem gd_X10_scoreOf : zx_good mm_X10_scoreOf := ⟨by decide +kernel, zg_at (i := 1056) (by decide +kernel) (by decide +kernel), by decide +kernel, rfl, by decide⟩
set_option maxRecDepth 20000 in
theorem gd_X10_evening : zx_good mm_X10_evening := ⟨by decide +kernel, zg_at (i := 1049) (by decide +kernel) (by decide +kernel), by decide +kernel, rfl, by decide⟩
set_option maxRecDepth 20000 in
theorem gd_X10_score : zx_good mm_X10_score := ⟨by decide +kernel, zg_at (i := 1092) (by decide +kernel) (by decide +kernel), by decide +kernel, rfl, by decide⟩
set_option maxRecDepth 20000 in
theorem gd_X10_left : zx_good mm_X10_left := ⟨by decide +kernel, zg_at (i := 1096) (by decide +kernel) (by decide +kernel), by decide +kernel, rfl, by decide⟩
set_option maxRecDepth 20000 in
theorem gd_X10_turns : zx_good mm_X10_turns := ⟨by decide +kernel, zg_at (i := 1104) (by decide +kernel) (by decide +kernel), by decide +kernel, rfl, by decide⟩
set_option maxRecDepth 20000 in
theorem gd_X10_best : zx_good mm_X10_best := ⟨by decide +kernel, zg_at (i := 1100) (by decide +kernel) (by decide +kernel), by decide +kernel, rfl, by decide⟩
set_option maxRecDepth 20000 in
theorem gd_X10_change : zx_good mm_X10_change := ⟨by decide +kernel, zg_at (i := 1112) (by decide +kernel) (by decide +kernel), by decide +kernel, rfl, by decide⟩
set_option maxRecDepth 20000 in
theorem gd_X10_swapped : zx_good mm_X10_swapped := ⟨by decide +kernel, zg_at (i := 1108) (by decide +kernel) (by decide +kernel), by decide +kernel, rfl, by decide⟩
set_option maxRecDepth 20000 in
theorem gd_X10_when : zx_good mm_X10_when := ⟨by decide +kernel, zg_at (i := 1116) (by decide +kernel) (by decide +kernel), by decide +kernel, rfl, by decide⟩
set_option maxRecDepth 20000 in
theorem gd_X10_isNobodyLate : zx_good mm_X10_isNobodyLate := ⟨by decide +kernel, zg_at (i := 1124) (by decide +kernel) (by decide +kernel), by decide +kernel, rfl, by decide⟩
set_option maxRecDepth 20000 in
theorem gd_X10_fewest : zx_good mm_X10_fewest := ⟨by decide +kernel, zg_at (i := 1120) (by decide +kernel) (by decide +kernel), by decide +kernel, rfl, by decide⟩
set_option maxRecDepth 20000 in
theorem gd_X10_bigger : zx_good mm_X10_bigger := ⟨by decide +kernel, zg_at (i := 1128) (by decide +kernel) (by decide +kernel), by decide +kernel, rfl, by decide⟩
set_option maxRecDepth 20000 in
theorem gd_X10_tap : zx_good mm_X10_tap := ⟨by decide +kernel, zg_at (i := 1132) (by decide +kernel) (by decide +kernel), by decide +kernel, rfl, by decide⟩
set_option maxRecDepth 20000 in
theorem gd_X10_tenths : zx_good mm_X10_tenths := ⟨by decide +kernel, zg_at (i := 1136) (by decide +kernel) (by decide +kernel), by decide +kernel, rfl, by decide⟩
set_option maxRecDepth 20000 in
theorem gd_X10_told : zx_good mm_X10_told := ⟨by decide +kernel, zg_at (i := 1140) (by decide +kernel) (by decide +kernel), by decide +kernel, rfl, by decide⟩
set_option maxRecDepth 20000 in
theorem gd_X10_grief : zx_good mm_X10_grief := ⟨by decide +kernel, zg_at (i := 1148) (by decide +kernel) (by decide +kernel), by decide +kernel, rfl, by decide⟩
set_option maxRecDepth 20000 in
theorem gd_X10_looks : zx_good mm_X10_looks := ⟨by decide +kernel, zg_at (i := 1144) (by decide +kernel) (by decide +kernel), by decide +kernel, rfl, by decide⟩
set_option maxRecDepth 20000 in
theorem gd_X10_keep : zx_good mm_X10_keep := ⟨by decide +kernel, zg_at (i := 1152) (by decide +kernel) (by decide +kernel), by decide +kernel, rfl, by decide⟩
set_option maxRecDepth 20000 in
theorem gd_X10_back : zx_good mm_X10_back := ⟨by decide +kernel, zg_at (i := 1156) (by decide +kernel) (by decide +kernel), by decide +kernel, rfl, by decide⟩
set_option maxRecDepth 20000 in
theorem gd_X10_count : zx_good mm_X10_count := ⟨by decide +kernel, zg_at (i := 1160) (by decide +kernel) (by decide +kernel), by decide +kernel, rfl, by decide⟩
set_option maxRecDepth 20000 in
theorem gd_J13_bitCount_95d88 : zx_good mm_J13_bitCount_95d88 := ⟨by decide +kernel, zg_at (i := 810) (by decide +kernel) (by decide +kernel), by decide +kernel, rfl, by decide⟩
end
section
/-! rules of fields, arrays, making, answers, entry -/
def zx_pv (t : Nat) (i : Int32) (l : Int64) (r : Option Nat) : Value := if t = 1 then .long l else if t = 2 then va_rf r else .int i
theorem zx_v_pv (ad : Nat → Nat) (I : Nat → Int32) (L : Nat → Int64) (R : Nat → Option Nat) (t k : Nat) : zx_v ad I L R t k = zx_rl ad (zx_pv t (I k) (L k) (R k)) := by
  unfold zx_v zx_pv
  by_cases h1 : t = 1
  · simp [h1, zx_rl]
  · by_cases h2 : t = 2
    · simp [h2, zx_rl_rf]
    · simp [h1, h2, zx_rl]
theorem zx_pv_ok {n t : Nat} {i : Int32} {l : Int64} {r : Option Nat} (h : ∀ j, r = some j → j < n) : zx_ok n (zx_pv t i l r) := by
  unfold zx_pv
  by_cases h1 : t = 1
  · simp [h1, zx_ok]
  · by_cases h2 : t = 2
    · simp only [h2]
      cases hr : r with
      | none => trivial
      | some j => exact h j hr
    · simp [h1, h2, zx_ok]
def zx_uI (I : zx_I) (a k : Nat) (v : Int32) : zx_I := fun x y => if x = a then (if y = k then v else I x y) else I x y
def zx_uL (I : zx_L) (a k : Nat) (v : Int64) : zx_L := fun x y => if x = a then (if y = k then v else I x y) else I x y
def zx_uR (I : zx_R) (a k : Nat) (v : Option Nat) : zx_R := fun x y => if x = a then (if y = k then v else I x y) else I x y
theorem zx_uI_ne {I : zx_I} {a k b : Nat} {v : Int32} (h : b ≠ a) : zx_uI I a k v b = I b := by funext y; simp [zx_uI, h]
theorem zx_uL_ne {I : zx_L} {a k b : Nat} {v : Int64} (h : b ≠ a) : zx_uL I a k v b = I b := by funext y; simp [zx_uL, h]
theorem zx_uR_ne {I : zx_R} {a k b : Nat} {v : Option Nat} (h : b ≠ a) : zx_uR I a k v b = I b := by funext y; simp [zx_uR, h]
theorem zx_uI_at {I : zx_I} {a k : Nat} {v : Int32} : zx_uI I a k v a = upd (I a) k v := by funext y; simp [zx_uI, upd]
theorem zx_uL_at {I : zx_L} {a k : Nat} {v : Int64} : zx_uL I a k v a = vp_updL (I a) k v := by funext y; simp [zx_uL, vp_updL]
theorem zx_uR_at {I : zx_R} {a k : Nat} {v : Option Nat} : zx_uR I a k v a = va_up (I a) k v := by funext y; simp [zx_uR, va_up]
theorem zx_W_put {cA : Nat → ClassId} {ad : Nat → Nat} {S : zx_S} {I I' : zx_I} {L L' : zx_L} {R R' : zx_R} {a ci n k t : Nat} (hs : S[a]? = some (ci, n)) (hci : ci < 100) (ht : (zt_T.getD ci [])[k]? = some t) (ho : ∀ b, b ≠ a → I' b = I b ∧ L' b = L b ∧ R' b = R b) (hr : ∀ j, j ≠ k → I' a j = I a j ∧ L' a j = L a j ∧ R' a j = R a j) :
    zx_W cA ad S I' L' R' = (zx_W cA ad S I L R).set a (ad a, .inr (ci, (zx_fs ad (I a) (L a) (R a) (zt_T.getD ci []) 0).set k (zx_v ad (I' a) (L' a) (R' a) t k))) := by
  rw [zx_W_set hs ho]
  have h1 : zx_e cA ad (I' a) (L' a) (R' a) (ci, n) = .inr (ci, zx_fs ad (I' a) (L' a) (R' a) (zt_T.getD ci []) 0) := if_pos hci
  rw [h1, zx_fs_set ht (fun j u hj _ => by
    obtain ⟨e1, e2, e3⟩ := hr j hj
    unfold zx_v
    rw [e1, e2, e3])]
/-- a class's own field link is no nest mate's -/
def zfoF (oc idx ci k : Nat) : Prop := ∃ (own C : String) (T : u_T) (N : Nat) (ty : Nat → FieldType), zt_own[oc]? = some own ∧ zk_C ci C T N ty ∧ k < N ∧ Cond.fieldLink own idx C (T k).2.1 (T k).2.2.1 ∈ zx_G
def zl_own (w : Option Cond) : Bool := match w with
  | some (.fieldLink _ _ _ _ _) => true
  | _ => false
def zl_chkF (oc : Nat) (q : Nat × Nat × Nat × Nat) : Bool := zl_chk oc q && (!decide (q.2.1 = oc) || zl_own lw_tbl[q.2.2.2]?)
def zl_allF : List (List (Nat × Nat × Nat × Nat)) → Nat → Bool
  | [], _ => true
  | r :: l, i => r.all (zl_chkF i) && zl_allF l (i + 1)
set_option maxRecDepth 20000 in
theorem zl_F_okF : zl_allF zl_F 0 = true := by decide +kernel
theorem zl_allF_at : ∀ (l : List (List (Nat × Nat × Nat × Nat))) (i j : Nat), zl_allF l i = true → ∀ q ∈ l.getD j [], zl_chkF (i + j) q = true
  | [], i, j, _, q, hq => by simp at hq
  | r :: l, i, 0, h, q, hq => by
    simp only [zl_allF, Bool.and_eq_true] at h
    exact List.all_eq_true.mp h.1 q (by simpa using hq)
  | r :: l, i, j + 1, h, q, hq => by
    simp only [zl_allF, Bool.and_eq_true] at h
    rw [show i + (j + 1) = i + 1 + j by omega]
    exact zl_allF_at l (i + 1) j h.2 q (by simpa using hq)
theorem zfF_ok {oc idx ci k : Nat} (h : zfl oc idx = some (ci, k)) (hco : ci = oc) : zfoF oc idx ci k := by
  obtain ⟨p, hp⟩ := zl_fgo_mem _ _ _ _ h
  have hc := zl_allF_at zl_F 0 oc zl_F_okF _ hp
  rw [Nat.zero_add] at hc
  unfold zl_chkF at hc
  simp only [Bool.and_eq_true] at hc
  obtain ⟨hc, hc2⟩ := hc
  simp only [hco, decide_true, Bool.not_true, Bool.false_or] at hc2
  unfold zl_chk at hc
  dsimp only at hc
  cases h1 : zt_own[oc]? with
  | none => rw [h1] at hc; simp at hc
  | some own =>
    cases h2 : vwCl[ci]? with
    | none => rw [h1, h2] at hc; simp at hc
    | some q =>
      obtain ⟨C, T, N⟩ := q
      cases h3 : lw_tbl[p]? with
      | none => rw [h1, h2, h3] at hc; simp at hc
      | some w =>
        rw [h1, h2, h3] at hc
        rw [h3] at hc2
        simp only [Bool.and_eq_true, Bool.or_eq_true, decide_eq_true_eq] at hc
        obtain ⟨hk, hw⟩ := hc
        obtain ⟨ty, hty⟩ := zk_all h2
        refine ⟨own, C, T, N, ty, h1, hty, hk, ?_⟩
        rcases hw with ⟨rfl, hg⟩ | hw
        · exact zg_at h3 hg
        · unfold zl_nst at hw
          unfold zl_own at hc2
          split at hw
          · simp at hc2
          · cases hw
def zx_fin (ci k : Nat) : Bool := match vwCl[ci]? with
  | some (_, T, _) => (T k).2.2.2
  | none => true
def zx_may (M : zx_M) (ci k : Nat) : Bool := !zx_fin ci k || (decide (M.1.name = "<init>") && decide (ci = M.2.2.2.2.1))
theorem zx_S_lt {S : zx_S} {a : Nat} {q : Nat × Nat} (h : S[a]? = some q) : a < S.length := (List.getElem?_eq_some_iff.mp h).1
section
variable {M : zx_M} {d : Nat} {b : zx_B} {Q : zx_Qt} {S : zx_S} {pc : Nat} {lo : List (Option Value)} {st : List Value} {I : zx_I} {L : zx_L} {R : zx_R}
theorem zv_get {idx a ci k t n : Nat} (hd : (pc, .getfield idx, 3) ∈ M.2.2.2.2.2) (hf : zfo M.2.2.2.2.1 idx ci k) (hs : S[a]? = some (ci, n)) (ht : (zt_T.getD ci [])[k]? = some t) (kk : zx_V M d b Q S (pc + 3) lo (zx_pv t (I a k) (L a k) (R a k) :: st) I L R) : zx_V M d b Q S pc lo (.ref a :: st) I L R := by
  intro p l e s m args below meth c D cA A ad0 ad n0 H locs ls hg hC hX hS hA hl hol hos hn0 had
  have h9 := hg.1 _ hd
  obtain ⟨own, C, T, N, ty, ho, hk, hkN, hw⟩ := hf
  have hown : own = M.1.cls := Option.some.inj (ho.symm.trans hg.2.2.2.1)
  subst hown
  have he := zx_W_get (cA := cA) (ad := ad) (I := I) (L := L) (R := R) hs
  have hfs : zx_e cA ad (I a) (L a) (R a) (ci, n) = .inr (ci, zx_fs ad (I a) (L a) (R a) (zt_T.getD ci []) 0) := if_pos hk.2.2.2.2.2.1
  rw [hfs] at he
  have hv : (zx_fs ad (I a) (L a) (R a) (zt_T.getD ci []) 0)[k]? = some (zx_rl ad (zx_pv t (I a k) (L a k) (R a k))) := by rw [zx_fs_get, ht]; simp [zx_v_pv]
  have h8 := kk p l e s m args below meth c D cA A ad0 ad n0 H locs ls hg hC hX hS hA hl hol (zo_c (zx_pv_ok (fun j hj => hX.2.2.2.2 a k j hj)) (zo_t hos)) hn0 had
  have hC1 := hk.2.2.2.2.2.2.2.1 k hkN
  have hsame : ∀ x, s.fieldFound? (T k).1 (T k).2.1 (T k).2.2.1 = some x → s.fieldFound? C (T k).2.1 (T k).2.2.1 = some x := by rw [hC1]; exact fun _ h => h
  rcases hw with hw | ⟨h, hw⟩
  · exact va_get (D := D) hC.1 hC.2.1 hC.2.2.2.2.2.1 hk.2.1 hC.2.2.2.2.1 hX.2.2.1 hX.1 a he hk.1 k hkN (hC.2.2.2.2.2.1 _ hw) hsame hv h9 h8
  · exact va_getN (D := D) hC.1 hC.2.1 hC.2.2.2.2.2.1 hk.2.1 hC.2.2.2.2.1 hX.2.2.1 hX.1 a he hk.1 k hkN (va_Nw.use rfl (hX.2.2.2.1 _ hw)) hsame hv h9 h8
/-- a write into a field, of any kind -/
theorem zv_put {idx a ci k t n : Nat} {v : Value} {I' : zx_I} {L' : zx_L} {R' : zx_R} (hd : (pc, .putfield idx, 3) ∈ M.2.2.2.2.2) (hf : zfo M.2.2.2.2.1 idx ci k) (hs : S[a]? = some (ci, n)) (ht : (zt_T.getD ci [])[k]? = some t) (hm : zx_may M ci k = true) (hF : zx_fin ci k = true → zfoF M.2.2.2.2.1 idx ci k)
    (hv : v = zx_pv t (I' a k) (L' a k) (R' a k)) (hb : t = 3 → I' a k = 0 ∨ I' a k = 1)
    (ho : ∀ b, b ≠ a → I' b = I b ∧ L' b = L b ∧ R' b = R b) (hr : ∀ j, j ≠ k → I' a j = I a j ∧ L' a j = L a j ∧ R' a j = R a j) (hR : ∀ i, R' a k = some i → R a k = some i ∨ v = .ref i)
    (kk : zx_V M d b Q S (pc + 3) lo st I' L' R') : zx_V M d b Q S pc lo (v :: .ref a :: st) I L R := by
  intro p l e s m args below meth c D cA A ad0 ad n0 H locs ls hg hC hX hS hA hl hol hos hn0 had
  have h9 := hg.1 _ hd
  obtain ⟨own, C, T, N, ty, hw0, hk, hkN, hw⟩ := hf
  have hown : own = M.1.cls := Option.some.inj (hw0.symm.trans hg.2.2.2.1)
  subst hown
  have he := zx_W_get (cA := cA) (ad := ad) (I := I) (L := L) (R := R) hs
  have hfs : zx_e cA ad (I a) (L a) (R a) (ci, n) = .inr (ci, zx_fs ad (I a) (L a) (R a) (zt_T.getD ci []) 0) := if_pos hk.2.2.2.2.2.1
  rw [hfs] at he
  have htc : t = zk_code (ty k) := Option.some.inj (ht.symm.trans (hk.2.2.2.2.1 k hkN))
  have hval : zx_rl ad v = zx_v ad (I' a) (L' a) (R' a) t k := by rw [zx_v_pv, hv]
  have hnf : narrow (ty k) (zx_rl ad v) = zx_rl ad v ∧ fits (ty k) (zx_rl ad v) = true := by
    rw [hval]
    unfold zx_v
    rcases hk.2.2.2.2.2.2.2.2 k hkN with h | h | h | h
    · rw [htc, h]; exact ⟨rfl, rfl⟩
    · rw [htc, h]; exact ⟨rfl, rfl⟩
    · have h3 : t = 3 := by rw [htc, h]; rfl
      rcases hb h3 with h5 | h5
      · rw [htc, h, h5]; exact (by decide : narrow .boolean (Value.int 0) = Value.int 0 ∧ fits .boolean (Value.int 0) = true)
      · rw [htc, h, h5]; exact (by decide : narrow .boolean (Value.int 1) = Value.int 1 ∧ fits .boolean (Value.int 1) = true)
    · have h2 : t = 2 := by rw [htc, h]
      have h4 : ∃ w, ty k = .object w ∨ ∃ w, ty k = .array w := by
        cases hty : ty k with
        | object w => exact ⟨w, Or.inl rfl⟩
        | array w => exact ⟨"", Or.inr ⟨w, rfl⟩⟩
        | _ => rw [hty] at h; exact absurd h (by decide)
      rw [h2, if_neg (by decide), if_pos rfl]
      obtain ⟨w, h4 | ⟨w, h4⟩⟩ := h4 <;> rw [h4] <;> cases R' a k <;> exact ⟨rfl, rfl⟩
  have hlen : k < (zx_fs ad (I a) (L a) (R a) (zt_T.getD ci []) 0).length := by rw [zx_fs_len, hk.2.2.2.2.2.2.1]; exact hkN
  have hC1 := hk.2.2.2.2.2.2.2.1 k hkN
  have hsame : ∀ x, s.fieldFound? (T k).1 (T k).2.1 (T k).2.2.1 = some x → s.fieldFound? C (T k).2.1 (T k).2.2.1 = some x := by rw [hC1]; exact fun _ h => h
  have hwf : ∀ x y j, R' x y = some j → j < S.length := by
    intro x y j hj
    by_cases hx : x = a
    · subst hx
      by_cases hy : y = k
      · subst hy
        rcases hR j hj with h | h
        · exact hX.2.2.2.2 _ _ j h
        · have := zo_h hos
          rw [h] at this
          exact this
      · rw [(hr y hy).2.2] at hj
        exact hX.2.2.2.2 _ _ j hj
    · rw [(ho x hx).2.2] at hj
      exact hX.2.2.2.2 _ _ j hj
  have hset : (zx_W cA ad S I L R).set a (ad a, .inr (ci, (zx_fs ad (I a) (L a) (R a) (zt_T.getD ci []) 0).set k (zx_rl ad v))) = zx_W cA ad S I' L' R' := by rw [hval]; exact (zx_W_put hs hk.2.2.2.2.2.1 ht ho hr).symm
  have h8 : ∀ (H1 : Heap) (locs1 : List Loc), va_P D vwCl ((zx_W cA ad S I L R).set a (ad a, .inr (ci, (zx_fs ad (I a) (L a) (R a) (zt_T.getD ci []) 0).set k (zx_rl ad v)))) H1 → va_D A ((zx_W cA ad S I L R).set a (ad a, .inr (ci, (zx_fs ad (I a) (L a) (R a) (zt_T.getD ci []) 0).set k (zx_rl ad v)))) → va_S A s.heap H1 locs1 → W p l e (zx_rm d b.2.2.1 b.2.2.2) s m args below meth c H1 locs1 b.1 b.2.1 (MQ below (zx_Q D cA A ad0 n0 Q) args s b.2.2.1 b.2.2.2 A) (F0 m (pc + 3) ls (st.map (zx_rl ad))) := by
    intro H1 locs1 g1 g2 g3
    rw [hset] at g1 g2
    exact kk p l e s m args below meth c D cA A ad0 ad n0 H1 locs1 ls hg hC ⟨g1, g2, hX.2.2.1, hX.2.2.2.1, hwf⟩ g3 hA hl hol (zo_t (zo_t hos)) hn0 had
  have hcl : zx_fin ci k = (T k).2.2.2 := by unfold zx_fin; rw [hk.1]
  by_cases hfin : (T k).2.2.2 = true
  · have hq : M.1.name = "<init>" ∧ ci = M.2.2.2.2.1 := by
      unfold zx_may at hm
      rw [hcl, hfin] at hm
      simpa using hm
    have hCo : C = M.1.cls := by
      have h1 : vwCl[M.2.2.2.2.1]? = some (C, T, N) := by rw [← hq.2]; exact hk.1
      have hlt : M.2.2.2.2.1 < 11 := (List.getElem?_eq_some_iff.mp h1).1
      have h2 := hg.2.2.2.1
      generalize M.2.2.2.2.1 = o at h1 h2 hlt
      have h3 : zt_own[o]? = (vwCl[o]?).map (fun q => q.1) := by
        match o, hlt with
        | 0, _ => rfl
        | 1, _ => rfl
        | 2, _ => rfl
        | 3, _ => rfl
        | 4, _ => rfl
        | 5, _ => rfl
        | 6, _ => rfl
        | 7, _ => rfl
        | 8, _ => rfl
        | 9, _ => rfl
        | 10, _ => rfl
        | n + 11, h => exact absurd h (by omega)
      rw [h1] at h3
      exact Option.some.inj (h3.symm.trans h2)
    obtain ⟨own', C', T', N', ty', f1, f2, f3, f4⟩ := hF (by rw [hcl]; exact hfin)
    have e1 : own' = M.1.cls := Option.some.inj (f1.symm.trans hw0)
    have e2 : (C', T', N') = (C, T, N) := Option.some.inj (f2.1.symm.trans hk.1)
    cases e2
    subst e1
    exact va_putF (D := D) hC.1 hC.2.1 hC.2.2.2.2.2.1 hk.2.1 ty hk.2.2.1 hk.2.2.2.1 hC.2.2.2.2.1 hX.2.2.1 hX.1 hX.2.1 hS a he hk.1 k hkN (hC.2.2.2.2.2.1 _ f4) hsame hfin (by rw [hC.2.2.2.2.2.2.2]; exact hq.1) (hC1.trans hCo) (hk.2.2.1 k hkN) hnf.1 hnf.2 hlen h9 h8
  · have hfin' : (T k).2.2.2 = false := by simpa using hfin
    rcases hw with hw | ⟨h, hw⟩
    · exact va_put (D := D) hC.1 hC.2.1 hC.2.2.2.2.2.1 hk.2.1 ty hk.2.2.1 hk.2.2.2.1 hC.2.2.2.2.1 hX.2.2.1 hX.1 hX.2.1 hS a he hk.1 k hkN (hC.2.2.2.2.2.1 _ hw) hsame hfin' (hk.2.2.1 k hkN) hnf.1 hnf.2 hlen h9 h8
    · exact va_putN (D := D) hC.1 hC.2.1 hC.2.2.2.2.2.1 hk.2.1 ty hk.2.2.1 hk.2.2.2.1 hC.2.2.2.2.1 hX.2.2.1 hX.1 hX.2.1 hS a he hk.1 k hkN (va_Nw.use rfl (hX.2.2.2.1 _ hw)) hsame hfin' (hk.2.2.1 k hkN) hnf.1 hnf.2 hlen h9 h8
/-- the rows of arrays -/
theorem zx_W_arr {cA : Nat → ClassId} {ad : Nat → Nat} {S : zx_S} {I : zx_I} {L : zx_L} {R : zx_R} {a kd n : Nat} (hs : S[a]? = some (kd, n)) (hk : 100 ≤ kd) : (zx_W cA ad S I L R)[a]? = some (ad a, .inl (cA kd, n, zx_row ad (I a) (L a) (R a) kd)) := by
  rw [zx_W_get hs]
  have : ¬ kd < 100 := by omega
  simp [zx_e, this]
theorem zv_iald {a n : Nat} {i : Int32} (hd : (pc, .iaload, 1) ∈ M.2.2.2.2.2) (hs : S[a]? = some (100, n)) (hin : vp_in i n) (kk : zx_V M d b Q S (pc + 1) lo (.int (I a i.toNatClampNeg) :: st) I L R) : zx_V M d b Q S pc lo (.int i :: .ref a :: st) I L R := by
  intro p l e s m args below meth c D cA A ad0 ad n0 H locs ls hg hC hX hS hA hl hol hos hn0 had
  have h9 := hg.1 _ hd
  have h8 := kk p l e s m args below meth c D cA A ad0 ad n0 H locs ls hg hC hX hS hA hl hol (zo_c trivial (zo_t (zo_t hos))) hn0 had
  exact va_iald (D := D) hC.1 hC.2.1 hX.2.2.1 hX.1 a 0 (zx_W_arr hs (by decide)) rfl hin h9 h8
theorem zv_bald {a n : Nat} {i : Int32} (hd : (pc, .baload, 1) ∈ M.2.2.2.2.2) (hs : S[a]? = some (101, n)) (hin : vp_in i n) (kk : zx_V M d b Q S (pc + 1) lo (.int (I a i.toNatClampNeg) :: st) I L R) : zx_V M d b Q S pc lo (.int i :: .ref a :: st) I L R := by
  intro p l e s m args below meth c D cA A ad0 ad n0 H locs ls hg hC hX hS hA hl hol hos hn0 had
  have h9 := hg.1 _ hd
  have h8 := kk p l e s m args below meth c D cA A ad0 ad n0 H locs ls hg hC hX hS hA hl hol (zo_c trivial (zo_t (zo_t hos))) hn0 had
  exact va_bald (D := D) hC.1 hC.2.1 hX.2.2.1 hX.1 a 1 (zx_W_arr hs (by decide)) rfl hin h9 h8
theorem zv_lald {a n : Nat} {i : Int32} (hd : (pc, .laload, 1) ∈ M.2.2.2.2.2) (hs : S[a]? = some (102, n)) (hin : vp_in i n) (kk : zx_V M d b Q S (pc + 1) lo (.long (L a i.toNatClampNeg) :: st) I L R) : zx_V M d b Q S pc lo (.int i :: .ref a :: st) I L R := by
  intro p l e s m args below meth c D cA A ad0 ad n0 H locs ls hg hC hX hS hA hl hol hos hn0 had
  have h9 := hg.1 _ hd
  have h8 := kk p l e s m args below meth c D cA A ad0 ad n0 H locs ls hg hC hX hS hA hl hol (zo_c trivial (zo_t (zo_t hos))) hn0 had
  exact va_lald (D := D) hC.1 hC.2.1 hX.2.2.1 hX.1 a 2 (zx_W_arr hs (by decide)) rfl hin h9 h8
theorem zv_aald {a n kd : Nat} {i : Int32} (hd : (pc, .aaload, 1) ∈ M.2.2.2.2.2) (hs : S[a]? = some (kd, n)) (hkd : kd = 103 ∨ kd = 104) (hin : vp_in i n) (kk : zx_V M d b Q S (pc + 1) lo (va_rf (R a i.toNatClampNeg) :: st) I L R) : zx_V M d b Q S pc lo (.int i :: .ref a :: st) I L R := by
  intro p l e s m args below meth c D cA A ad0 ad n0 H locs ls hg hC hX hS hA hl hol hos hn0 had
  have h9 := hg.1 _ hd
  have hok : zx_ok S.length (va_rf (R a i.toNatClampNeg)) := by
    cases hr : R a i.toNatClampNeg with
    | none => trivial
    | some j => exact hX.2.2.2.2 _ _ j hr
  have h8 := kk p l e s m args below meth c D cA A ad0 ad n0 H locs ls hg hC hX hS hA hl hol (zo_c hok (zo_t (zo_t hos))) hn0 had
  rw [List.map_cons, zx_rl_rf] at h8
  rcases hkd with rfl | rfl
  · exact va_aldq (D := D) hC.1 hC.2.1 hX.2.2.1 hX.1 a 3 (zx_W_arr hs (by decide)) rfl hin h9 h8
  · exact va_aldq (D := D) hC.1 hC.2.1 hX.2.2.1 hX.1 a 4 (zx_W_arr hs (by decide)) rfl hin h9 h8
theorem zv_alen {a n kd : Nat} (hd : (pc, .arraylength, 1) ∈ M.2.2.2.2.2) (hs : S[a]? = some (kd, n)) (hkd : 100 ≤ kd ∧ kd ≤ 104) (kk : zx_V M d b Q S (pc + 1) lo (.int (Int32.ofNat n) :: st) I L R) : zx_V M d b Q S pc lo (.ref a :: st) I L R := by
  intro p l e s m args below meth c D cA A ad0 ad n0 H locs ls hg hC hX hS hA hl hol hos hn0 had
  have h9 := hg.1 _ hd
  have h8 := kk p l e s m args below meth c D cA A ad0 ad n0 H locs ls hg hC hX hS hA hl hol (zo_c trivial (zo_t hos)) hn0 had
  have ht : ∃ ty, (zx_tys cA)[kd - 100]? = some (cA kd, ty) := by
    rcases (show kd = 100 ∨ kd = 101 ∨ kd = 102 ∨ kd = 103 ∨ kd = 104 by omega) with rfl | rfl | rfl | rfl | rfl <;> exact ⟨_, rfl⟩
  obtain ⟨ty, ht⟩ := ht
  exact va_alen (D := D) hC.1 hC.2.1 hX.2.2.1 hX.1 a (kd - 100) (zx_W_arr hs hkd.1) ht rfl h9 h8
/-- writes into arrays -/
theorem zx_W_aset {cA : Nat → ClassId} {ad : Nat → Nat} {S : zx_S} {I I' : zx_I} {L L' : zx_L} {R R' : zx_R} {a kd n : Nat} (hs : S[a]? = some (kd, n)) (hk : 100 ≤ kd) (ho : ∀ b, b ≠ a → I' b = I b ∧ L' b = L b ∧ R' b = R b) : zx_W cA ad S I' L' R' = (zx_W cA ad S I L R).set a (ad a, .inl (cA kd, n, zx_row ad (I' a) (L' a) (R' a) kd)) := by
  rw [zx_W_set hs ho]
  have : ¬ kd < 100 := by omega
  simp [zx_e, this]
theorem zv_iast {a n : Nat} {i x : Int32} (hd : (pc, .iastore, 1) ∈ M.2.2.2.2.2) (hs : S[a]? = some (100, n)) (hin : vp_in i n) (kk : zx_V M d b Q S (pc + 1) lo st (zx_uI I a i.toNatClampNeg x) L R) : zx_V M d b Q S pc lo (.int x :: .int i :: .ref a :: st) I L R := by
  intro p l e s m args below meth c D cA A ad0 ad n0 H locs ls hg hC hX hS hA hl hol hos hn0 had
  have h9 := hg.1 _ hd
  have hset : zx_W cA ad S (zx_uI I a i.toNatClampNeg x) L R = (zx_W cA ad S I L R).set a (ad a, .inl (cA 100, n, .inl (upd (I a) i.toNatClampNeg x))) := by
    rw [zx_W_aset hs (by decide) (fun b hb => ⟨zx_uI_ne hb, rfl, rfl⟩)]
    rw [show zx_row ad (zx_uI I a i.toNatClampNeg x a) (L a) (R a) 100 = .inl (zx_uI I a i.toNatClampNeg x a) from rfl, zx_uI_at]
  refine va_iast (D := D) hC.1 hC.2.1 hX.2.2.1 hX.1 hX.2.1 hS a 0 (zx_W_arr hs (by decide)) rfl hin h9 (fun H1 locs1 g1 g2 g3 => ?_)
  have g1 : va_P D vwCl ((zx_W cA ad S I L R).set a (ad a, .inl (cA 100, n, .inl (upd (I a) i.toNatClampNeg x)))) H1 := g1
  have g2 : va_D A ((zx_W cA ad S I L R).set a (ad a, .inl (cA 100, n, .inl (upd (I a) i.toNatClampNeg x)))) := g2
  rw [← hset] at g1 g2
  exact kk p l e s m args below meth c D cA A ad0 ad n0 H1 locs1 ls hg hC ⟨g1, g2, hX.2.2.1, hX.2.2.2.1, hX.2.2.2.2⟩ g3 hA hl hol (zo_t (zo_t (zo_t hos))) hn0 had
theorem zv_bast {a n : Nat} {i x : Int32} (hd : (pc, .bastore, 1) ∈ M.2.2.2.2.2) (hs : S[a]? = some (101, n)) (hin : vp_in i n) (kk : zx_V M d b Q S (pc + 1) lo st (zx_uI I a i.toNatClampNeg (vp_nar .byte x)) L R) : zx_V M d b Q S pc lo (.int x :: .int i :: .ref a :: st) I L R := by
  intro p l e s m args below meth c D cA A ad0 ad n0 H locs ls hg hC hX hS hA hl hol hos hn0 had
  have h9 := hg.1 _ hd
  have hset : zx_W cA ad S (zx_uI I a i.toNatClampNeg (vp_nar .byte x)) L R = (zx_W cA ad S I L R).set a (ad a, .inl (cA 101, n, .inl (upd (I a) i.toNatClampNeg (vp_nar .byte x)))) := by
    rw [zx_W_aset hs (by decide) (fun b hb => ⟨zx_uI_ne hb, rfl, rfl⟩)]
    rw [show zx_row ad (zx_uI I a i.toNatClampNeg (vp_nar .byte x) a) (L a) (R a) 101 = .inl (zx_uI I a i.toNatClampNeg (vp_nar .byte x) a) from rfl, zx_uI_at]
  refine va_bast (D := D) hC.1 hC.2.1 hX.2.2.1 hX.1 hX.2.1 hS a 1 (zx_W_arr hs (by decide)) rfl hin h9 (fun H1 locs1 g1 g2 g3 => ?_)
  have g1 : va_P D vwCl ((zx_W cA ad S I L R).set a (ad a, .inl (cA 101, n, .inl (upd (I a) i.toNatClampNeg (vp_nar .byte x))))) H1 := g1
  have g2 : va_D A ((zx_W cA ad S I L R).set a (ad a, .inl (cA 101, n, .inl (upd (I a) i.toNatClampNeg (vp_nar .byte x))))) := g2
  rw [← hset] at g1 g2
  exact kk p l e s m args below meth c D cA A ad0 ad n0 H1 locs1 ls hg hC ⟨g1, g2, hX.2.2.1, hX.2.2.2.1, hX.2.2.2.2⟩ g3 hA hl hol (zo_t (zo_t (zo_t hos))) hn0 had
theorem zv_last {a n : Nat} {i : Int32} {x : Int64} (hd : (pc, .lastore, 1) ∈ M.2.2.2.2.2) (hs : S[a]? = some (102, n)) (hin : vp_in i n) (kk : zx_V M d b Q S (pc + 1) lo st I (zx_uL L a i.toNatClampNeg x) R) : zx_V M d b Q S pc lo (.long x :: .int i :: .ref a :: st) I L R := by
  intro p l e s m args below meth c D cA A ad0 ad n0 H locs ls hg hC hX hS hA hl hol hos hn0 had
  have h9 := hg.1 _ hd
  have hset : zx_W cA ad S I (zx_uL L a i.toNatClampNeg x) R = (zx_W cA ad S I L R).set a (ad a, .inl (cA 102, n, .inr (.inl (vp_updL (L a) i.toNatClampNeg x)))) := by
    rw [zx_W_aset hs (by decide) (fun b hb => ⟨rfl, zx_uL_ne hb, rfl⟩)]
    rw [show zx_row ad (I a) (zx_uL L a i.toNatClampNeg x a) (R a) 102 = .inr (.inl (zx_uL L a i.toNatClampNeg x a)) from rfl, zx_uL_at]
  refine va_last (D := D) hC.1 hC.2.1 hX.2.2.1 hX.1 hX.2.1 hS a 2 (zx_W_arr hs (by decide)) rfl hin h9 (fun H1 locs1 g1 g2 g3 => ?_)
  have g1 : va_P D vwCl ((zx_W cA ad S I L R).set a (ad a, .inl (cA 102, n, .inr (.inl (vp_updL (L a) i.toNatClampNeg x))))) H1 := g1
  have g2 : va_D A ((zx_W cA ad S I L R).set a (ad a, .inl (cA 102, n, .inr (.inl (vp_updL (L a) i.toNatClampNeg x))))) := g2
  rw [← hset] at g1 g2
  exact kk p l e s m args below meth c D cA A ad0 ad n0 H1 locs1 ls hg hC ⟨g1, g2, hX.2.2.1, hX.2.2.2.1, hX.2.2.2.2⟩ g3 hA hl hol (zo_t (zo_t (zo_t hos))) hn0 had
theorem zv_aast {a n kd j ci nn : Nat} {i : Int32} (hd : (pc, .aastore, 1) ∈ M.2.2.2.2.2) (hs : S[a]? = some (kd, n)) (hkd : kd = 103 ∧ ci = 2 ∨ kd = 104 ∧ ci = 8) (hj : S[j]? = some (ci, nn)) (hin : vp_in i n) (kk : zx_V M d b Q S (pc + 1) lo st I L (zx_uR R a i.toNatClampNeg (some j))) : zx_V M d b Q S pc lo (.ref j :: .int i :: .ref a :: st) I L R := by
  intro p l e s m args below meth c D cA A ad0 ad n0 H locs ls hg hC hX hS hA hl hol hos hn0 had
  have h9 := hg.1 _ hd
  have hk100 : 100 ≤ kd := by omega
  have hrow : zx_row ad (I a) (L a) (zx_uR R a i.toNatClampNeg (some j) a) kd = .inr (.inr (.inr (.inr (va_up (fun q => (R a q).map ad) i.toNatClampNeg (some (ad j)))))) := by
    rw [zx_uR_at]
    have hf : (fun q => Option.map ad (va_up (R a) i.toNatClampNeg (some j) q)) = va_up (fun q => (R a q).map ad) i.toNatClampNeg (some (ad j)) := by
      funext q
      by_cases hq : q = i.toNatClampNeg
      · simp [va_up, hq]
      · simp [va_up, hq]
    rw [← hf]
    rcases hkd with ⟨rfl, -⟩ | ⟨rfl, -⟩ <;> rfl
  have hset : zx_W cA ad S I L (zx_uR R a i.toNatClampNeg (some j)) = (zx_W cA ad S I L R).set a (ad a, .inl (cA kd, n, .inr (.inr (.inr (.inr (va_up (fun q => (R a q).map ad) i.toNatClampNeg (some (ad j)))))))) := by
    rw [zx_W_aset hs hk100 (fun b hb => ⟨rfl, rfl, zx_uR_ne hb⟩), hrow]
  have hwf : ∀ x y k, zx_uR R a i.toNatClampNeg (some j) x y = some k → k < S.length := by
    intro x y k hk
    unfold zx_uR at hk
    by_cases hx : x = a
    · rw [if_pos hx] at hk
      by_cases hy : y = i.toNatClampNeg
      · rw [if_pos hy] at hk
        cases hk
        exact (List.getElem?_eq_some_iff.mp hj).1
      · rw [if_neg hy] at hk
        exact hX.2.2.2.2 _ _ k hk
    · rw [if_neg hx] at hk
      exact hX.2.2.2.2 _ _ k hk
  have he := zx_W_get (cA := cA) (ad := ad) (I := I) (L := L) (R := R) hj
  have ha := zx_W_arr (cA := cA) (ad := ad) (I := I) (L := L) (R := R) hs hk100
  have h8 : ∀ (H1 : Heap) (locs1 : List Loc), va_P D vwCl ((zx_W cA ad S I L R).set a (ad a, .inl (cA kd, n, .inr (.inr (.inr (.inr (va_up (fun q => (R a q).map ad) i.toNatClampNeg (some (ad j))))))))) H1 → va_D A ((zx_W cA ad S I L R).set a (ad a, .inl (cA kd, n, .inr (.inr (.inr (.inr (va_up (fun q => (R a q).map ad) i.toNatClampNeg (some (ad j))))))))) → va_S A s.heap H1 locs1 → W p l e (zx_rm d b.2.2.1 b.2.2.2) s m args below meth c H1 locs1 b.1 b.2.1 (MQ below (zx_Q D cA A ad0 n0 Q) args s b.2.2.1 b.2.2.2 A) (F0 m (pc + 1) ls (st.map (zx_rl ad))) := by
    intro H1 locs1 g1 g2 g3
    rw [← hset] at g1 g2
    exact kk p l e s m args below meth c D cA A ad0 ad n0 H1 locs1 ls hg hC ⟨g1, g2, hX.2.2.1, hX.2.2.2.1, hwf⟩ g3 hA hl hol (zo_t (zo_t (zo_t hos))) hn0 had
  rcases hkd with ⟨rfl, rfl⟩ | ⟨rfl, rfl⟩
  · exact va_astq (D := D) (r := (RX2, TX2, 14)) hC.1 hC.2.1 hX.2.2.1 hX.1 hX.2.1 hS a 3 j 2 ha rfl he rfl hin h9 h8
  · exact va_astq (D := D) (r := (RX8, TX8, 4)) hC.1 hC.2.1 hX.2.2.1 hX.1 hX.2.1 hS a 4 j 8 ha rfl he rfl hin h9 h8
end
end
section
/-! rules of making, answers, entry, calls -/
theorem zx_W_ad {cA : Nat → ClassId} {ad ad' : Nat → Nat} {S : zx_S} {I : zx_I} {L : zx_L} {R : zx_R} (h : ∀ i, i < S.length → ad' i = ad i) (hR : ∀ a k j, R a k = some j → j < S.length) : zx_W cA ad' S I L R = zx_W cA ad S I L R := by
  apply List.ext_getElem?
  intro a
  simp only [zx_W, List.getElem?_mapIdx]
  cases hs : S[a]? with
  | none => rfl
  | some sh =>
    simp only [Option.map_some]
    rw [h a (zx_S_lt hs), zx_e_ad (fun k j hj => h j (hR a k j hj))]
theorem zx_W_push {cA : Nat → ClassId} {ad : Nat → Nat} {S : zx_S} {I : zx_I} {L : zx_L} {R : zx_R} {sh : Nat × Nat} : zx_W cA ad (S ++ [sh]) I L R = zx_W cA ad S I L R ++ [(ad S.length, zx_e cA ad (I S.length) (L S.length) (R S.length) sh)] := by
  simp [zx_W, List.mapIdx_concat]
/-- the numbering with a new cell -/
def zx_na (ad : Nat → Nat) (n q : Nat) : Nat → Nat := fun i => if i = n then q else ad i
theorem zx_na_lt {ad : Nat → Nat} {n q i : Nat} (h : i < n) : zx_na ad n q i = ad i := by simp [zx_na, Nat.ne_of_lt h]
theorem zx_na_at {ad : Nat → Nat} {n q : Nat} : zx_na ad n q n = q := by simp [zx_na]
theorem zx_lo_ad {ad ad' : Nat → Nat} {n k : Nat} {lo : List (Option Value)} {ls : Array Slot} (h : zx_lo ad n lo ls) (ho : zx_okl k lo) (ha : ∀ i, i < k → ad' i = ad i) : zx_lo ad' n lo ls := ⟨h.1, h.2.1, h.2.2.1, fun i v hv => by rw [h.2.2.2 i v hv, zx_rl_ad (ho i v hv) ha]⟩
theorem zx_okl_mono {n n' : Nat} {lo : List (Option Value)} (h : zx_okl n lo) (hn : n ≤ n') : zx_okl n' lo := fun i v hv => zx_ok_mono (h i v hv) hn
theorem zx_oks_mono {n n' : Nat} {st : List Value} (h : zx_oks n st) (hn : n ≤ n') : zx_oks n' st := fun v hv => zx_ok_mono (h v hv) hn
/-- a class that can be made, from here -/
def zcN (oc idx ci N : Nat) : Prop := ∃ (own C : String) (T : u_T) (ty : Nat → FieldType), zt_own[oc]? = some own ∧ zk_C ci C T N ty ∧ Cond.classLink own idx C ∈ zx_G ∧ Cond.instantiable C N ∈ zx_G ∧ Cond.initialized C ∈ zx_G
section
variable {M : zx_M} {d : Nat} {b : zx_B} {Q : zx_Qt} {S : zx_S} {pc : Nat} {lo : List (Option Value)} {st : List Value} {I : zx_I} {L : zx_L} {R : zx_R}
theorem zv_new {idx ci N : Nat} (hd : (pc, .new idx, 3) ∈ M.2.2.2.2.2) (hc : zcN M.2.2.2.2.1 idx ci N) (hz : ∀ k, I S.length k = 0 ∧ L S.length k = 0 ∧ R S.length k = none) (hb : b.1 + 1 ≤ b.2.2.1 ∧ b.2.1 + N ≤ b.2.2.2)
    (kk : zx_V M d (b.1 + 1, b.2.1 + N, b.2.2) Q (S ++ [(ci, N)]) (pc + 3) lo (.ref S.length :: st) I L R) : zx_V M d b Q S pc lo st I L R := by
  intro p l e s m args below meth c D cA A ad0 ad n0 H locs ls hg hC hX hS hA hl hol hos hn0 had
  have h9 := hg.1 _ hd
  obtain ⟨own, C, T, ty, hw0, hk, w1, w2, w3⟩ := hc
  have hown : own = M.1.cls := Option.some.inj (hw0.symm.trans hg.2.2.2.1)
  subst hown
  have hfs : ∀ j, j < N → defaultValue (ty j) = vp_V (zx_fs ad (I S.length) (L S.length) (R S.length) (zt_T.getD ci []) 0) j := by
    intro j hj
    have h1 : (zx_fs ad (I S.length) (L S.length) (R S.length) (zt_T.getD ci []) 0)[j]? = some (zx_v ad (I S.length) (L S.length) (R S.length) (zk_code (ty j)) j) := by rw [zx_fs_get, hk.2.2.2.2.1 j hj]; simp
    unfold vp_V
    rw [List.getD_eq_getElem?_getD, h1, Option.getD_some]
    unfold zx_v
    rw [(hz j).1, (hz j).2.1, (hz j).2.2]
    rcases hk.2.2.2.2.2.2.2.2 j hj with h | h | h | h
    · rw [h]; rfl
    · rw [h]; rfl
    · rw [h]; rfl
    · rw [h]
      cases hty : ty j with
      | object w => rfl
      | array w => rfl
      | _ => rw [hty] at h; exact absurd h (by decide)
  refine va_new (D := D) hC.1 hC.2.1 hC.2.2.2.2.2.1 hk.2.1 ty hk.2.2.1 hC.2.2.2.2.1 (hC.2.2.2.2.2.1 _ w1) (hC.2.2.2.2.2.1 _ w2) (hC.2.2.2.2.2.1 _ w3) hX.2.2.1 hX.1 hX.2.1 hS hA hk.1 hfs hb.1 hb.2 h9 (fun q H1 g1 g2 g3 => ?_)
  have e1 : zx_W cA ad S I L R ++ [(q, .inr (ci, zx_fs ad (I S.length) (L S.length) (R S.length) (zt_T.getD ci []) 0))] = zx_W cA (zx_na ad S.length q) (S ++ [(ci, N)]) I L R := by
    rw [zx_W_push, zx_W_ad (ad := ad) (ad' := zx_na ad S.length q) (fun i hi => zx_na_lt hi) hX.2.2.2.2, zx_na_at]
    rw [zx_e_ad (ad := ad) (ad' := zx_na ad S.length q) (fun k j hj => by rw [(hz k).2.2] at hj; cases hj), show zx_e cA ad (I S.length) (L S.length) (R S.length) (ci, N) = .inr (ci, zx_fs ad (I S.length) (L S.length) (R S.length) (zt_T.getD ci []) 0) from if_pos hk.2.2.2.2.2.1]
  rw [e1] at g1 g2
  have hlen : (S ++ [(ci, N)]).length = S.length + 1 := by simp
  have h8 := kk p l e s m args below meth c D cA A ad0 (zx_na ad S.length q) n0 H1 locs ls hg hC ⟨g1, g2, hX.2.2.1, hX.2.2.2.1, fun a k j hj => by rw [hlen]; exact Nat.lt_succ_of_lt (hX.2.2.2.2 a k j hj)⟩ g3 hA (zx_lo_ad hl hol (fun i hi => zx_na_lt hi)) (zx_okl_mono hol (by omega)) (zo_c (by show S.length < _; omega) (zx_oks_mono hos (by omega))) (by omega) (fun i hi => by rw [zx_na_lt (by omega)]; exact had i hi)
  rw [List.map_cons, zo_ad hos (fun i hi => zx_na_lt hi)] at h8
  have e2 : zx_rl (zx_na ad S.length q) (.ref S.length) = .ref q := by simp [zx_rl, zx_na_at]
  rw [e2] at h8
  exact h8
/-- a new array of numbers -/
theorem zv_newarr {at' : ArrayType} {kd t0 : Nat} {n : Int32} {N : Nat} {ty : FieldType} (hd : (pc, .newarray at', 2) ∈ M.2.2.2.2.2) (hty : newarray.typeOf at' = ty) (hcl : Cond.arrayClass ty ∈ zx_G) (hkd : kd = 100 ∧ t0 = 0 ∧ ty = .int ∨ kd = 101 ∧ t0 = 1 ∧ ty = .byte ∨ kd = 102 ∧ t0 = 2 ∧ ty = .long)
    (hz : ∀ k, I S.length k = 0 ∧ L S.length k = 0 ∧ R S.length k = none) (hn : ¬ n < 0) (hN : n.toNatClampNeg = N) (hbig : N ≤ 1000) (hb : b.1 + 1 ≤ b.2.2.1 ∧ b.2.1 + N ≤ b.2.2.2)
    (kk : zx_V M d (b.1 + 1, b.2.1 + N, b.2.2) Q (S ++ [(kd, N)]) (pc + 2) lo (.ref S.length :: st) I L R) : zx_V M d b Q S pc lo (.int n :: st) I L R := by
  intro p l e s m args below meth c D cA A ad0 ad n0 H locs ls hg hC hX hS hA hl hol hos hn0 had
  have h9 := hg.1 _ hd
  have hI : I S.length = fun _ => 0 := funext fun k => (hz k).1
  have hL : L S.length = fun _ => 0 := funext fun k => (hz k).2.1
  have ha : ∀ cA' : ClassId, vp_cell cA' (N, zx_row ad (I S.length) (L S.length) (R S.length) kd) = arrV cA' N (fun _ => defaultValue ty) := by
    intro cA'
    rw [hI, hL]
    rcases hkd with ⟨rfl, -, rfl⟩ | ⟨rfl, -, rfl⟩ | ⟨rfl, -, rfl⟩ <;> rfl
  have hbytes : N * componentBytes ty ≤ 536870912 := by
    rcases hkd with ⟨-, -, rfl⟩ | ⟨-, -, rfl⟩ | ⟨-, -, rfl⟩
    · show N * 4 ≤ _; omega
    · show N * 1 ≤ _; omega
    · show N * 8 ≤ _; omega
  refine va_newa (D := D) (N' := N) hC.1 hC.2.1 (by rw [hty]; exact hC.2.2.2.2.2.1 _ hcl) hty hX.2.2.1 hX.1 hX.2.1 hS hA ha hn hN hbytes hb.1 hb.2 h9 (fun q cA' H1 g0 g1 g2 g3 => ?_)
  have hcA : cA' = cA kd := by
    have r1 := (g0.2 (zx_tys cA).length (cA', ty) (by rw [List.getElem?_append_right (Nat.le_refl _), Nat.sub_self]; rfl)).2
    rcases hkd with ⟨rfl, rfl, rfl⟩ | ⟨rfl, rfl, rfl⟩ | ⟨rfl, rfl, rfl⟩
    · exact Option.some.inj (Eq.symm (Eq.trans (Eq.symm (hX.2.2.1.2 0 _ rfl).2) r1)).symm.symm
    · exact Option.some.inj (Eq.symm (Eq.trans (Eq.symm (hX.2.2.1.2 1 _ rfl).2) r1)).symm.symm
    · exact Option.some.inj (Eq.symm (Eq.trans (Eq.symm (hX.2.2.1.2 2 _ rfl).2) r1)).symm.symm
  subst hcA
  have hk100 : ¬ kd < 100 := by omega
  have e1 : zx_W cA ad S I L R ++ [(q, .inl (cA kd, N, zx_row ad (I S.length) (L S.length) (R S.length) kd))] = zx_W cA (zx_na ad S.length q) (S ++ [(kd, N)]) I L R := by
    rw [zx_W_push, zx_W_ad (ad := ad) (ad' := zx_na ad S.length q) (fun i hi => zx_na_lt hi) hX.2.2.2.2, zx_na_at]
    rw [zx_e_ad (ad := ad) (ad' := zx_na ad S.length q) (fun k j hj => by rw [(hz k).2.2] at hj; cases hj), show zx_e cA ad (I S.length) (L S.length) (R S.length) (kd, N) = .inl (cA kd, N, zx_row ad (I S.length) (L S.length) (R S.length) kd) from if_neg hk100]
  rw [e1] at g1 g2
  have hlen : (S ++ [(kd, N)]).length = S.length + 1 := by simp
  have h8 := kk p l e s m args below meth c D cA A ad0 (zx_na ad S.length q) n0 H1 locs ls hg hC ⟨g1, g2, hX.2.2.1, hX.2.2.2.1, fun a k j hj => by rw [hlen]; exact Nat.lt_succ_of_lt (hX.2.2.2.2 a k j hj)⟩ g3 hA (zx_lo_ad hl hol (fun i hi => zx_na_lt hi)) (zx_okl_mono hol (by omega)) (zo_c (by show S.length < _; omega) (zx_oks_mono (zo_t hos) (by omega))) (by omega) (fun i hi => by rw [zx_na_lt (by omega)]; exact had i hi)
  rw [List.map_cons, zo_ad (zo_t hos) (fun i hi => zx_na_lt hi)] at h8
  have e2 : zx_rl (zx_na ad S.length q) (.ref S.length) = .ref q := by simp [zx_rl, zx_na_at]
  rw [e2] at h8
  exact h8
/-- a new array of references -/
def zcA (oc idx kd : Nat) : Prop := ∃ (own C : String), zt_own[oc]? = some own ∧ Cond.classLink own idx C ∈ zx_G ∧ Cond.arrayOver (.object C) ∈ zx_N ∧ (kd = 103 ∧ C = "BathNight$Bather" ∨ kd = 104 ∧ C = "BathNight$Wishes")
theorem zv_newq {idx kd : Nat} {n : Int32} {N : Nat} (hd : (pc, .anewarray idx, 3) ∈ M.2.2.2.2.2) (hc : zcA M.2.2.2.2.1 idx kd)
    (hz : ∀ k, I S.length k = 0 ∧ L S.length k = 0 ∧ R S.length k = none) (hn : ¬ n < 0) (hN : n.toNatClampNeg = N) (hbig : N ≤ 1000) (hb : b.1 + 1 ≤ b.2.2.1 ∧ b.2.1 + N ≤ b.2.2.2)
    (kk : zx_V M d (b.1 + 1, b.2.1 + N, b.2.2) Q (S ++ [(kd, N)]) (pc + 3) lo (.ref S.length :: st) I L R) : zx_V M d b Q S pc lo (.int n :: st) I L R := by
  intro p l e s m args below meth c D cA A ad0 ad n0 H locs ls hg hC hX hS hA hl hol hos hn0 had
  have h9 := hg.1 _ hd
  obtain ⟨own, C, hw0, w1, w2, hkd⟩ := hc
  have hown : own = M.1.cls := Option.some.inj (hw0.symm.trans hg.2.2.2.1)
  subst hown
  have hR : R S.length = fun _ => none := funext fun k => (hz k).2.2
  refine va_newq (D := D) (N' := N) hC.1 hC.2.1 hC.2.2.2.2.1 (hC.2.2.2.2.2.1 _ w1) (hX.2.2.2.1 _ w2) hX.2.2.1 hX.1 hX.2.1 hS hA hn hN (by omega) hb.1 hb.2 h9 (fun q cA' H1 g0 g1 g2 g3 => ?_)
  have hcA : cA' = cA kd := by
    obtain ⟨-, -, -, -, -, r1⟩ := (g0.2 (zx_tys cA).length (cA', .object C) (by rw [List.getElem?_append_right (Nat.le_refl _), Nat.sub_self]; rfl)).2
    rcases hkd with ⟨rfl, rfl⟩ | ⟨rfl, rfl⟩
    · obtain ⟨-, -, -, -, -, r2⟩ := (hX.2.2.1.2 3 _ rfl).2
      exact Option.some.inj (r1.symm.trans r2)
    · obtain ⟨-, -, -, -, -, r2⟩ := (hX.2.2.1.2 4 _ rfl).2
      exact Option.some.inj (r1.symm.trans r2)
  subst hcA
  have hk100 : ¬ kd < 100 := by omega
  have hrow : zx_row ad (I S.length) (L S.length) (R S.length) kd = .inr (.inr (.inr (.inr (fun _ => none)))) := by
    rw [hR]
    rcases hkd with ⟨rfl, -⟩ | ⟨rfl, -⟩ <;> rfl
  have e1 : zx_W cA ad S I L R ++ [(q, .inl (cA kd, N, .inr (.inr (.inr (.inr (fun _ => none))))))] = zx_W cA (zx_na ad S.length q) (S ++ [(kd, N)]) I L R := by
    rw [zx_W_push, zx_W_ad (ad := ad) (ad' := zx_na ad S.length q) (fun i hi => zx_na_lt hi) hX.2.2.2.2, zx_na_at]
    rw [zx_e_ad (ad := ad) (ad' := zx_na ad S.length q) (fun k j hj => by rw [(hz k).2.2] at hj; cases hj), show zx_e cA ad (I S.length) (L S.length) (R S.length) (kd, N) = .inl (cA kd, N, zx_row ad (I S.length) (L S.length) (R S.length) kd) from if_neg hk100, hrow]
  rw [e1] at g1 g2
  have hlen : (S ++ [(kd, N)]).length = S.length + 1 := by simp
  have h8 := kk p l e s m args below meth c D cA A ad0 (zx_na ad S.length q) n0 H1 locs ls hg hC ⟨g1, g2, hX.2.2.1, hX.2.2.2.1, fun a k j hj => by rw [hlen]; exact Nat.lt_succ_of_lt (hX.2.2.2.2 a k j hj)⟩ g3 hA (zx_lo_ad hl hol (fun i hi => zx_na_lt hi)) (zx_okl_mono hol (by omega)) (zo_c (by show S.length < _; omega) (zx_oks_mono (zo_t hos) (by omega))) (by omega) (fun i hi => by rw [zx_na_lt (by omega)]; exact had i hi)
  rw [List.map_cons, zo_ad (zo_t hos) (fun i hi => zx_na_lt hi)] at h8
  have e2 : zx_rl (zx_na ad S.length q) (.ref S.length) = .ref q := by simp [zx_rl, zx_na_at]
  rw [e2] at h8
  exact h8
/-- answers -/
theorem zx_end {D : va_G} {cA : Nat → ClassId} {A : Nat → Prop} {ad0 ad : Nat → Nat} {n0 : Nat} {args : Array Value} {s t : State} {H : Heap} {locs : List Loc} {r : Option Value} (hX : zx_X D cA A ad S I L R s H) (hS : va_S A s.heap H locs) (hn0 : n0 ≤ S.length) (had : ∀ i, i < n0 → ad i = ad0 i) (hr : ∀ v, r = some v → zx_ok S.length v) (hq : Q r S I L R) (ht : t.heap = H) (hW : s.WarmedH t.vm) : zx_Q D cA A ad0 n0 Q args s (.returned (r.map (zx_rl ad))) t :=
  ⟨⟨r, S, I, L, R, ad, rfl, hq, hn0, had, hr, by rw [ht]; exact hX.1, hX.2.1, va_K.moved hW.alike hX.2.2.1, fun w hw => zx_nw_warm (zg_nest w hw) (hX.2.2.2.1 w hw) hW, hX.2.2.2.2⟩, hS.F ht⟩
theorem zv_iret {v : Int32} (hd : (pc, .ireturn, 1) ∈ M.2.2.2.2.2) (hr : M.2.2.2.1 = some .int) (hb : b.1 ≤ b.2.2.1 ∧ b.2.1 ≤ b.2.2.2) (hq : Q (some (.int v)) S I L R) : zx_V M d b Q S pc lo [.int v] I L R := by
  intro p l e s m args below meth c D cA A ad0 ad n0 H locs ls hg hC hX hS hA hl hol hos hn0 had
  have h9 := hg.1 _ hd
  have hlocks := hC.2.2.2.2.2.2.1
  refine W.widen (k := b.2.2.1) (n := b.2.2.2) hb.1 hb.2 ?_
  exact W.iret hC.1 hC.2.1 (hC.2.2.1.trans hr) (fun t ht hW => zx_end (r := some (.int v)) hX hS hn0 had (fun w hw => by cases hw; trivial) hq ht hW) hS.2.2 h9
theorem zv_zret {v : Int32} (hd : (pc, .ireturn, 1) ∈ M.2.2.2.2.2) (hr : M.2.2.2.1 = some .boolean) (hv : v = 0 ∨ v = 1) (hb : b.1 ≤ b.2.2.1 ∧ b.2.1 ≤ b.2.2.2) (hq : Q (some (.int v)) S I L R) : zx_V M d b Q S pc lo [.int v] I L R := by
  intro p l e s m args below meth c D cA A ad0 ad n0 H locs ls hg hC hX hS hA hl hol hos hn0 had
  have h9 := hg.1 _ hd
  have hlocks := hC.2.2.2.2.2.2.1
  refine W.widen (k := b.2.2.1) (n := b.2.2.2) hb.1 hb.2 ?_
  exact W.zret (ty := .boolean) hC.1 hC.2.1 (hC.2.2.1.trans hr) (by rcases hv with rfl | rfl <;> decide) (fun t ht hW => zx_end (r := some (.int v)) hX hS hn0 had (fun w hw => by cases hw; trivial) hq ht hW) hS.2.2 h9
theorem zv_vret (hd : (pc, .return_, 1) ∈ M.2.2.2.2.2) (hr : M.2.2.2.1 = none) (hb : b.1 ≤ b.2.2.1 ∧ b.2.1 ≤ b.2.2.2) (hq : Q none S I L R) : zx_V M d b Q S pc lo [] I L R := by
  intro p l e s m args below meth c D cA A ad0 ad n0 H locs ls hg hC hX hS hA hl hol hos hn0 had
  have h9 := hg.1 _ hd
  have hlocks := hC.2.2.2.2.2.2.1
  refine W.widen (k := b.2.2.1) (n := b.2.2.2) hb.1 hb.2 ?_
  exact W.vret hC.1 hC.2.1 (hC.2.2.1.trans hr) (fun t ht hW => zx_end (r := none) hX hS hn0 had (fun w hw => by cases hw) hq ht hW) hS.2.2 h9
theorem zv_aret {r : Option Nat} {w : String} (hd : (pc, .areturn, 1) ∈ M.2.2.2.2.2) (hr : M.2.2.2.1 = some (.object w)) (hb : b.1 ≤ b.2.2.1 ∧ b.2.1 ≤ b.2.2.2) (hq : Q (some (va_rf r)) S I L R) : zx_V M d b Q S pc lo [va_rf r] I L R := by
  intro p l e s m args below meth c D cA A ad0 ad n0 H locs ls hg hC hX hS hA hl hol hos hn0 had
  have h9 := hg.1 _ hd
  have hlocks := hC.2.2.2.2.2.2.1
  refine W.widen (k := b.2.2.1) (n := b.2.2.2) hb.1 hb.2 ?_
  have hv : zx_rl ad (va_rf r) = .null ∨ ∃ a, zx_rl ad (va_rf r) = .ref a := by
    cases r with
    | none => exact Or.inl rfl
    | some a => exact Or.inr ⟨ad a, rfl⟩
  exact W.aret hC.1 hC.2.1 (hC.2.2.1.trans hr) (Or.inl ⟨w, rfl⟩) hv (fun t ht hW => zx_end (r := some (va_rf r)) hX hS hn0 had (fun w hw => by cases hw; exact zo_h hos) hq ht hW) hS.2.2 h9
/-- the constructor of Object -/
theorem zv_objInit {idx x : Nat} (hd : (pc, .invokespecial idx, 3) ∈ M.2.2.2.2.2) (hl : Cond.methodLink M.1.cls idx Lib.objectInit ∈ zx_G) (hw : (st.map fun v => v.category).sum ≤ 8) (kk : zx_V M (d + 1) b Q S (pc + 3) lo st I L R) (hi : Cond.instanceMethod Lib.objectInit ∈ zx_G) (hc : Cond.code Lib.objectInit ⟨#[0xb1]⟩ 1 none ∈ zx_G) : zx_V M (d + 1) b Q S pc lo (.ref x :: st) I L R := by
  intro p l e s m args below meth c D cA A ad0 ad n0 H locs ls hg hC hX hS hA hll hol hos hn0 had
  have h9 := hg.1 _ hd
  have h8 := kk p l e s m args below meth c D cA A ad0 ad n0 H locs ls hg hC hX hS hA hll hol (zo_t hos) hn0 had
  have hsum : ((st.map (zx_rl ad)).map fun v => v.category).sum = (st.map fun v => v.category).sum := by
    rw [List.map_map]
    congr 1
    exact List.map_congr_left fun v _ => zx_rl_cat ad v
  exact W.objInit hC.1 hC.2.1 hC.2.2.2.2.1 (hC.2.2.2.2.2.1 _ hl) (hC.2.2.2.2.2.1 _ hi) (hC.2.2.2.2.2.1 _ hc) rfl (hll.1.trans hC.2.2.2.1.symm) rfl h9 (by show 1 ≤ d + 1; omega) (by show 2 * 0 + _ + 12 ≤ 40 * (d + 1); rw [hsum]; omega) h8
end
end
section
/-! entry of a method, calls, the JDK's copies and Math -/
def zx_arg : List Value → List (Option Value)
  | [] => []
  | v :: vs => if v.category = 2 then some v :: none :: zx_arg vs else some v :: zx_arg vs
def zx_ar (n : Nat) (av : List Value) : List (Option Value) := zx_arg av ++ List.replicate (n - (zx_arg av).length) none
theorem zx_arg_at {ad : Nat → Nat} : ∀ (av : List Value) (k i : Nat) (v : Value), (zx_arg av)[i]? = some (some v) → (k + i, zx_rl ad v) ∈ lv_args k (av.map (zx_rl ad))
  | [], _, _, _, h => by simp [zx_arg] at h
  | w :: vs, k, i, v, h => by
    unfold zx_arg at h
    rw [List.map_cons]
    unfold lv_args
    rw [zx_rl_cat]
    by_cases hw : w.category = 2
    · rw [if_pos hw] at h ⊢
      match i, h with
      | 0, h => cases h; exact List.mem_cons_self
      | 1, h => cases h
      | i + 2, h =>
        have := zx_arg_at (ad := ad) vs (k + 2) i v h
        rw [show k + (i + 2) = k + 2 + i by omega]
        exact List.mem_cons_of_mem _ this
    · rw [if_neg hw] at h ⊢
      match i, h with
      | 0, h => cases h; exact List.mem_cons_self
      | i + 1, h =>
        have := zx_arg_at (ad := ad) vs (k + 1) i v h
        rw [show k + (i + 1) = k + 1 + i by omega]
        exact List.mem_cons_of_mem _ this
theorem zx_arg_len {ad : Nat → Nat} (av : List Value) : (lg_sl (av.map (zx_rl ad))).length = (zx_arg av).length := by
  induction av with
  | nil => rfl
  | cons v vs ih =>
    have e : lg_sl ((v :: vs).map (zx_rl ad)) = (if (zx_rl ad v).category = 2 then [Slot.val (zx_rl ad v), .second] else [.val (zx_rl ad v)]) ++ lg_sl (vs.map (zx_rl ad)) := by simp [lg_sl]
    rw [e, List.length_append, ih, zx_rl_cat]
    rw [show zx_arg (v :: vs) = if v.category = 2 then some v :: none :: zx_arg vs else some v :: zx_arg vs from rfl]
    by_cases hv : v.category = 2
    · simp [hv]; omega
    · simp [hv]; omega
theorem zx_arg_mem : ∀ (av : List Value) (i : Nat) (v : Value), (zx_arg av)[i]? = some (some v) → v ∈ av
  | [], _, _, h => by simp [zx_arg] at h
  | w :: vs, i, v, h => by
    unfold zx_arg at h
    by_cases hw : w.category = 2
    · rw [if_pos hw] at h
      match i, h with
      | 0, h => cases h; exact List.mem_cons_self
      | 1, h => cases h
      | i + 2, h => exact List.mem_cons_of_mem _ (zx_arg_mem vs i v h)
    · rw [if_neg hw] at h
      match i, h with
      | 0, h => cases h; exact List.mem_cons_self
      | i + 1, h => exact List.mem_cons_of_mem _ (zx_arg_mem vs i v h)
theorem zx_ar_some {n i : Nat} {av : List Value} {v : Value} (h : (zx_ar n av)[i]? = some (some v)) : (zx_arg av)[i]? = some (some v) := by
  unfold zx_ar at h
  by_cases hi : i < (zx_arg av).length
  · rwa [List.getElem?_append_left hi] at h
  · rw [List.getElem?_append_right (by omega), List.getElem?_replicate] at h
    split at h <;> cases h
theorem zv_entry {M : zx_M} {d mc ms : Nat} {Q : zx_Qt} {S : zx_S} {I : zx_I} {L : zx_L} {R : zx_R} {av : List Value} (hg : zx_good M) (hn : (zx_arg av).length ≤ M.2.2.1) (h : zx_V M d (0, 0, mc, ms) Q S 0 (zx_ar M.2.2.1 av) [] I L R) : zx_M0 M d mc ms av S I L R Q := by
  intro l D cA ad sz hoa
  refine Met.ofW (cc := M.2.1) (maxL := M.2.2.1) (ret := M.2.2.2.1) hg.2.2.1 rfl ?_
  intro p e s m args below meth c s₁ B hml hv
  obtain ⟨rfl, hsz, hX⟩ := hv
  have hts := atoms_spec (ws := zx_ws M) B.pre
  subst hsz
  have hX' : zx_X D cA (va_A (zx_W cA ad S I L R) s.heap.size) ad S I L R s s.heap := ⟨hX.1, hX.2.1.self, hX.2.2⟩
  have hlen : (lg_sl (av.map (zx_rl ad))).length ≤ M.2.2.1 := by rw [zx_arg_len]; exact hn
  have hl := lv_entry (av.map (zx_rl ad)) (n := M.2.2.1) hlen
  rw [lg_entry_eq]
  generalize (lg_sl (av.map (zx_rl ad)) ++ List.replicate (M.2.2.1 - (lg_sl (av.map (zx_rl ad))).length) Slot.unset).toArray = ls at hl ⊢
  have hlo : zx_lo ad M.2.2.1 (zx_ar M.2.2.1 av) ls := ⟨hl.1, hl.2.1, by unfold zx_ar; rw [List.length_append, List.length_replicate]; omega, fun i v hv => by
    have := hl.2.2 _ (zx_arg_at (ad := ad) av 0 i v (zx_ar_some hv))
    rwa [Nat.zero_add] at this⟩
  exact h p l e s m _ below meth c D cA _ ad ad S.length s.heap [] ls hg ⟨B.exec, B.bytes, B.returns, hml, findClass_of_methodNamed B.named, fun w hw => hts w (List.mem_cons_of_mem _ hw), B.notSynchronized, (name_of_methodNamed B.named B.method).1⟩ hX' va_S.rf (fun q hq => Or.inr hq) hlo (fun i v hv => hoa v (zx_arg_mem av i v (zx_ar_some hv))) (fun v hv => by cases hv) (Nat.le_refl _) (fun _ _ => rfl)
theorem zg_in {l : List Cond} (h : ∀ w ∈ l, w ∈ zx_G) : GoodIn zx_G l := fun w hw => ⟨h w hw, good_of_word (zg_good w (h w hw))⟩
theorem zg_ws {M : zx_M} (hg : zx_good M) : ∀ w ∈ zx_ws M, w ∈ zx_G := fun w hw => by
  rcases List.mem_cons.mp hw with rfl | hw
  · exact hg.2.1
  · exact hw
section
variable {M : zx_M} {d : Nat} {b : zx_B} {Q : zx_Qt} {S : zx_S} {pc : Nat} {lo : List (Option Value)} {st : List Value} {I : zx_I} {L : zx_L} {R : zx_R}
/-- what stands behind a call -/
theorem zx_behind {p : Program} {l : Launch} {e : Env} {s : State} {m : MethodId} {args : Array Value} {below : List Frame} {meth : Method} {c : Code} {D : va_G} {cA : Nat → ClassId} {A : Nat → Prop} {ad0 ad : Nat → Nat} {n0 : Nat} {H : Heap} {locs : List Loc} {ls : Array Slot} {stc : List Value} {mc' ms' : Nat} {Q' : zx_Qt} {aa : Array Value}
    (hg : zx_good M) (hC : zx_C M p s m args meth c) (hX : zx_X D cA A ad S I L R s H) (hS : va_S A s.heap H locs) (hA : ∀ q, s.heap.size ≤ q → A q) (hl : zx_lo ad M.2.2.1 lo ls) (hol : zx_okl S.length lo) (hos : zx_oks S.length st) (hn0 : n0 ≤ S.length) (had : ∀ i, i < n0 → ad i = ad0 i)
    (hrun : va_Run p l e (zx_rm (d + 1) b.2.2.1 b.2.2.2) s m args below meth c H locs b.1 b.2.1 mc' ms' (F0 m pc ls stc) (st.map (zx_rl ad)) (zx_Q D cA (va_A (zx_W cA ad S I L R) H.size) ad S.length Q' aa) (va_A (zx_W cA ad S I L R) H.size))
    (kk : ∀ r S' I' L' R', Q' r S' I' L' R' → zx_V M (d + 1) (b.1 + mc', b.2.1 + ms', b.2.2) Q S' (pc + 3) lo (r.toList ++ st) I' L' R') :
    W p l e (zx_rm (d + 1) b.2.2.1 b.2.2.2) s m args below meth c H locs b.1 b.2.1 (MQ below (zx_Q D cA A ad0 n0 Q) args s b.2.2.1 b.2.2.2 A) (F0 m pc ls stc) := by
  intro T hT X
  obtain ⟨v, st₀, t, T', Lc, h0, X', hL, e1, e2, ⟨⟨r, S', I', L', R', ad', ho, hq, hnn, hadd, hokr, hX'⟩, hz, hk⟩, stp⟩ := hrun T hT X
  have hv : v = r.map (zx_rl ad') := by cases ho; rfl
  subst hv
  have hFc : ∀ q, va_A (zx_W cA ad S I L R) H.size q → A q := by
    intro q h
    rcases h with ⟨k, x, h⟩ | h
    · exact hX.2.1.2 k (q, x) h
    · exact hA q (Nat.le_trans hS.1 h)
  have hal := X'.warmed.alike
  have hS' : va_S A s.heap T'.heap (locs ++ Lc) := ⟨Nat.le_trans hS.1 (by rw [e1, ← h0]; exact hz), fun q h1 h2 => by
    rw [e1, hk q (by rw [h0]; exact Nat.lt_of_lt_of_le h1 hS.1) (fun z => h2 (hFc q z)), h0]
    exact hS.2.1 q h1 h2, fun q hq => by
    rcases List.mem_append.mp hq with h | h
    · exact hS.2.2 q h
    · exact hFc _ (hL q h)⟩
  have hX2 : zx_X D cA A ad' S' I' L' R' s T'.heap := ⟨by rw [e1]; exact hX'.1, hX'.2.1.weaken (fun _ q _ h => hFc q.1 h), hX.2.2.1, hX.2.2.2.1, hX'.2.2.2.2⟩
  have hoks : zx_oks S'.length (r.toList ++ st) := fun w hw => by
    rcases List.mem_append.mp hw with h | h
    · exact hokr w (by cases r with
        | none => cases h
        | some x => rcases List.mem_cons.mp h with rfl | h
                    · rfl
                    · cases h)
    · exact zx_ok_mono (hos w h) hnn
  obtain ⟨t2, a1, b1⟩ := kk r S' I' L' R' hq p l e s m args below meth c D cA A ad0 ad' n0 T'.heap (locs ++ Lc) ls hg hC hX2 hS' hA (zx_lo_ad hl hol hadd) (zx_okl_mono hol hnn) hoks (Nat.le_trans hn0 hnn) (fun i hi => by rw [hadd i (Nat.lt_of_lt_of_le hi hn0)]; exact had i hi) T' rfl X'
  refine ⟨t2, stp t2 ?_, b1⟩
  have e3 : (r.toList ++ st).map (zx_rl ad') = (r.map (zx_rl ad')).toList ++ st.map (zx_rl ad) := by
    rw [List.map_append, zo_ad hos hadd]
    cases r <;> rfl
  rw [e3] at a1
  exact a1
theorem zx_room {ad : Nat → Nat} {st : List Value} (h : (st.map fun v => v.category).sum ≤ 8) : ((st.map (zx_rl ad)).map fun v => v.category).sum ≤ 8 := by
  rw [List.map_map]
  have : ((fun v : Value => v.category) ∘ zx_rl ad) = fun v => v.category := funext fun v => zx_rl_cat ad v
  rw [this]
  exact h
theorem zx_nw_same {w : Cond} (hw : zx_nest w = true) {s U : State} (h : va_Nw w s) (hv : s.vm.Alike U.vm) (he : s.vm = U.vm) : va_Nw w U := by
  cases w with
  | fieldLinkNest a b c d e f => exact va_Nw.same rfl he h
  | methodLinkNest a b c d => exact va_Nw.same rfl he h
  | arrayOver t =>
    cases t with
    | object C => exact va_AO.moved hv h
    | _ => exact absurd hw (by simp [zx_nest])
  | _ => exact absurd hw (by simp [zx_nest])
theorem zx_blind {av : List Value} {sz : Nat} {D : va_G} {cA : Nat → ClassId} {ad : Nat → Nat} : FrameBlind (va_Pc av (fun U => U.heap.size = sz ∧ zx_X D cA (fun _ => True) ad S I L R U U.heap)) := fun a U g mk q => by
  obtain ⟨q0, q1, q2, q3, q4, q5, q6⟩ := q
  exact ⟨q0, q1, q2, q3, va_K.moved (u := U) (U := U.calling g mk a) (Vm.Alike.refl U.vm) q4, fun w hw => zx_nw_same (zg_nest w hw) (q5 w hw) (Vm.Alike.refl U.vm) rfl, q6⟩
theorem zx_pre {D : va_G} {cA : Nat → ClassId} {A : Nat → Prop} {ad : Nat → Nat} {s U : State} {H : Heap} (hX : zx_X D cA A ad S I L R s H) (hU : U.heap = H) (hW : s.WarmedH U.vm) : U.heap.size = H.size ∧ zx_X D cA (fun _ => True) ad S I L R U U.heap :=
  ⟨by rw [hU], by rw [hU]; exact hX.1, hX.2.1.weaken (fun _ _ _ _ => trivial), va_K.moved hW.alike hX.2.2.1, fun w hw => zx_nw_warm (zg_nest w hw) (hX.2.2.2.1 w hw) hW, hX.2.2.2.2⟩
theorem zv_callV {M' : zx_M} {idx np mc' ms' a ci n N : Nat} {T : u_T} {av : List Value} {Q' : zx_Qt} (hd : (pc, .invokevirtual idx, 3) ∈ M.2.2.2.2.2) (hl : zcV M.2.2.2.2.1 idx M'.1 np) (hg' : zx_good M') (hs : S[a]? = some (ci, n)) (hcn : vwCl[ci]? = some (M'.1.cls, T, N)) (hnp : av.length = np)
    (hc : zx_M0 M' d mc' ms' (.ref a :: av) S I L R Q') (hb : b.1 + mc' ≤ b.2.2.1 ∧ b.2.1 + ms' ≤ b.2.2.2) (hw : (st.map fun v => v.category).sum ≤ 8)
    (kk : ∀ r S' I' L' R', Q' r S' I' L' R' → zx_V M (d + 1) (b.1 + mc', b.2.1 + ms', b.2.2) Q S' (pc + 3) lo (r.toList ++ st) I' L' R') : zx_V M (d + 1) b Q S pc lo (av.reverse ++ .ref a :: st) I L R := by
  intro p l e s m args below meth c D cA A ad0 ad n0 H locs ls hg hC hX hS hA hll hol hos hn0 had
  have h9 := hg.1 _ hd
  obtain ⟨own, ho, w1, w2, w3, w4, hp1, hp2, hp3⟩ := hl
  have hown : own = M.1.cls := Option.some.inj (ho.symm.trans hg.2.2.2.1)
  subst hown
  have hoav : zx_oks S.length (.ref a :: av) := zo_c (hos _ (List.mem_append_right _ List.mem_cons_self)) (fun v hv => hos v (List.mem_append_left _ (List.mem_reverse.mpr hv)))
  have host : zx_oks S.length st := fun v hv => hos v (List.mem_append_right _ (List.mem_cons_of_mem _ hv))
  have hci : ci < 100 := Nat.lt_of_lt_of_le (List.getElem?_eq_some_iff.mp hcn).1 (by decide)
  have he : (zx_W cA ad S I L R)[a]? = some (ad a, .inr (ci, zx_fs ad (I a) (L a) (R a) (zt_T.getD ci []) 0)) := by
    rw [zx_W_get hs, show zx_e cA ad (I a) (L a) (R a) (ci, n) = .inr (ci, zx_fs ad (I a) (L a) (R a) (zt_T.getD ci []) 0) from if_pos hci]
  have hG : GoodIn zx_G (wsV M.1.cls idx M'.1.cls M'.1 (zx_ws M')) := zg_in (fun w hw => by
    unfold wsV at hw
    rcases List.mem_append.mp hw with h | h
    · simp only [List.mem_cons, List.not_mem_nil, or_false] at h
      rcases h with rfl | rfl | rfl | rfl
      · exact w1
      · exact w2
      · exact w3
      · exact w4
    · exact zg_ws hg' w h)
  have hR : (zx_rm d mc' ms').frames + 1 ≤ (zx_rm (d + 1) b.2.2.1 b.2.2.2).frames ∧ 8 + (M'.2.2.1 + 11) + (zx_rm d mc' ms').locals ≤ (zx_rm (d + 1) b.2.2.1 b.2.2.2).locals := ⟨Nat.le_refl _, by
    have := hg'.2.2.2.2
    show 8 + (M'.2.2.1 + 11) + 40 * d ≤ 40 * (d + 1)
    omega⟩
  have cw := cwV (R := zx_rm (d + 1) b.2.2.1 b.2.2.2) (mc := mc') (ms := ms') (rm := zx_rm d mc' ms') (ws' := zx_G) (bytes := M'.2.1) (maxL := M'.2.2.1) (ret := M'.2.2.2.1) np hC.2.2.2.2.2.1 hG rfl rfl rfl ⟨rfl, hp1, hp2, hp3⟩ hR
  have hrecv := va_recv hX.2.2.1 hX.1 hcn he
  have hrun := va_runV (As := av.map (zx_rl ad)) (rest := st.map (zx_rl ad)) (g := F0 m pc ls ((av.reverse ++ .ref a :: st).map (zx_rl ad))) (cells := b.1) (slots := b.2.1) ⟨hC.1, hC.2.1, hC.2.2.2.1, hC.2.2.2.2.1, hC.2.2.2.2.2.1⟩ (hc l D cA ad H.size hoav) cw ⟨zx_blind, hrecv, fun U hU hW => ⟨rfl, zx_pre hX hU hW⟩⟩ rfl (by rw [List.length_map]; exact hnp) hll.1 (by show ((av.reverse ++ .ref a :: st).map (zx_rl ad)) = _; rw [List.map_append, List.map_reverse]; rfl) (lv_room (pc := pc) (ls := ls) (rest := (av.reverse ++ .ref a :: st).map (zx_rl ad)) (m := m) (zx_room hw)) h9 hb (locs := locs) (H := H) (below := below) (meth := meth) (e := e)
  exact zx_behind hg hC hX hS hA hll hol host hn0 had hrun kk
theorem zv_callS {M' : zx_M} {idx np mc' ms' : Nat} {av : List Value} {Q' : zx_Qt} (hd : (pc, .invokestatic idx, 3) ∈ M.2.2.2.2.2) (hl : zcS M.2.2.2.2.1 idx M'.1 np) (hg' : zx_good M') (hnp : av.length = np)
    (hc : zx_M0 M' d mc' ms' av S I L R Q') (hb : b.1 + mc' ≤ b.2.2.1 ∧ b.2.1 + ms' ≤ b.2.2.2) (hw : (st.map fun v => v.category).sum ≤ 8)
    (kk : ∀ r S' I' L' R', Q' r S' I' L' R' → zx_V M (d + 1) (b.1 + mc', b.2.1 + ms', b.2.2) Q S' (pc + 3) lo (r.toList ++ st) I' L' R') : zx_V M (d + 1) b Q S pc lo (av.reverse ++ st) I L R := by
  intro p l e s m args below meth c D cA A ad0 ad n0 H locs ls hg hC hX hS hA hll hol hos hn0 had
  have h9 := hg.1 _ hd
  obtain ⟨own, ho, w1, w2, w4, hp1, hp2, hp3⟩ := hl
  have hown : own = M.1.cls := Option.some.inj (ho.symm.trans hg.2.2.2.1)
  subst hown
  have hoav : zx_oks S.length av := fun v hv => hos v (List.mem_append_left _ (List.mem_reverse.mpr hv))
  have host : zx_oks S.length st := fun v hv => hos v (List.mem_append_right _ hv)
  have hG : GoodIn zx_G (va_wsS M.1.cls idx M'.1 (zx_ws M')) := zg_in (fun w hw => by
    unfold va_wsS at hw
    rcases List.mem_append.mp hw with h | h
    · simp only [List.mem_cons, List.not_mem_nil, or_false] at h
      rcases h with rfl | rfl | rfl
      · exact w1
      · exact w2
      · exact w4
    · exact zg_ws hg' w h)
  have hR : (zx_rm d mc' ms').frames + 1 ≤ (zx_rm (d + 1) b.2.2.1 b.2.2.2).frames ∧ 8 + (M'.2.2.1 + 11) + (zx_rm d mc' ms').locals ≤ (zx_rm (d + 1) b.2.2.1 b.2.2.2).locals := ⟨Nat.le_refl _, by
    have := hg'.2.2.2.2
    show 8 + (M'.2.2.1 + 11) + 40 * d ≤ 40 * (d + 1)
    omega⟩
  have cw := va_cwS (R := zx_rm (d + 1) b.2.2.1 b.2.2.2) (mc := mc') (ms := ms') (rm := zx_rm d mc' ms') (ws' := zx_G) (bytes := M'.2.1) (maxL := M'.2.2.1) (ret := M'.2.2.2.1) np hC.2.2.2.2.2.1 hG rfl rfl rfl ⟨hp1, hp2, hp3⟩ hR
  have hrun := va_runS (As := av.map (zx_rl ad)) (rest := st.map (zx_rl ad)) (g := F0 m pc ls ((av.reverse ++ st).map (zx_rl ad))) (cells := b.1) (slots := b.2.1) ⟨hC.1, hC.2.1, hC.2.2.2.1, hC.2.2.2.2.1, hC.2.2.2.2.2.1⟩ (hc l D cA ad H.size hoav) cw ⟨zx_blind, fun U hU hW => ⟨rfl, zx_pre hX hU hW⟩⟩ rfl (by rw [List.length_map]; exact hnp) hll.1 (by show ((av.reverse ++ st).map (zx_rl ad)) = _; rw [List.map_append, List.map_reverse]) (lv_room (pc := pc) (ls := ls) (rest := (av.reverse ++ st).map (zx_rl ad)) (m := m) (zx_room hw)) h9 hb (locs := locs) (H := H) (below := below) (meth := meth) (e := e)
  exact zx_behind hg hC hX hS hA hll hol host hn0 had hrun kk
theorem zv_callI {M' : zx_M} {idx np mc' ms' a : Nat} {av : List Value} {Q' : zx_Qt} (hd : (pc, .invokespecial idx, 3) ∈ M.2.2.2.2.2) (hl : zcI M.2.2.2.2.1 idx M'.1 np) (hg' : zx_good M') (hret : M'.2.2.2.1 = none) (hnp : av.length = np)
    (hc : zx_M0 M' d mc' ms' (.ref a :: av) S I L R Q') (hb : b.1 + mc' ≤ b.2.2.1 ∧ b.2.1 + ms' ≤ b.2.2.2) (hw : (st.map fun v => v.category).sum ≤ 8)
    (kk : ∀ r S' I' L' R', Q' r S' I' L' R' → zx_V M (d + 1) (b.1 + mc', b.2.1 + ms', b.2.2) Q S' (pc + 3) lo (r.toList ++ st) I' L' R') : zx_V M (d + 1) b Q S pc lo (av.reverse ++ .ref a :: st) I L R := by
  intro p l e s m args below meth c D cA A ad0 ad n0 H locs ls hg hC hX hS hA hll hol hos hn0 had
  have h9 := hg.1 _ hd
  obtain ⟨own, ho, w1, w2, w4, hini, hp1, hp2, hp3⟩ := hl
  have hown : own = M.1.cls := Option.some.inj (ho.symm.trans hg.2.2.2.1)
  subst hown
  have hoav : zx_oks S.length (.ref a :: av) := zo_c (hos _ (List.mem_append_right _ List.mem_cons_self)) (fun v hv => hos v (List.mem_append_left _ (List.mem_reverse.mpr hv)))
  have host : zx_oks S.length st := fun v hv => hos v (List.mem_append_right _ (List.mem_cons_of_mem _ hv))
  have hG : GoodIn zx_G (zx_ws M') := zg_in (zg_ws hg')
  have hts := hC.2.2.2.2.2.1
  have hR : (zx_rm d mc' ms').frames + 1 ≤ (zx_rm (d + 1) b.2.2.1 b.2.2.2).frames ∧ 8 + (M'.2.2.1 + 11) + (zx_rm d mc' ms').locals ≤ (zx_rm (d + 1) b.2.2.1 b.2.2.2).locals := ⟨Nat.le_refl _, by
    have := hg'.2.2.2.2
    show 8 + (M'.2.2.1 + 11) + 40 * d ≤ 40 * (d + 1)
    omega⟩
  have hwsn : zx_ws M' = Cond.code M'.1 M'.2.1 M'.2.2.1 none :: zx_G := by unfold zx_ws; rw [hret]
  have hpre : PreS s H (va_Pc ((.ref a :: av).map (zx_rl ad)) (fun U => U.heap.size = H.size ∧ zx_X D cA (fun _ => True) ad S I L R U U.heap)) (.ref (ad a) :: av.map (zx_rl ad)) := ⟨zx_blind, fun U hU hW => ⟨rfl, zx_pre hX hU hW⟩⟩
  have hstk : (F0 m pc ls ((av.reverse ++ .ref a :: st).map (zx_rl ad))).stack = (av.map (zx_rl ad)).reverse ++ .ref (ad a) :: st.map (zx_rl ad) := by
    show ((av.reverse ++ .ref a :: st).map (zx_rl ad)) = _
    rw [List.map_append, List.map_reverse]; rfl
  rcases w1 with w1 | ⟨h, w1⟩
  · have cw := cwI (R := zx_rm (d + 1) b.2.2.1 b.2.2.2) (mc := mc') (ms := ms') (rm := zx_rm d mc' ms') (ws' := zx_G) (bytes := M'.2.1) (maxL := M'.2.2.1) np hts hG hwsn rfl rfl (hts _ w4) (hts _ w1) (hts _ w2) hini ⟨hp1, hp2, hp3⟩ hR
    have hrun := va_runI (As := av.map (zx_rl ad)) (rest := st.map (zx_rl ad)) (g := F0 m pc ls ((av.reverse ++ .ref a :: st).map (zx_rl ad))) (cells := b.1) (slots := b.2.1) ⟨hC.1, hC.2.1, hC.2.2.2.1, hC.2.2.2.2.1, hts⟩ (hc l D cA ad H.size hoav) cw hpre rfl (by rw [List.length_map]; exact hnp) hll.1 hstk (lv_room (pc := pc) (ls := ls) (rest := (av.reverse ++ .ref a :: st).map (zx_rl ad)) (m := m) (zx_room hw)) h9 hb (locs := locs) (below := below) (meth := meth) (e := e)
    exact zx_behind hg hC hX hS hA hll hol host hn0 had hrun kk
  · have cw := va_cnB (R := zx_rm (d + 1) b.2.2.1 b.2.2.2) (mc := mc') (ms := ms') (rm := zx_rm d mc' ms') (ws' := zx_G) (bytes := M'.2.1) (maxL := M'.2.2.1) (ret := none) np hts hG hwsn rfl rfl (hX.2.2.2.1 _ w1) (hts _ w4) ⟨hp1, hp2, hp3⟩ hR
    have hrun := va_runIN (As := av.map (zx_rl ad)) (rest := st.map (zx_rl ad)) (g := F0 m pc ls ((av.reverse ++ .ref a :: st).map (zx_rl ad))) (cells := b.1) (slots := b.2.1) ⟨hC.1, hC.2.1, hC.2.2.2.1, hC.2.2.2.2.1, hts⟩ (hc l D cA ad H.size hoav) ⟨cw, hini, hts _ w2⟩ hpre rfl (by rw [List.length_map]; exact hnp) hll.1 hstk (lv_room (pc := pc) (ls := ls) (rest := (av.reverse ++ .ref a :: st).map (zx_rl ad)) (m := m) (zx_room hw)) h9 hb (locs := locs) (below := below) (meth := meth) (e := e)
    exact zx_behind hg hC hX hS hA hll hol host hn0 had hrun kk
end
end
section
/-! straight stretches at one go; copies; Math -/
def zs_c2 (oc idx : Nat) : Option Int64 := if oc = 9 ∧ idx = 150 then some (-1) else if oc = 11 ∧ idx = 314 then some (6148914691236517205) else if oc = 11 ∧ idx = 316 then some (3689348814741910323) else if oc = 11 ∧ idx = 318 then some (1085102592571150095) else if oc = 10 ∧ idx = 93 then some (255) else if oc = 10 ∧ idx = 166 then some (-1) else none
def zs_c1 (oc idx : Nat) : Option Int32 := if oc = 9 ∧ idx = 198 then some (1000000) else none
theorem zs_c2_ok {oc idx : Nat} {v : Int64} (h : zs_c2 oc idx = some v) : ∃ own, zt_own[oc]? = some own ∧ Cond.constantLong own idx v ∈ zx_G := by
  unfold zs_c2 at h
  split at h
  · rename_i hq; obtain ⟨rfl, rfl⟩ := hq; cases h; exact ⟨_, rfl, zg_at (i := 590) (by decide +kernel) (by decide +kernel)⟩
  ·
    split at h
    · rename_i hq; obtain ⟨rfl, rfl⟩ := hq; cases h; exact ⟨_, rfl, zg_at (i := 811) (by decide +kernel) (by decide +kernel)⟩
    ·
      split at h
      · rename_i hq; obtain ⟨rfl, rfl⟩ := hq; cases h; exact ⟨_, rfl, zg_at (i := 812) (by decide +kernel) (by decide +kernel)⟩
      ·
        split at h
        · rename_i hq; obtain ⟨rfl, rfl⟩ := hq; cases h; exact ⟨_, rfl, zg_at (i := 813) (by decide +kernel) (by decide +kernel)⟩
        ·
          split at h
          · rename_i hq; obtain ⟨rfl, rfl⟩ := hq; cases h; exact ⟨_, rfl, zg_at (i := 944) (by decide +kernel) (by decide +kernel)⟩
          ·
            split at h
            · rename_i hq; obtain ⟨rfl, rfl⟩ := hq; cases h; exact ⟨_, rfl, zg_at (i := 1045) (by decide +kernel) (by decide +kernel)⟩
            · cases h
theorem zs_c1_ok {oc idx : Nat} {v : Int32} (h : zs_c1 oc idx = some v) : ∃ own, zt_own[oc]? = some own ∧ Cond.constant own idx v ∈ zx_G := by
  unfold zs_c1 at h
  split at h
  · rename_i hq; obtain ⟨rfl, rfl⟩ := hq; cases h; exact ⟨_, rfl, zg_at (i := 731) (by decide +kernel) (by decide +kernel)⟩
  · cases h
abbrev zx_F6 : Type := Nat × List (Option Value) × List Value × zx_I × zx_L × zx_R
def zs_step (M : zx_M) (S : zx_S) (i : Instr) (x : zx_F6) : Option zx_F6 := match x with
  | (pc, lo, st, I, L, R) => match i with
    | .iadd => match st with | .int y :: .int x :: r => some (pc + 1, lo, .int (x + y) :: r, I, L, R) | _ => none
    | .isub => match st with | .int y :: .int x :: r => some (pc + 1, lo, .int (x - y) :: r, I, L, R) | _ => none
    | .imul => match st with | .int y :: .int x :: r => some (pc + 1, lo, .int (x * y) :: r, I, L, R) | _ => none
    | .iand => match st with | .int y :: .int x :: r => some (pc + 1, lo, .int (x &&& y) :: r, I, L, R) | _ => none
    | .ior => match st with | .int y :: .int x :: r => some (pc + 1, lo, .int (x ||| y) :: r, I, L, R) | _ => none
    | .ixor => match st with | .int y :: .int x :: r => some (pc + 1, lo, .int (x ^^^ y) :: r, I, L, R) | _ => none
    | .ishl => match st with | .int y :: .int x :: r => some (pc + 1, lo, .int (x <<< (y &&& 31)) :: r, I, L, R) | _ => none
    | .ishr => match st with | .int y :: .int x :: r => some (pc + 1, lo, .int (x >>> (y &&& 31)) :: r, I, L, R) | _ => none
    | .ladd => match st with | .long y :: .long x :: r => some (pc + 1, lo, .long (x + y) :: r, I, L, R) | _ => none
    | .lsub => match st with | .long y :: .long x :: r => some (pc + 1, lo, .long (x - y) :: r, I, L, R) | _ => none
    | .land => match st with | .long y :: .long x :: r => some (pc + 1, lo, .long (x &&& y) :: r, I, L, R) | _ => none
    | .lor => match st with | .long y :: .long x :: r => some (pc + 1, lo, .long (x ||| y) :: r, I, L, R) | _ => none
    | .lxor => match st with | .long y :: .long x :: r => some (pc + 1, lo, .long (x ^^^ y) :: r, I, L, R) | _ => none
    | .lushr => match st with | .int y :: .long x :: r => some (pc + 1, lo, .long ((x.toUInt64 >>> (y.toInt64.toUInt64 &&& Int64.toUInt64 63)).toInt64) :: r, I, L, R) | _ => none
    | .lshl => match st with | .int y :: .long x :: r => some (pc + 1, lo, .long (x <<< (y.toInt64 &&& 63)) :: r, I, L, R) | _ => none
    | .lshr => match st with | .int y :: .long x :: r => some (pc + 1, lo, .long (x >>> (y.toInt64 &&& 63)) :: r, I, L, R) | _ => none
    | .lcmp => match st with | .long y :: .long x :: r => some (pc + 1, lo, .int (lg_cmp x y) :: r, I, L, R) | _ => none
    | .idiv => match st with | .int y :: .int x :: r => if y = 0 then none else some (pc + 1, lo, .int (x / y) :: r, I, L, R) | _ => none
    | .irem => match st with | .int y :: .int x :: r => if y = 0 then none else some (pc + 1, lo, .int (x - x / y * y) :: r, I, L, R) | _ => none
    | .i2l => match st with | .int x :: r => some (pc + 1, lo, .long x.toInt64 :: r, I, L, R) | _ => none
    | .l2i => match st with | .long x :: r => some (pc + 1, lo, .int x.toInt32 :: r, I, L, R) | _ => none
    | .i2b => match st with | .int x :: r => some (pc + 1, lo, .int x.toInt8.toInt32 :: r, I, L, R) | _ => none
    | .iconst v => some (pc + 1, lo, .int (Int32.ofInt v) :: st, I, L, R)
    | .bipush v => some (pc + 2, lo, .int ((Int8.ofInt v).toInt32) :: st, I, L, R)
    | .sipush v => some (pc + 3, lo, .int ((Int16.ofInt v).toInt32) :: st, I, L, R)
    | .lconst v => some (pc + 1, lo, .long (Int64.ofNat (v : Nat)) :: st, I, L, R)
    | .aconst_null => some (pc + 1, lo, .null :: st, I, L, R)
    | .ldc idx => match zs_c1 M.2.2.2.2.1 idx with | some v => some (pc + 2, lo, .int v :: st, I, L, R) | none => none
    | .ldc2_w idx => match zs_c2 M.2.2.2.2.1 idx with | some v => some (pc + 3, lo, .long v :: st, I, L, R) | none => none
    | .iload i => match lo[i]? with | some (some (.int x)) => some (pc + 2, lo, .int x :: st, I, L, R) | _ => none
    | .iload_n i => match lo[(i : Nat)]? with | some (some (.int x)) => some (pc + 1, lo, .int x :: st, I, L, R) | _ => none
    | .lload i => match lo[i]? with | some (some (.long x)) => some (pc + 2, lo, .long x :: st, I, L, R) | _ => none
    | .lload_n i => match lo[(i : Nat)]? with | some (some (.long x)) => some (pc + 1, lo, .long x :: st, I, L, R) | _ => none
    | .aload i => match lo[i]? with | some (some (.ref x)) => some (pc + 2, lo, .ref x :: st, I, L, R) | some (some .null) => some (pc + 2, lo, .null :: st, I, L, R) | _ => none
    | .aload_n i => match lo[(i : Nat)]? with | some (some (.ref x)) => some (pc + 1, lo, .ref x :: st, I, L, R) | some (some .null) => some (pc + 1, lo, .null :: st, I, L, R) | _ => none
    | .istore i => match st with | .int x :: r => if i < lo.length then some (pc + 2, zx_st1 lo i (.int x), r, I, L, R) else none | _ => none
    | .istore_n i => match st with | .int x :: r => if (i : Nat) < lo.length then some (pc + 1, zx_st1 lo i (.int x), r, I, L, R) else none | _ => none
    | .lstore i => match st with | .long x :: r => if i + 1 < lo.length then some (pc + 2, zx_st2 lo i (.long x), r, I, L, R) else none | _ => none
    | .lstore_n i => match st with | .long x :: r => if (i : Nat) + 1 < lo.length then some (pc + 1, zx_st2 lo i (.long x), r, I, L, R) else none | _ => none
    | .astore i => match st with | .ref x :: r => (if i < lo.length then some (pc + 2, zx_st1 lo i (.ref x), r, I, L, R) else none) | .null :: r => (if i < lo.length then some (pc + 2, zx_st1 lo i .null, r, I, L, R) else none) | _ => none
    | .astore_n i => match st with | .ref x :: r => (if (i : Nat) < lo.length then some (pc + 1, zx_st1 lo i (.ref x), r, I, L, R) else none) | .null :: r => (if (i : Nat) < lo.length then some (pc + 1, zx_st1 lo i .null, r, I, L, R) else none) | _ => none
    | .iinc i v => match lo[i]? with | some (some (.int x)) => some (pc + 3, zx_st1 lo i (.int (x + Int32.ofInt v)), st, I, L, R) | _ => none
    | .dup => match st with | .int x :: r => some (pc + 1, lo, .int x :: .int x :: r, I, L, R) | .ref x :: r => some (pc + 1, lo, .ref x :: .ref x :: r, I, L, R) | _ => none
    | .pop => match st with | .int x :: r => some (pc + 1, lo, r, I, L, R) | .ref x :: r => some (pc + 1, lo, r, I, L, R) | _ => none
    | .dup2 => match st with | .int x :: .ref y :: r => some (pc + 1, lo, .int x :: .ref y :: .int x :: .ref y :: r, I, L, R) | _ => none
    | .goto off => if 0 ≤ (pc : Int) + off then some (((pc : Int) + off).toNat, lo, st, I, L, R) else none
    | .getfield idx => match st with | .ref a :: r => (match zfl M.2.2.2.2.1 idx, S[a]? with | some (ci, k), some (kd, _) => if kd = ci then (match (zt_T.getD ci [])[k]? with | some t => some (pc + 3, lo, zx_pv t (I a k) (L a k) (R a k) :: r, I, L, R) | none => none) else none | _, _ => none) | _ => none
    | .putfield idx => match st with | .int v :: .ref a :: r => (match zfl M.2.2.2.2.1 idx, S[a]? with | some (ci, k), some (kd, _) => if kd = ci ∧ zx_may M ci k = true ∧ (zx_fin ci k = true → ci = M.2.2.2.2.1) ∧ ((zt_T.getD ci [])[k]? = some 0 ∨ (zt_T.getD ci [])[k]? = some 3 ∧ (v = 0 ∨ v = 1)) then some (pc + 3, lo, r, zx_uI I a k v, L, R) else none | _, _ => none) | .long v :: .ref a :: r => (match zfl M.2.2.2.2.1 idx, S[a]? with | some (ci, k), some (kd, _) => if kd = ci ∧ zx_may M ci k = true ∧ (zx_fin ci k = true → ci = M.2.2.2.2.1) ∧ ((zt_T.getD ci [])[k]? = some 1) then some (pc + 3, lo, r, I, zx_uL L a k v, R) else none | _, _ => none) | .ref v :: .ref a :: r => (match zfl M.2.2.2.2.1 idx, S[a]? with | some (ci, k), some (kd, _) => if kd = ci ∧ zx_may M ci k = true ∧ (zx_fin ci k = true → ci = M.2.2.2.2.1) ∧ ((zt_T.getD ci [])[k]? = some 2) then some (pc + 3, lo, r, I, L, zx_uR R a k (some v)) else none | _, _ => none) | .null :: .ref a :: r => (match zfl M.2.2.2.2.1 idx, S[a]? with | some (ci, k), some (kd, _) => if kd = ci ∧ zx_may M ci k = true ∧ (zx_fin ci k = true → ci = M.2.2.2.2.1) ∧ ((zt_T.getD ci [])[k]? = some 2) then some (pc + 3, lo, r, I, L, zx_uR R a k none) else none | _, _ => none) | _ => none
    | .arraylength => match st with | .ref a :: r => (match S[a]? with | some (kd, n) => if 100 ≤ kd ∧ kd ≤ 104 then some (pc + 1, lo, .int (Int32.ofNat n) :: r, I, L, R) else none | none => none) | _ => none
    | .iaload => match st with | .int i :: .ref a :: r => (match S[a]? with | some (kd, n) => if kd = 100 ∧ ¬ i < 0 ∧ i.toNatClampNeg < n then some (pc + 1, lo, .int (I a i.toNatClampNeg) :: r, I, L, R) else none | none => none) | _ => none
    | .iastore => match st with | .int x :: .int i :: .ref a :: r => (match S[a]? with | some (kd, n) => if kd = 100 ∧ ¬ i < 0 ∧ i.toNatClampNeg < n then some (pc + 1, lo, r, zx_uI I a i.toNatClampNeg x, L, R) else none | none => none) | _ => none
    | _ => none
section
variable {M : zx_M} {d : Nat} {b : zx_B} {Q : zx_Qt} {S : zx_S} {pc : Nat} {lo : List (Option Value)} {st : List Value} {I : zx_I} {L : zx_L} {R : zx_R}
theorem zs_own {oc : Nat} {own : String} (hg : zx_good M) (h : oc = M.2.2.2.2.1) (ho : zt_own[oc]? = some own) : own = M.1.cls := by
  subst h
  exact Option.some.inj (ho.symm.trans hg.2.2.2.1)
theorem zs_good (k : zx_good M → zx_V M d b Q S pc lo st I L R) : zx_V M d b Q S pc lo st I L R := by
  intro p l e s m args below meth c D cA A ad0 ad n0 H locs ls hg
  exact k hg p l e s m args below meth c D cA A ad0 ad n0 H locs ls hg
theorem zs_ldc {idx : Nat} {v : Int32} (hm : (pc, .ldc idx, 2) ∈ M.2.2.2.2.2) (hc : zs_c1 M.2.2.2.2.1 idx = some v) (k : zx_V M d b Q S (pc + 2) lo (.int v :: st) I L R) : zx_V M d b Q S pc lo st I L R := zs_good fun hg => by
  obtain ⟨own, h1, h2⟩ := zs_c1_ok hc
  have := zs_own hg rfl h1
  subst this
  exact zv_ldc hm h2 k
theorem zs_ldc2 {idx : Nat} {v : Int64} (hm : (pc, .ldc2_w idx, 3) ∈ M.2.2.2.2.2) (hc : zs_c2 M.2.2.2.2.1 idx = some v) (k : zx_V M d b Q S (pc + 3) lo (.long v :: st) I L R) : zx_V M d b Q S pc lo st I L R := zs_good fun hg => by
  obtain ⟨own, h1, h2⟩ := zs_c2_ok hc
  have := zs_own hg rfl h1
  subst this
  exact zv_ldc2 hm h2 k
theorem zs_putI {idx a ci k n : Nat} {v : Int32} (hd : (pc, .putfield idx, 3) ∈ M.2.2.2.2.2) (hf : zfo M.2.2.2.2.1 idx ci k) (hs : S[a]? = some (ci, n)) (ht : (zt_T.getD ci [])[k]? = some 0 ∨ (zt_T.getD ci [])[k]? = some 3 ∧ (v = 0 ∨ v = 1)) (hm : zx_may M ci k = true) (hF : zx_fin ci k = true → zfoF M.2.2.2.2.1 idx ci k)
    (kk : zx_V M d b Q S (pc + 3) lo st (zx_uI I a k v) L R) : zx_V M d b Q S pc lo (.int v :: .ref a :: st) I L R := by
  have e : zx_uI I a k v a k = v := by simp [zx_uI]
  rcases ht with ht | ⟨ht, hv⟩
  · exact zv_put hd hf hs ht hm hF (by rw [e]; rfl) (fun q => absurd q (by decide)) (fun b hb => ⟨zx_uI_ne hb, rfl, rfl⟩) (fun j hj => ⟨by simp [zx_uI, hj], rfl, rfl⟩) (fun i hi => Or.inl hi) kk
  · exact zv_put hd hf hs ht hm hF (by rw [e]; rfl) (fun _ => by rw [e]; exact hv) (fun b hb => ⟨zx_uI_ne hb, rfl, rfl⟩) (fun j hj => ⟨by simp [zx_uI, hj], rfl, rfl⟩) (fun i hi => Or.inl hi) kk
theorem zs_putL {idx a ci k n : Nat} {v : Int64} (hd : (pc, .putfield idx, 3) ∈ M.2.2.2.2.2) (hf : zfo M.2.2.2.2.1 idx ci k) (hs : S[a]? = some (ci, n)) (ht : (zt_T.getD ci [])[k]? = some 1) (hm : zx_may M ci k = true) (hF : zx_fin ci k = true → zfoF M.2.2.2.2.1 idx ci k)
    (kk : zx_V M d b Q S (pc + 3) lo st I (zx_uL L a k v) R) : zx_V M d b Q S pc lo (.long v :: .ref a :: st) I L R := by
  have e : zx_uL L a k v a k = v := by simp [zx_uL]
  exact zv_put hd hf hs ht hm hF (by rw [e]; rfl) (fun q => absurd q (by decide)) (fun b hb => ⟨rfl, zx_uL_ne hb, rfl⟩) (fun j hj => ⟨rfl, by simp [zx_uL, hj], rfl⟩) (fun i hi => Or.inl hi) kk
theorem zs_putR {idx a ci k n : Nat} {v : Option Nat} (hd : (pc, .putfield idx, 3) ∈ M.2.2.2.2.2) (hf : zfo M.2.2.2.2.1 idx ci k) (hs : S[a]? = some (ci, n)) (ht : (zt_T.getD ci [])[k]? = some 2) (hm : zx_may M ci k = true) (hF : zx_fin ci k = true → zfoF M.2.2.2.2.1 idx ci k)
    (kk : zx_V M d b Q S (pc + 3) lo st I L (zx_uR R a k v)) : zx_V M d b Q S pc lo (va_rf v :: .ref a :: st) I L R := by
  have e : zx_uR R a k v a k = v := by simp [zx_uR]
  exact zv_put hd hf hs ht hm hF (by rw [e]; rfl) (fun q => absurd q (by decide)) (fun b hb => ⟨rfl, rfl, zx_uR_ne hb⟩) (fun j hj => ⟨rfl, rfl, by simp [zx_uR, hj]⟩) (fun i hi => Or.inr (by rw [e] at hi; rw [hi]; rfl)) kk
theorem zs_ok {i : Instr} {n pc' : Nat} {lo' : List (Option Value)} {st' : List Value} {I' : zx_I} {L' : zx_L} {R' : zx_R} (hm : (pc, i, n) ∈ M.2.2.2.2.2) (hl : zs_len i n = true) (h : zs_step M S i (pc, lo, st, I, L, R) = some (pc', lo', st', I', L', R')) (k : zx_V M d b Q S pc' lo' st' I' L' R') : zx_V M d b Q S pc lo st I L R := by
  unfold zs_step at h
  dsimp only at h
  cases i with
  | iadd  =>
    have hn : n = 1 := by simpa [zs_len] using hl
    subst hn
    dsimp only at h
    split at h
    · cases h; exact zv_iadd hm k
    · cases h
  | isub  =>
    have hn : n = 1 := by simpa [zs_len] using hl
    subst hn
    dsimp only at h
    split at h
    · cases h; exact zv_isub hm k
    · cases h
  | imul  =>
    have hn : n = 1 := by simpa [zs_len] using hl
    subst hn
    dsimp only at h
    split at h
    · cases h; exact zv_imul hm k
    · cases h
  | iand  =>
    have hn : n = 1 := by simpa [zs_len] using hl
    subst hn
    dsimp only at h
    split at h
    · cases h; exact zv_iand hm k
    · cases h
  | ior  =>
    have hn : n = 1 := by simpa [zs_len] using hl
    subst hn
    dsimp only at h
    split at h
    · cases h; exact zv_ior hm k
    · cases h
  | ixor  =>
    have hn : n = 1 := by simpa [zs_len] using hl
    subst hn
    dsimp only at h
    split at h
    · cases h; exact zv_ixor hm k
    · cases h
  | ishl  =>
    have hn : n = 1 := by simpa [zs_len] using hl
    subst hn
    dsimp only at h
    split at h
    · cases h; exact zv_ishl hm k
    · cases h
  | ishr  =>
    have hn : n = 1 := by simpa [zs_len] using hl
    subst hn
    dsimp only at h
    split at h
    · cases h; exact zv_ishr hm k
    · cases h
  | ladd  =>
    have hn : n = 1 := by simpa [zs_len] using hl
    subst hn
    dsimp only at h
    split at h
    · cases h; exact zv_ladd hm k
    · cases h
  | lsub  =>
    have hn : n = 1 := by simpa [zs_len] using hl
    subst hn
    dsimp only at h
    split at h
    · cases h; exact zv_lsub hm k
    · cases h
  | land  =>
    have hn : n = 1 := by simpa [zs_len] using hl
    subst hn
    dsimp only at h
    split at h
    · cases h; exact zv_land hm k
    · cases h
  | lor  =>
    have hn : n = 1 := by simpa [zs_len] using hl
    subst hn
    dsimp only at h
    split at h
    · cases h; exact zv_lor hm k
    · cases h
  | lxor  =>
    have hn : n = 1 := by simpa [zs_len] using hl
    subst hn
    dsimp only at h
    split at h
    · cases h; exact zv_lxor hm k
    · cases h
  | lushr  =>
    have hn : n = 1 := by simpa [zs_len] using hl
    subst hn
    dsimp only at h
    split at h
    · cases h; exact zv_lushr hm k
    · cases h
  | lshl  =>
    have hn : n = 1 := by simpa [zs_len] using hl
    subst hn
    dsimp only at h
    split at h
    · cases h; exact zv_lshl hm k
    · cases h
  | lshr  =>
    have hn : n = 1 := by simpa [zs_len] using hl
    subst hn
    dsimp only at h
    split at h
    · cases h; exact zv_lshr hm k
    · cases h
  | lcmp  =>
    have hn : n = 1 := by simpa [zs_len] using hl
    subst hn
    dsimp only at h
    split at h
    · cases h; exact zv_lcmp hm k
    · cases h
  | idiv  =>
    have hn : n = 1 := by simpa [zs_len] using hl
    subst hn
    dsimp only at h
    split at h
    · split at h
      · cases h
      · rename_i hne; cases h; exact zv_idiv hm hne k
    · cases h
  | irem  =>
    have hn : n = 1 := by simpa [zs_len] using hl
    subst hn
    dsimp only at h
    split at h
    · split at h
      · cases h
      · rename_i hne; cases h; exact zv_irem hm hne k
    · cases h
  | i2l  =>
    have hn : n = 1 := by simpa [zs_len] using hl
    subst hn
    dsimp only at h
    split at h
    · cases h; exact zv_i2l hm k
    · cases h
  | l2i  =>
    have hn : n = 1 := by simpa [zs_len] using hl
    subst hn
    dsimp only at h
    split at h
    · cases h; exact zv_l2i hm k
    · cases h
  | i2b  =>
    have hn : n = 1 := by simpa [zs_len] using hl
    subst hn
    dsimp only at h
    split at h
    · cases h; exact zv_i2b hm k
    · cases h
  | iconst v =>
    have hn : n = 1 := by simpa [zs_len] using hl
    subst hn
    dsimp only at h
    cases h; exact zv_iconst hm k
  | bipush v =>
    have hn : n = 2 := by simpa [zs_len] using hl
    subst hn
    dsimp only at h
    cases h; exact zv_bipush hm k
  | sipush v =>
    have hn : n = 3 := by simpa [zs_len] using hl
    subst hn
    dsimp only at h
    cases h; exact zv_sipush hm k
  | lconst v =>
    have hn : n = 1 := by simpa [zs_len] using hl
    subst hn
    dsimp only at h
    cases h; exact zv_lconst hm k
  | aconst_null  =>
    have hn : n = 1 := by simpa [zs_len] using hl
    subst hn
    dsimp only at h
    cases h; exact zv_null hm k
  | ldc idx =>
    have hn : n = 2 := by simpa [zs_len] using hl
    subst hn
    dsimp only at h
    split at h
    · rename_i hc; cases h; exact zs_ldc hm hc k
    · cases h
  | ldc2_w idx =>
    have hn : n = 3 := by simpa [zs_len] using hl
    subst hn
    dsimp only at h
    split at h
    · rename_i hc; cases h; exact zs_ldc2 hm hc k
    · cases h
  | iload i =>
    have hn : n = 2 := by simpa [zs_len] using hl
    subst hn
    dsimp only at h
    split at h
    · rename_i hv; cases h; exact zv_iload hm hv k
    · cases h
  | iload_n i =>
    have hn : n = 1 := by simpa [zs_len] using hl
    subst hn
    dsimp only at h
    split at h
    · rename_i hv; cases h; exact zv_iload_n hm hv k
    · cases h
  | lload i =>
    have hn : n = 2 := by simpa [zs_len] using hl
    subst hn
    dsimp only at h
    split at h
    · rename_i hv; cases h; exact zv_lload hm hv k
    · cases h
  | lload_n i =>
    have hn : n = 1 := by simpa [zs_len] using hl
    subst hn
    dsimp only at h
    split at h
    · rename_i hv; cases h; exact zv_lload_n hm hv k
    · cases h
  | aload i =>
    have hn : n = 2 := by simpa [zs_len] using hl
    subst hn
    dsimp only at h
    split at h
    · rename_i hv; cases h; exact zv_aload hm hv k
    · rename_i hv; cases h; exact zv_aloadN hm hv k
    · cases h
  | aload_n i =>
    have hn : n = 1 := by simpa [zs_len] using hl
    subst hn
    dsimp only at h
    split at h
    · rename_i hv; cases h; exact zv_aload_n hm hv k
    · rename_i hv; cases h; exact zv_aload_nN hm hv k
    · cases h
  | istore i =>
    have hn : n = 2 := by simpa [zs_len] using hl
    subst hn
    dsimp only at h
    split at h
    · split at h
      · rename_i hi; cases h; exact zv_istore hm hi k
      · cases h
    · cases h
  | istore_n i =>
    have hn : n = 1 := by simpa [zs_len] using hl
    subst hn
    dsimp only at h
    split at h
    · split at h
      · rename_i hi; cases h; exact zv_istore_n hm hi k
      · cases h
    · cases h
  | lstore i =>
    have hn : n = 2 := by simpa [zs_len] using hl
    subst hn
    dsimp only at h
    split at h
    · split at h
      · rename_i hi; cases h; exact zv_lstore hm hi k
      · cases h
    · cases h
  | lstore_n i =>
    have hn : n = 1 := by simpa [zs_len] using hl
    subst hn
    dsimp only at h
    split at h
    · split at h
      · rename_i hi; cases h; exact zv_lstore_n hm hi k
      · cases h
    · cases h
  | astore i =>
    have hn : n = 2 := by simpa [zs_len] using hl
    subst hn
    dsimp only at h
    split at h
    · split at h
      · rename_i hi; cases h; exact zv_astore hm hi k
      · cases h
    · split at h
      · rename_i hi; cases h; exact zv_astoreN hm hi k
      · cases h
    · cases h
  | astore_n i =>
    have hn : n = 1 := by simpa [zs_len] using hl
    subst hn
    dsimp only at h
    split at h
    · split at h
      · rename_i hi; cases h; exact zv_astore_n hm hi k
      · cases h
    · split at h
      · rename_i hi; cases h; exact zv_astore_nN hm hi k
      · cases h
    · cases h
  | iinc i v =>
    have hn : n = 3 := by simpa [zs_len] using hl
    subst hn
    dsimp only at h
    split at h
    · rename_i hv; cases h; exact zv_iinc hm hv k
    · cases h
  | dup  =>
    have hn : n = 1 := by simpa [zs_len] using hl
    subst hn
    dsimp only at h
    split at h
    · cases h; exact zv_dup hm rfl k
    · cases h; exact zv_dup hm rfl k
    · cases h
  | pop  =>
    have hn : n = 1 := by simpa [zs_len] using hl
    subst hn
    dsimp only at h
    split at h
    · cases h; exact zv_pop hm rfl k
    · cases h; exact zv_pop hm rfl k
    · cases h
  | dup2  =>
    have hn : n = 1 := by simpa [zs_len] using hl
    subst hn
    dsimp only at h
    split at h
    · cases h; exact zv_dup2 hm rfl rfl k
    · cases h
  | goto off =>
    have hn : n = 3 := by simpa [zs_len] using hl
    subst hn
    dsimp only at h
    split at h
    · rename_i hq; cases h; exact zv_goto hm (Int.toNat_of_nonneg hq).symm k
    · cases h
  | getfield idx =>
    have hn : n = 3 := by simpa [zs_len] using hl
    subst hn
    dsimp only at h
    split at h
    · split at h
      · rename_i h1 h2
        split at h
        · rename_i h3
          split at h
          · rename_i h4
            cases h
            subst h3
            exact zv_get hm (zf_ok h1) h2 h4 k
          · cases h
        · cases h
      · cases h
    · cases h
  | putfield idx =>
    have hn : n = 3 := by simpa [zs_len] using hl
    subst hn
    dsimp only at h
    split at h
    · split at h
      · rename_i h1 h2
        split at h
        · rename_i h3
          cases h
          obtain ⟨rfl, h4, h5, h6⟩ := h3
          exact zs_putI hm (zf_ok h1) h2 h6 h4 (fun q => zfF_ok h1 (h5 q)) k
        · cases h
      · cases h
    · split at h
      · rename_i h1 h2
        split at h
        · rename_i h3
          cases h
          obtain ⟨rfl, h4, h5, h6⟩ := h3
          exact zs_putL hm (zf_ok h1) h2 h6 h4 (fun q => zfF_ok h1 (h5 q)) k
        · cases h
      · cases h
    · split at h
      · rename_i h1 h2
        split at h
        · rename_i h3
          cases h
          obtain ⟨rfl, h4, h5, h6⟩ := h3
          exact zs_putR (v := some _) hm (zf_ok h1) h2 h6 h4 (fun q => zfF_ok h1 (h5 q)) k
        · cases h
      · cases h
    · split at h
      · rename_i h1 h2
        split at h
        · rename_i h3
          cases h
          obtain ⟨rfl, h4, h5, h6⟩ := h3
          exact zs_putR (v := none) hm (zf_ok h1) h2 h6 h4 (fun q => zfF_ok h1 (h5 q)) k
        · cases h
      · cases h
    · cases h
  | arraylength  =>
    have hn : n = 1 := by simpa [zs_len] using hl
    subst hn
    dsimp only at h
    split at h
    · split at h
      · rename_i h1
        split at h
        · rename_i h2; cases h; exact zv_alen hm h1 h2 k
        · cases h
      · cases h
    · cases h
  | iaload  =>
    have hn : n = 1 := by simpa [zs_len] using hl
    subst hn
    dsimp only at h
    split at h
    · split at h
      · rename_i h1
        split at h
        · rename_i h2
          cases h
          obtain ⟨rfl, h3, h4⟩ := h2
          exact zv_iald hm h1 (fun q => q.elim h3 (fun w => absurd h4 (Nat.not_lt.mpr w))) k
        · cases h
      · cases h
    · cases h
  | iastore  =>
    have hn : n = 1 := by simpa [zs_len] using hl
    subst hn
    dsimp only at h
    split at h
    · split at h
      · rename_i h1
        split at h
        · rename_i h2
          cases h
          obtain ⟨rfl, h3, h4⟩ := h2
          exact zv_iast hm h1 (fun q => q.elim h3 (fun w => absurd h4 (Nat.not_lt.mpr w))) k
        · cases h
      · cases h
    · cases h
  | _ => dsimp only at h; cases h
end
def zs_run (M : zx_M) (S : zx_S) : List (Nat × Instr × Nat) → Nat → zx_F6 → Option zx_F6
  | _, 0, x => some x
  | [], _ + 1, _ => none
  | e :: es, k + 1, x => if e.1 = x.1 ∧ zs_len e.2.1 e.2.2 = true then (match zs_step M S e.2.1 x with | some y => zs_run M S es k y | none => none) else none
def zs_from : List (Nat × Instr × Nat) → Nat → List (Nat × Instr × Nat)
  | [], _ => []
  | e :: es, pc => if e.1 = pc then e :: es else zs_from es pc
theorem zs_from_sub : ∀ (l : List (Nat × Instr × Nat)) (pc : Nat), ∀ e ∈ zs_from l pc, e ∈ l
  | [], _, e, h => h
  | x :: l, pc, e, h => by
    unfold zs_from at h
    split at h
    · exact h
    · exact List.mem_cons_of_mem _ (zs_from_sub l pc e h)
theorem zs_run_ok {M : zx_M} {d : Nat} {b : zx_B} {Q : zx_Qt} {S : zx_S} : ∀ (k : Nat) (es : List (Nat × Instr × Nat)) (x y : zx_F6), (∀ e ∈ es, e ∈ M.2.2.2.2.2) → zs_run M S es k x = some y → zx_V M d b Q S y.1 y.2.1 y.2.2.1 y.2.2.2.1 y.2.2.2.2.1 y.2.2.2.2.2 → zx_V M d b Q S x.1 x.2.1 x.2.2.1 x.2.2.2.1 x.2.2.2.2.1 x.2.2.2.2.2
  | 0, es, x, y, _, h, v => by
    have : x = y := by cases es <;> exact Option.some.inj h
    rw [this]; exact v
  | k + 1, [], x, y, _, h, v => by cases h
  | k + 1, e :: es, x, y, hs, h, v => by
    unfold zs_run at h
    split at h
    · rename_i hc
      split at h
      · rename_i z hz
        have ih := zs_run_ok k es z y (fun e he => hs e (List.mem_cons_of_mem _ he)) h v
        have hmem : (x.1, e.2.1, e.2.2) ∈ M.2.2.2.2.2 := by rw [← hc.1]; exact hs e List.mem_cons_self
        exact zs_ok hmem hc.2 hz ih
      · cases h
    · cases h
theorem zv_run {M : zx_M} {d : Nat} {b : zx_B} {Q : zx_Qt} {S : zx_S} {pc : Nat} {lo : List (Option Value)} {st : List Value} {I : zx_I} {L : zx_L} {R : zx_R} (k : Nat) {pc' : Nat} {lo' : List (Option Value)} {st' : List Value} {I' : zx_I} {L' : zx_L} {R' : zx_R} (h : zs_run M S (zs_from M.2.2.2.2.2 pc) k (pc, lo, st, I, L, R) = some (pc', lo', st', I', L', R')) (kk : zx_V M d b Q S pc' lo' st' I' L' R') : zx_V M d b Q S pc lo st I L R := zs_run_ok k _ _ _ (zs_from_sub _ _) h kk
/-- the row at a place -/
theorem zs_at {l : List (Nat × Instr × Nat)} {pc : Nat} {i : Instr} {n : Nat} (h : (zs_from l pc).head? = some (pc, i, n)) : (pc, i, n) ∈ l := zs_from_sub l pc _ (List.mem_of_mem_head? h)
end
section
/-! the worlds of the class and of the model, and the calls that end in one state -/
def zw_SC : zx_S := [(9, 11), (101, 400), (6, 3), (100, 6), (5, 15), (100, 4), (100, 4), (103, 6), (2, 14), (2, 14), (2, 14), (2, 14), (2, 14), (2, 14), (5, 15), (100, 4), (100, 4), (103, 6), (2, 14), (2, 14), (2, 14), (2, 14), (2, 14), (2, 14), (8, 4), (100, 6), (100, 6), (104, 2), (8, 4), (100, 6), (100, 6), (8, 4), (100, 6), (100, 6), (0, 8), (100, 6), (3, 8), (7, 4), (100, 6), (4, 3), (1, 4), (100, 6)]
def zw_RT (h sp : Nat) (last : Option Nat) : List (List (Option Nat)) := [[some 1, none, some 2, some h, some sp, some 24, some 27, none, some 34, some 36, some 41], [], [some 3], [], [none, none, none, none, none, none, some 5, some 6, none, none, none, none, none, none, some 7], [], [], [some 8, some 9, some 10, some 11, some 12, some 13], [], [], [], [], [], [], [none, none, none, none, none, none, some 15, some 16, none, none, none, none, none, none, some 17], [], [], [some 18, some 19, some 20, some 21, some 22, some 23], [], [], [], [], [], [], [some 25, none, none, some 26], [], [], [some 28, some 31], [some 29, none, none, some 30], [], [], [some 32, none, none, some 33], [], [], [none, none, none, none, some 35], [], [some 37, some 39, some 40, none, last], [some 38]]
def zw_RC (h sp : Nat) (last : Option Nat) : zx_R := fun a k => ((zw_RT h sp last).getD a []).getD k none
def zw_SM : zx_S := [(10, 36), (100, 400), (100, 65), (100, 65), (100, 6), (100, 6), (100, 12), (100, 2), (102, 2), (100, 12), (100, 6), (100, 6), (100, 6), (100, 6), (100, 6), (100, 6), (100, 6), (100, 6), (100, 6), (100, 6)]
/-- ends in just this state -/
def zw_ret (r : Option Value) (S : zx_S) (I : zx_I) (L : zx_L) (R : zx_R) : zx_Qt := fun r' S' I' L' R' => r' = r ∧ S' = S ∧ I' = I ∧ L' = L ∧ R' = R
def z0 : zx_B := (0, 0, 0, 0)
theorem zw_here {r : Option Value} {S : zx_S} {I : zx_I} {L : zx_L} {R : zx_R} : zw_ret r S I L R r S I L R := ⟨rfl, rfl, rfl, rfl, rfl⟩
theorem zw_to {r r' : Option Value} {S : zx_S} {I I' : zx_I} {L L' : zx_L} {R R' : zx_R} (h1 : r = r') (h2 : I = I') (h3 : L = L') (h4 : R = R') : zw_ret r' S I' L' R' r S I L R := ⟨h1, rfl, h2, h3, h4⟩
section
variable {M : zx_M} {d : Nat} {b : zx_B} {Q : zx_Qt} {S : zx_S} {pc : Nat} {lo : List (Option Value)} {st : List Value} {I I' : zx_I} {L L' : zx_L} {R R' : zx_R}
theorem zv_cV {M' : zx_M} {idx np a ci n N : Nat} {T : u_T} {av : List Value} {r : Option Value} (hd : (zs_from M.2.2.2.2.2 pc).head? = some (pc, .invokevirtual idx, 3)) (hl : zcV M.2.2.2.2.1 idx M'.1 np) (hg' : zx_good M') (hs : S[a]? = some (ci, n)) (hcn : vwCl[ci]? = some (M'.1.cls, T, N)) (hnp : av.length = np)
    (hw : (st.map fun v => v.category).sum ≤ 8) (hc : zx_M0 M' d 0 0 (.ref a :: av) S I L R (zw_ret r S I' L' R')) (hb : b.1 ≤ b.2.2.1 ∧ b.2.1 ≤ b.2.2.2) (kk : zx_V M (d + 1) b Q S (pc + 3) lo (r.toList ++ st) I' L' R') : zx_V M (d + 1) b Q S pc lo (av.reverse ++ .ref a :: st) I L R :=
  zv_callV (zs_at hd) hl hg' hs hcn hnp hc hb hw (fun r1 S1 I1 L1 R1 hq => by obtain ⟨rfl, rfl, rfl, rfl, rfl⟩ := hq; exact kk)
theorem zv_cS {M' : zx_M} {idx np : Nat} {av : List Value} {r : Option Value} (hd : (zs_from M.2.2.2.2.2 pc).head? = some (pc, .invokestatic idx, 3)) (hl : zcS M.2.2.2.2.1 idx M'.1 np) (hg' : zx_good M') (hnp : av.length = np)
    (hw : (st.map fun v => v.category).sum ≤ 8) (hc : zx_M0 M' d 0 0 av S I L R (zw_ret r S I' L' R')) (hb : b.1 ≤ b.2.2.1 ∧ b.2.1 ≤ b.2.2.2) (kk : zx_V M (d + 1) b Q S (pc + 3) lo (r.toList ++ st) I' L' R') : zx_V M (d + 1) b Q S pc lo (av.reverse ++ st) I L R :=
  zv_callS (zs_at hd) hl hg' hnp hc hb hw (fun r1 S1 I1 L1 R1 hq => by obtain ⟨rfl, rfl, rfl, rfl, rfl⟩ := hq; exact kk)
end
/-- an index within, out of what is tested -/
theorem zin {x y : Int32} {n : Nat} (h0 : ¬ x < 0) (h1 : x < y) (hy : y.toInt ≤ n) : vp_in x n := by
  rw [Int32.lt_iff_toInt_lt] at h0 h1
  refine vp_in_iff.mpr ⟨?_, ?_⟩
  · have : (0 : Int32).toInt = 0 := rfl
    omega
  · omega
theorem zge {x y : Int32} (h : ¬ x ≥ y) : x < y := by
  rw [ge_iff_le, Int32.le_iff_toInt_le] at h
  rw [Int32.lt_iff_toInt_lt]
  omega
-- a first block
theorem z_try1 {d : Nat} {I : zx_I} {L : zx_L} {h sp : Nat} {la : Option Nat} : zx_M0 mm_X7_holds d 0 0 [.ref 37] zw_SC I L (zw_RC h sp la) (zw_ret (some (.int (I 37 1 * I 37 2))) zw_SC I L (zw_RC h sp la)) := by
  refine zv_entry gd_X7_holds (by decide) ?_
  refine zv_run 5 (pc' := 9) (lo' := [some (.ref 37)]) (st' := [.int (I 37 1 * I 37 2)]) (I' := I) (L' := L) (R' := zw_RC h sp la) rfl ?_
  exact zv_iret (zs_at rfl) rfl ⟨Nat.le_refl _, Nat.le_refl _⟩ zw_here
end
section
/-! Math.max, Math.min, System.arraycopy -/
section
variable {M : zx_M} {d : Nat} {b : zx_B} {Q : zx_Qt} {S : zx_S} {pc : Nat} {lo : List (Option Value)} {st : List Value} {I : zx_I} {L : zx_L} {R : zx_R}
theorem zx_sum {ad : Nat → Nat} : ((st.map (zx_rl ad)).map fun v => v.category).sum = (st.map fun v => v.category).sum := by
  rw [List.map_map]
  congr 1
  exact List.map_congr_left fun v _ => zx_rl_cat ad v
def zj_max (oc idx : Nat) : Prop := ∃ own, zt_own[oc]? = some own ∧ Cond.methodLink own idx Lib.Math.max.name ∈ zx_G ∧ Cond.static Lib.Math.max.name ∈ zx_G ∧ Cond.initialized "java/lang/Math" ∈ zx_G ∧ Cond.code Lib.Math.max.name Lib.Math.max.code 2 (some .int) ∈ zx_G
def zj_min (oc idx : Nat) : Prop := ∃ own, zt_own[oc]? = some own ∧ Cond.methodLink own idx Lib.Math.min.name ∈ zx_G ∧ Cond.static Lib.Math.min.name ∈ zx_G ∧ Cond.initialized "java/lang/Math" ∈ zx_G ∧ Cond.code Lib.Math.min.name Lib.Math.min.code 2 (some .int) ∈ zx_G
theorem zv_max {idx : Nat} {x y : Int32} (hd : (zs_from M.2.2.2.2.2 pc).head? = some (pc, .invokestatic idx, 3)) (hl : zj_max M.2.2.2.2.1 idx) (hw : (st.map fun v => v.category).sum ≤ 8) (hb : b.1 ≤ b.2.2.1 ∧ b.2.1 ≤ b.2.2.2) (k : zx_V M (d + 1) b Q S (pc + 3) lo (.int (if x < y then y else x) :: st) I L R) : zx_V M (d + 1) b Q S pc lo (.int y :: .int x :: st) I L R := by
  intro p l e s m args below meth c D cA A ad0 ad n0 H locs ls hg hC hX hS hA hll hol hos hn0 had
  have h9 := hg.1 _ (zs_at hd)
  obtain ⟨own, ho, w1, w2, w3, w4⟩ := hl
  have hown : own = M.1.cls := Option.some.inj (ho.symm.trans hg.2.2.2.1)
  subst hown
  have h8 := k p l e s m args below meth c D cA A ad0 ad n0 H locs ls hg hC hX hS hA hll hol (zo_c trivial (zo_t (zo_t hos))) hn0 had
  have hts := hC.2.2.2.2.2.1
  exact va_mmax hC.1 hC.2.1 (hC.2.2.2.1.trans hll.1.symm) hC.2.2.2.2.1 (hts _ w1) (hts _ w2) (hts _ w3) (hts _ w4) (by show 1 ≤ d + 1; omega) (by show _ + 13 ≤ 40 * (d + 1); rw [zx_sum]; omega) hb.1 hb.2 h9 h8
theorem zv_min {idx : Nat} {x y : Int32} (hd : (zs_from M.2.2.2.2.2 pc).head? = some (pc, .invokestatic idx, 3)) (hl : zj_min M.2.2.2.2.1 idx) (hw : (st.map fun v => v.category).sum ≤ 8) (hb : b.1 ≤ b.2.2.1 ∧ b.2.1 ≤ b.2.2.2) (k : zx_V M (d + 1) b Q S (pc + 3) lo (.int (if y < x then y else x) :: st) I L R) : zx_V M (d + 1) b Q S pc lo (.int y :: .int x :: st) I L R := by
  intro p l e s m args below meth c D cA A ad0 ad n0 H locs ls hg hC hX hS hA hll hol hos hn0 had
  have h9 := hg.1 _ (zs_at hd)
  obtain ⟨own, ho, w1, w2, w3, w4⟩ := hl
  have hown : own = M.1.cls := Option.some.inj (ho.symm.trans hg.2.2.2.1)
  subst hown
  have h8 := k p l e s m args below meth c D cA A ad0 ad n0 H locs ls hg hC hX hS hA hll hol (zo_c trivial (zo_t (zo_t hos))) hn0 had
  have hts := hC.2.2.2.2.2.1
  exact va_mmin hC.1 hC.2.1 (hC.2.2.2.1.trans hll.1.symm) hC.2.2.2.2.1 (hts _ w1) (hts _ w2) (hts _ w3) (hts _ w4) (by show 1 ≤ d + 1; omega) (by show _ + 13 ≤ 40 * (d + 1); rw [zx_sum]; omega) hb.1 hb.2 h9 h8
def zj_cp (oc idx : Nat) : Prop := ∃ own, zt_own[oc]? = some own ∧ Cond.methodLink own idx arraycopyName ∈ zx_G ∧ Cond.native arraycopyName ∈ zx_G ∧ Cond.static arraycopyName ∈ zx_G ∧ Cond.initialized "java/lang/System" ∈ zx_G
/-- a row becomes another's copy -/
theorem zv_copy {idx a0 a n0' n1 : Nat} {n : Int32} (hd : (zs_from M.2.2.2.2.2 pc).head? = some (pc, .invokestatic idx, 3)) (hl : zj_cp M.2.2.2.2.1 idx) (h0 : S[a0]? = some (100, n0')) (h1 : S[a]? = some (100, n1)) (hn : ¬ n < 0) (hn0' : n.toNatClampNeg ≤ n0') (hn1 : n.toNatClampNeg ≤ n1) (hw : (st.map fun v => v.category).sum ≤ 8)
    (kk : zx_V M (d + 1) b Q S (pc + 3) lo st (fun x => if x = a then va_cpy (I a0) (I a) 0 0 n.toNatClampNeg else I x) L R) : zx_V M (d + 1) b Q S pc lo (.int n :: .int 0 :: .ref a :: .int 0 :: .ref a0 :: st) I L R := by
  intro p l e s m args below meth c D cA A ad0 ad n0 H locs ls hg hC hX hS hA hll hol hos hn0 had
  have h9 := hg.1 _ (zs_at hd)
  obtain ⟨own, ho, w1, w2, w3, w4⟩ := hl
  have hown : own = M.1.cls := Option.some.inj (ho.symm.trans hg.2.2.2.1)
  subst hown
  have hts := hC.2.2.2.2.2.1
  have hset : zx_W cA ad S (fun x => if x = a then va_cpy (I a0) (I a) 0 0 n.toNatClampNeg else I x) L R = (zx_W cA ad S I L R).set a (ad a, .inl (cA 100, n1, .inl (va_cpy (I a0) (I a) 0 0 n.toNatClampNeg))) := by
    rw [zx_W_aset (I := I) (I' := fun x => if x = a then va_cpy (I a0) (I a) 0 0 n.toNatClampNeg else I x) (L := L) (L' := L) (R := R) (R' := R) h1 (by decide) (fun b hb => ⟨by simp [hb], rfl, rfl⟩)]
    simp [zx_row]
  have z0 : (0 : Int32).toNatClampNeg = 0 := rfl
  have h8 : ∀ (H1 : Heap) (locs1 : List Loc), va_P D vwCl ((zx_W cA ad S I L R).set a (ad a, .inl (cA 100, n1, .inl (va_cpy (I a0) (I a) (0 : Int32).toNatClampNeg (0 : Int32).toNatClampNeg n.toNatClampNeg)))) H1 → va_D A ((zx_W cA ad S I L R).set a (ad a, .inl (cA 100, n1, .inl (va_cpy (I a0) (I a) (0 : Int32).toNatClampNeg (0 : Int32).toNatClampNeg n.toNatClampNeg)))) → va_S A s.heap H1 locs1 → W p l e (zx_rm (d + 1) b.2.2.1 b.2.2.2) s m args below meth c H1 locs1 b.1 b.2.1 (MQ below (zx_Q D cA A ad0 n0 Q) args s b.2.2.1 b.2.2.2 A) (F0 m (pc + 3) ls (st.map (zx_rl ad))) := by
    intro H1 locs1 g1 g2 g3
    rw [z0, ← hset] at g1 g2
    exact kk p l e s m args below meth c D cA A ad0 ad n0 H1 locs1 ls hg hC ⟨g1, g2, hX.2.2.1, hX.2.2.2.1, hX.2.2.2.2⟩ g3 hA hll hol (zo_t (zo_t (zo_t (zo_t (zo_t hos))))) hn0 had
  have hnz : ¬ (0 : Int32) < 0 := by decide
  have hnf : nativeFrameWords "java/lang/System" "arraycopy" 5 ≤ 20 := by decide +kernel
  exact va_copyi (D := D) (R := zx_rm (d + 1) b.2.2.1 b.2.2.2) (rest := st.map (zx_rl ad)) hC.1 hC.2.1 (hC.2.2.2.1.trans hll.1.symm) hC.2.2.2.2.1 (hts _ w1) (hts _ w2) (hts _ w3) (hts _ w4) hX.2.2.1 hX.1 hX.2.1 hS a0 a 0 0 (zx_W_arr h0 (by decide)) (zx_W_arr h1 (by decide)) rfl rfl rfl hnz hnz hn (by rw [z0]; omega) (by rw [z0]; omega) (fun _ _ => rfl) (by show 1 ≤ d + 1; omega) (by show ((st.map (zx_rl ad)).map fun v => v.category).sum + (nativeFrameWords "java/lang/System" "arraycopy" 5 + 11) ≤ 40 * (d + 1); rw [zx_sum]; omega) h9 h8
end
end
section
/-! calls of the JDK, classes that are made, by program -/
theorem zq_max1 : Cond.static Lib.Math.max.name ∈ zx_G := zg_at (i := 543) (by decide +kernel) (by decide +kernel)
theorem zq_max2 : Cond.initialized "java/lang/Math" ∈ zx_G := zg_at (i := 57) (by decide +kernel) (by decide +kernel)
theorem zq_max3 : Cond.code Lib.Math.max.name Lib.Math.max.code 2 (some .int) ∈ zx_G := zg_at (i := 544) (by decide +kernel) (by decide +kernel)
theorem zq_min1 : Cond.static Lib.Math.min.name ∈ zx_G := zg_at (i := 540) (by decide +kernel) (by decide +kernel)
theorem zq_min2 : Cond.initialized "java/lang/Math" ∈ zx_G := zg_at (i := 57) (by decide +kernel) (by decide +kernel)
theorem zq_min3 : Cond.code Lib.Math.min.name Lib.Math.min.code 2 (some .int) ∈ zx_G := zg_at (i := 541) (by decide +kernel) (by decide +kernel)
theorem zq_cp1 : Cond.native arraycopyName ∈ zx_G := zg_at (i := 608) (by decide +kernel) (by decide +kernel)
theorem zq_cp2 : Cond.static arraycopyName ∈ zx_G := zg_at (i := 607) (by decide +kernel) (by decide +kernel)
theorem zq_cp3 : Cond.initialized "java/lang/System" ∈ zx_G := zg_at (i := 58) (by decide +kernel) (by decide +kernel)
theorem zq_oi1 : Cond.instanceMethod Lib.objectInit ∈ zx_G := zg_at (i := 66) (by decide +kernel) (by decide +kernel)
theorem zq_oi2 : Cond.code Lib.objectInit ⟨#[0xb1]⟩ 1 none ∈ zx_G := zg_at (i := 67) (by decide +kernel) (by decide +kernel)
theorem zm_0_3 : Cond.methodLink RX0 3 Lib.objectInit ∈ zx_G := zg_at (i := 278) (by decide +kernel) (by decide +kernel)
theorem zm_0_34 : zj_cp 0 34 := ⟨_, rfl, zg_at (i := 606) (by decide +kernel) (by decide +kernel), zq_cp1, zq_cp2, zq_cp3⟩
theorem zm_0_49 : zj_min 0 49 := ⟨_, rfl, zg_at (i := 718) (by decide +kernel) (by decide +kernel), zq_min1, zq_min2, zq_min3⟩
theorem zm_1_3 : Cond.methodLink RX1 3 Lib.objectInit ∈ zx_G := zg_at (i := 362) (by decide +kernel) (by decide +kernel)
theorem zm_2_3 : Cond.methodLink RX2 3 Lib.objectInit ∈ zx_G := zg_at (i := 100) (by decide +kernel) (by decide +kernel)
theorem zm_3_3 : Cond.methodLink RX3 3 Lib.objectInit ∈ zx_G := zg_at (i := 318) (by decide +kernel) (by decide +kernel)
theorem zw_3_9 : zcN 3 9 7 4 := ⟨_, _, _, _, rfl, zk_7, zg_at (i := 319) (by decide +kernel) (by decide +kernel), zg_at (i := 320) (by decide +kernel) (by decide +kernel), zg_at (i := 53) (by decide +kernel) (by decide +kernel)⟩
theorem zw_3_18 : zcN 3 18 4 3 := ⟨_, _, _, _, rfl, zk_4, zg_at (i := 339) (by decide +kernel) (by decide +kernel), zg_at (i := 340) (by decide +kernel) (by decide +kernel), zg_at (i := 54) (by decide +kernel) (by decide +kernel)⟩
theorem zw_3_25 : zcN 3 25 1 4 := ⟨_, _, _, _, rfl, zk_1, zg_at (i := 357) (by decide +kernel) (by decide +kernel), zg_at (i := 358) (by decide +kernel) (by decide +kernel), zg_at (i := 55) (by decide +kernel) (by decide +kernel)⟩
theorem zm_3_75 : zj_min 3 75 := ⟨_, rfl, zg_at (i := 675) (by decide +kernel) (by decide +kernel), zq_min1, zq_min2, zq_min3⟩
theorem zm_4_3 : Cond.methodLink RX4 3 Lib.objectInit ∈ zx_G := zg_at (i := 344) (by decide +kernel) (by decide +kernel)
theorem zm_5_3 : Cond.methodLink RX5 3 Lib.objectInit ∈ zx_G := zg_at (i := 93) (by decide +kernel) (by decide +kernel)
theorem zw_5_18 : zcN 5 18 2 14 := ⟨_, _, _, _, rfl, zk_2, zg_at (i := 94) (by decide +kernel) (by decide +kernel), zg_at (i := 96) (by decide +kernel) (by decide +kernel), zg_at (i := 49) (by decide +kernel) (by decide +kernel)⟩
theorem zy_5_18 : zcA 5 18 103 := ⟨_, "BathNight$Bather", rfl, zg_at (i := 94) (by decide +kernel) (by decide +kernel), zg_nat (i := 95) (by decide +kernel) rfl, Or.inl ⟨rfl, rfl⟩⟩
theorem zm_5_68 : zj_cp 5 68 := ⟨_, rfl, zg_at (i := 753) (by decide +kernel) (by decide +kernel), zq_cp1, zq_cp2, zq_cp3⟩
theorem zm_5_78 : zj_min 5 78 := ⟨_, rfl, zg_at (i := 762) (by decide +kernel) (by decide +kernel), zq_min1, zq_min2, zq_min3⟩
theorem zm_5_156 : zj_max 5 156 := ⟨_, rfl, zg_at (i := 696) (by decide +kernel) (by decide +kernel), zq_max1, zq_max2, zq_max3⟩
theorem zm_6_3 : Cond.methodLink RX6 3 Lib.objectInit ∈ zx_G := zg_at (i := 73) (by decide +kernel) (by decide +kernel)
theorem zm_7_3 : Cond.methodLink RX7 3 Lib.objectInit ∈ zx_G := zg_at (i := 324) (by decide +kernel) (by decide +kernel)
theorem zm_7_24 : zj_min 7 24 := ⟨_, rfl, zg_at (i := 539) (by decide +kernel) (by decide +kernel), zq_min1, zq_min2, zq_min3⟩
theorem zm_7_32 : zj_max 7 32 := ⟨_, rfl, zg_at (i := 542) (by decide +kernel) (by decide +kernel), zq_max1, zq_max2, zq_max3⟩
theorem zm_8_3 : Cond.methodLink RX8 3 Lib.objectInit ∈ zx_G := zg_at (i := 247) (by decide +kernel) (by decide +kernel)
theorem zm_8_29 : zj_cp 8 29 := ⟨_, rfl, zg_at (i := 799) (by decide +kernel) (by decide +kernel), zq_cp1, zq_cp2, zq_cp3⟩
theorem zm_9_1 : Cond.methodLink RX9 1 Lib.objectInit ∈ zx_G := zg_at (i := 65) (by decide +kernel) (by decide +kernel)
theorem zw_9_13 : zcN 9 13 6 3 := ⟨_, _, _, _, rfl, zk_6, zg_at (i := 68) (by decide +kernel) (by decide +kernel), zg_at (i := 69) (by decide +kernel) (by decide +kernel), zg_at (i := 47) (by decide +kernel) (by decide +kernel)⟩
theorem zw_9_20 : zcN 9 20 5 15 := ⟨_, _, _, _, rfl, zk_5, zg_at (i := 88) (by decide +kernel) (by decide +kernel), zg_at (i := 89) (by decide +kernel) (by decide +kernel), zg_at (i := 48) (by decide +kernel) (by decide +kernel)⟩
theorem zw_9_30 : zcN 9 30 8 4 := ⟨_, _, _, _, rfl, zk_8, zg_at (i := 242) (by decide +kernel) (by decide +kernel), zg_at (i := 243) (by decide +kernel) (by decide +kernel), zg_at (i := 50) (by decide +kernel) (by decide +kernel)⟩
theorem zy_9_30 : zcA 9 30 104 := ⟨_, "BathNight$Wishes", rfl, zg_at (i := 242) (by decide +kernel) (by decide +kernel), zg_nat (i := 272) (by decide +kernel) rfl, Or.inr ⟨rfl, rfl⟩⟩
theorem zw_9_41 : zcN 9 41 0 8 := ⟨_, _, _, _, rfl, zk_0, zg_at (i := 273) (by decide +kernel) (by decide +kernel), zg_at (i := 274) (by decide +kernel) (by decide +kernel), zg_at (i := 51) (by decide +kernel) (by decide +kernel)⟩
theorem zw_9_48 : zcN 9 48 3 8 := ⟨_, _, _, _, rfl, zk_3, zg_at (i := 313) (by decide +kernel) (by decide +kernel), zg_at (i := 314) (by decide +kernel) (by decide +kernel), zg_at (i := 52) (by decide +kernel) (by decide +kernel)⟩
theorem zm_10_1 : Cond.methodLink RX10 1 Lib.objectInit ∈ zx_G := zg_at (i := 819) (by decide +kernel) (by decide +kernel)
theorem zq_byte : Cond.arrayClass .byte ∈ zx_G := zg_at (i := 86) (by decide +kernel) (by decide +kernel)
theorem zq_int : Cond.arrayClass .int ∈ zx_G := zg_at (i := 87) (by decide +kernel) (by decide +kernel)
theorem zq_long : Cond.arrayClass .long ∈ zx_G := zg_at (i := 936) (by decide +kernel) (by decide +kernel)
end
section
/-! the tank: each method is a function of the memory -/
def zr (I : zx_I) (a : Nat) (f : Nat → Int32) : zx_I := fun x => if x = a then f else I x
theorem zr_of {I J : zx_I} {a : Nat} (h : ∀ b, b ≠ a → J b = I b) : J = zr I a (J a) := by
  funext b
  by_cases hb : b = a
  · subst hb; simp [zr]
  · simp [zr, hb, h b hb]
def tk_ok (I : zx_I) : Prop := 1 ≤ (I 37 1).toInt ∧ (I 37 1).toInt ≤ 6 ∧ 1 ≤ (I 37 2).toInt ∧ (I 37 2).toInt ≤ 60
theorem tk_ne {I : zx_I} (h : tk_ok I) : ¬ I 37 2 = 0 := fun q => by
  have := h.2.2.1
  rw [q] at this
  exact absurd this (by decide)
theorem tk_6 {I : zx_I} (h : tk_ok I) : (I 37 1).toInt ≤ ((6 : Nat) : Int) := h.2.1
theorem tk_m {I : zx_I} (h : tk_ok I) : ∃ m, 1 ≤ m ∧ m ≤ 6 ∧ I 37 1 = nI m := by
  refine ⟨(I 37 1).toInt.toNat, ?_, ?_, ?_⟩
  · have := h.1; omega
  · have := h.2.1; omega
  · apply Int32.toInt_inj.mp
    rw [nI_toInt (by have := h.2.1; omega)]
    have := h.1
    omega
def ft_unitsIn (I : zx_I) (l : Int32) : Int32 := if l < 0 then 0 else if l < I 37 1 then I 38 l.toNatClampNeg else 0
def ft_part (I : zx_I) (l q : Int32) : Int32 := if l < 0 then I 37 3 * q else if l < I 37 1 then I 38 l.toNatClampNeg * q / I 37 2 else I 37 3 * q
theorem ct_X7_holds {d : Nat} {I : zx_I} {L : zx_L} {h sp : Nat} {la : Option Nat}   : zx_M0 mm_X7_holds (d + 0) 0 0 [.ref 37] zw_SC I L (zw_RC h sp la) (zw_ret (some (.int (I 37 1 * I 37 2))) zw_SC I L (zw_RC h sp la)) := by
  refine zv_entry gd_X7_holds (Nat.le_of_ble_eq_true rfl) ?_
  refine zv_run 5 (pc' := 9) (lo' := [some (.ref 37)]) (st' := [.int ((I 37 1) * (I 37 2))]) (I' := I) (L' := L) (R' := zw_RC h sp la) rfl ?_
  exact zv_iret (zs_at rfl) rfl ⟨Nat.le_refl _, Nat.le_refl _⟩ zw_here
theorem ct_X7_unitsIn {d : Nat} {I : zx_I} {L : zx_L} {h sp : Nat} {la : Option Nat} {l : Int32} (hT : tk_ok I) : zx_M0 mm_X7_unitsIn (d + 0) 0 0 [.ref 37, .int l] zw_SC I L (zw_RC h sp la) (zw_ret (some (.int (ft_unitsIn I l))) zw_SC I L (zw_RC h sp la)) := by
  refine zv_entry gd_X7_unitsIn (Nat.le_of_ble_eq_true rfl) ?_
  refine zv_run 1 (pc' := 1) (lo' := [some (.ref 37), some (.int l)]) (st' := [.int l]) (I' := I) (L' := L) (R' := zw_RC h sp la) rfl ?_
  refine zv_if_lt (tgt := 12) (zs_at rfl) (by decide) (fun c1 => ?_) (fun c1 => ?_)
  · have _c := c1
    refine zv_run 2 (pc' := 22) (lo' := [some (.ref 37), some (.int l)]) (st' := [.int 0]) (I' := I) (L' := L) (R' := zw_RC h sp la) rfl ?_
    exact zv_iret (zs_at rfl) rfl ⟨Nat.le_refl _, Nat.le_refl _⟩ (zw_to (by simp [ft_unitsIn, *]) rfl rfl rfl)
  · have _c := c1
    refine zv_run 3 (pc' := 9) (lo' := [some (.ref 37), some (.int l)]) (st' := [.int (I 37 1), .int l]) (I' := I) (L' := L) (R' := zw_RC h sp la) rfl ?_
    refine zv_icmp_lt (tgt := 16) (zs_at rfl) (by decide) (fun c9 => ?_) (fun c9 => ?_)
    · have _c := c9
      refine zv_run 3 (pc' := 21) (lo' := [some (.ref 37), some (.int l)]) (st' := [.int l, .ref 38]) (I' := I) (L' := L) (R' := zw_RC h sp la) rfl ?_
      refine zv_iald (zs_at rfl) rfl (zin c1 c9 (tk_6 hT)) ?_
      exact zv_iret (zs_at rfl) rfl ⟨Nat.le_refl _, Nat.le_refl _⟩ (zw_to (by simp [ft_unitsIn, *]) rfl rfl rfl)
    · have _c := c9
      refine zv_run 2 (pc' := 22) (lo' := [some (.ref 37), some (.int l)]) (st' := [.int 0]) (I' := I) (L' := L) (R' := zw_RC h sp la) rfl ?_
      exact zv_iret (zs_at rfl) rfl ⟨Nat.le_refl _, Nat.le_refl _⟩ (zw_to (by simp [ft_unitsIn, *]) rfl rfl rfl)
theorem ct_X7_heatOf {d : Nat} {I : zx_I} {L : zx_L} {h sp : Nat} {la : Option Nat} {l : Int32} (hT : tk_ok I) : zx_M0 mm_X7_heatOf (d + 1) 0 0 [.ref 37, .int l] zw_SC I L (zw_RC h sp la) (zw_ret (some (.int (ft_unitsIn I l / I 37 2))) zw_SC I L (zw_RC h sp la)) := by
  refine zv_entry gd_X7_heatOf (Nat.le_of_ble_eq_true rfl) ?_
  refine zv_run 2 (pc' := 2) (lo' := [some (.ref 37), some (.int l)]) (st' := [.int l, .ref 37]) (I' := I) (L' := L) (R' := zw_RC h sp la) rfl ?_
  refine zv_cV (M' := mm_X7_unitsIn) (ci := 7) (a := 37) (av := [.int l]) (st := []) (r := some (.int (ft_unitsIn I l))) (I' := I) (L' := L) (R' := zw_RC h sp la) rfl zc_7_42 gd_X7_unitsIn rfl rfl rfl (Nat.le_of_ble_eq_true rfl) (ct_X7_unitsIn hT) ⟨Nat.le_refl _, Nat.le_refl _⟩ ?_
  refine zv_run 0 (pc' := 5) (lo' := [some (.ref 37), some (.int l)]) (st' := [.int (ft_unitsIn I l)]) (I' := I) (L' := L) (R' := zw_RC h sp la) rfl ?_
  refine zv_run 2 (pc' := 9) (lo' := [some (.ref 37), some (.int l)]) (st' := [.int (I 37 2), .int (ft_unitsIn I l)]) (I' := I) (L' := L) (R' := zw_RC h sp la) rfl ?_
  refine zv_idiv (zs_at rfl) (tk_ne hT) ?_
  exact zv_iret (zs_at rfl) rfl ⟨Nat.le_refl _, Nat.le_refl _⟩ zw_here
theorem ct_X7_unitsOfPart {d : Nat} {I : zx_I} {L : zx_L} {h sp : Nat} {la : Option Nat} {l q : Int32} (hT : tk_ok I) : zx_M0 mm_X7_unitsOfPart (d + 0) 0 0 [.ref 37, .int l, .int q] zw_SC I L (zw_RC h sp la) (zw_ret (some (.int (ft_part I l q))) zw_SC I L (zw_RC h sp la)) := by
  refine zv_entry gd_X7_unitsOfPart (Nat.le_of_ble_eq_true rfl) ?_
  refine zv_run 1 (pc' := 1) (lo' := [some (.ref 37), some (.int l), some (.int q)]) (st' := [.int l]) (I' := I) (L' := L) (R' := zw_RC h sp la) rfl ?_
  refine zv_if_lt (tgt := 12) (zs_at rfl) (by decide) (fun c1 => ?_) (fun c1 => ?_)
  · have _c := c1
    refine zv_run 5 (pc' := 34) (lo' := [some (.ref 37), some (.int l), some (.int q)]) (st' := [.int ((I 37 3) * q)]) (I' := I) (L' := L) (R' := zw_RC h sp la) rfl ?_
    exact zv_iret (zs_at rfl) rfl ⟨Nat.le_refl _, Nat.le_refl _⟩ (zw_to (by simp [ft_part, *]) rfl rfl rfl)
  · have _c := c1
    refine zv_run 3 (pc' := 9) (lo' := [some (.ref 37), some (.int l), some (.int q)]) (st' := [.int (I 37 1), .int l]) (I' := I) (L' := L) (R' := zw_RC h sp la) rfl ?_
    refine zv_icmp_lt (tgt := 21) (zs_at rfl) (by decide) (fun c9 => ?_) (fun c9 => ?_)
    · have _c := c9
      refine zv_run 3 (pc' := 26) (lo' := [some (.ref 37), some (.int l), some (.int q)]) (st' := [.int l, .ref 38]) (I' := I) (L' := L) (R' := zw_RC h sp la) rfl ?_
      refine zv_iald (zs_at rfl) rfl (zin c1 c9 (tk_6 hT)) ?_
      refine zv_run 4 (pc' := 33) (lo' := [some (.ref 37), some (.int l), some (.int q)]) (st' := [.int (I 37 2), .int ((I 38 l.toNatClampNeg) * q)]) (I' := I) (L' := L) (R' := zw_RC h sp la) rfl ?_
      refine zv_idiv (zs_at rfl) (tk_ne hT) ?_
      exact zv_iret (zs_at rfl) rfl ⟨Nat.le_refl _, Nat.le_refl _⟩ (zw_to (by simp [ft_part, *]) rfl rfl rfl)
    · have _c := c9
      refine zv_run 5 (pc' := 34) (lo' := [some (.ref 37), some (.int l), some (.int q)]) (st' := [.int ((I 37 3) * q)]) (I' := I) (L' := L) (R' := zw_RC h sp la) rfl ?_
      exact zv_iret (zs_at rfl) rfl ⟨Nat.le_refl _, Nat.le_refl _⟩ (zw_to (by simp [ft_part, *]) rfl rfl rfl)
def dr_loop (w q : Int32) : Nat → Nat → zx_I → zx_I
  | 0, _, J => J
  | n + 1, j, J => dr_loop w q n (j + 1) (zx_uI J 38 j (ft_part J (nI j + w) (J 37 2 - q) + ft_part J (nI j + w + 1) q))
theorem dr_loop_ne {w q : Int32} : ∀ (n j : Nat) (J : zx_I) (b : Nat), b ≠ 38 → dr_loop w q n j J b = J b
  | 0, _, _, _, _ => rfl
  | n + 1, j, J, b, hb => by
    unfold dr_loop
    rw [dr_loop_ne n (j + 1) _ b hb, zx_uI_ne hb]
def dr_row (I : zx_I) (h : Int32) : Nat → Int32 := dr_loop (h / I 37 2) (h - h / I 37 2 * I 37 2) (I 37 1).toInt.toNat 0 I 38
def ft_draw (I : zx_I) (h : Int32) : zx_I := zr I 38 (dr_row I h)
theorem lp_X7_draw {d : Nat} {L : zx_L} {h sp : Nat} {la : Option Nat} {w q hh : Int32} : ∀ (n j : Nat) (J : zx_I), tk_ok J → j + n ≤ 6 → J 37 1 = nI (j + n) → zx_V mm_X7_draw (d + 1) z0 (zw_ret none zw_SC (dr_loop w q n j J) L (zw_RC h sp la)) zw_SC 17 [some (.ref 37), some (.int hh), some (.int w), some (.int q), some (.int (nI j))] [] J L (zw_RC h sp la) := by
  intro n
  induction n with
  | zero =>
    intro j J hT hm hJ
    refine zv_run 3 (pc' := 23) (lo' := [some (.ref 37), some (.int hh), some (.int w), some (.int q), some (.int (nI j))]) (st' := [.int (J 37 1), .int (nI j)]) (I' := J) (L' := L) (R' := zw_RC h sp la) rfl ?_
    refine zv_icmp_ge (tgt := 65) (zs_at rfl) (by decide) (fun c23 => ?_) (fun c23 => ?_)
    · have _c := c23
      exact zv_vret (zs_at rfl) rfl ⟨Nat.le_refl _, Nat.le_refl _⟩ (zw_to rfl rfl rfl rfl)
    · exact absurd (by rw [hJ]; exact nI_le (by omega) (by omega)) c23
  | succ n ih =>
    intro j J hT hm hJ
    refine zv_run 3 (pc' := 23) (lo' := [some (.ref 37), some (.int hh), some (.int w), some (.int q), some (.int (nI j))]) (st' := [.int (J 37 1), .int (nI j)]) (I' := J) (L' := L) (R' := zw_RC h sp la) rfl ?_
    refine zv_icmp_ge (tgt := 65) (zs_at rfl) (by decide) (fun c23 => ?_) (fun c23 => ?_)
    · exact absurd c23 (by rw [hJ]; exact nI_ge (by omega) (by omega))
    · have _c := c23
      refine zv_run 11 (pc' := 43) (lo' := [some (.ref 37), some (.int hh), some (.int w), some (.int q), some (.int (nI j))]) (st' := [.int ((J 37 2) - q), .int ((nI j) + w), .ref 37, .int (nI j), .ref 38]) (I' := J) (L' := L) (R' := zw_RC h sp la) rfl ?_
      refine zv_cV (M' := mm_X7_unitsOfPart) (ci := 7) (a := 37) (av := [.int ((nI j) + w), .int ((J 37 2) - q)]) (st := [.int (nI j), .ref 38]) (r := some (.int (ft_part J ((nI j) + w) ((J 37 2) - q)))) (I' := J) (L' := L) (R' := zw_RC h sp la) rfl zc_7_46 gd_X7_unitsOfPart rfl rfl rfl (Nat.le_of_ble_eq_true rfl) (ct_X7_unitsOfPart (d := d) (I := J) hT) ⟨Nat.le_refl _, Nat.le_refl _⟩ ?_
      refine zv_run 0 (pc' := 46) (lo' := [some (.ref 37), some (.int hh), some (.int w), some (.int q), some (.int (nI j))]) (st' := [.int (ft_part J ((nI j) + w) ((J 37 2) - q)), .int (nI j), .ref 38]) (I' := J) (L' := L) (R' := zw_RC h sp la) rfl ?_
      refine zv_run 7 (pc' := 54) (lo' := [some (.ref 37), some (.int hh), some (.int w), some (.int q), some (.int (nI j))]) (st' := [.int q, .int (((nI j) + w) + 1), .ref 37, .int (ft_part J ((nI j) + w) ((J 37 2) - q)), .int (nI j), .ref 38]) (I' := J) (L' := L) (R' := zw_RC h sp la) rfl ?_
      refine zv_cV (M' := mm_X7_unitsOfPart) (ci := 7) (a := 37) (av := [.int (((nI j) + w) + 1), .int q]) (st := [.int (ft_part J ((nI j) + w) ((J 37 2) - q)), .int (nI j), .ref 38]) (r := some (.int (ft_part J (((nI j) + w) + 1) q))) (I' := J) (L' := L) (R' := zw_RC h sp la) rfl zc_7_46 gd_X7_unitsOfPart rfl rfl rfl (Nat.le_of_ble_eq_true rfl) (ct_X7_unitsOfPart (d := d) (I := J) hT) ⟨Nat.le_refl _, Nat.le_refl _⟩ ?_
      refine zv_run 0 (pc' := 57) (lo' := [some (.ref 37), some (.int hh), some (.int w), some (.int q), some (.int (nI j))]) (st' := [.int (ft_part J (((nI j) + w) + 1) q), .int (ft_part J ((nI j) + w) ((J 37 2) - q)), .int (nI j), .ref 38]) (I' := J) (L' := L) (R' := zw_RC h sp la) rfl ?_
      refine zv_run 1 (pc' := 58) (lo' := [some (.ref 37), some (.int hh), some (.int w), some (.int q), some (.int (nI j))]) (st' := [.int ((ft_part J ((nI j) + w) ((J 37 2) - q)) + (ft_part J (((nI j) + w) + 1) q)), .int (nI j), .ref 38]) (I' := J) (L' := L) (R' := zw_RC h sp la) rfl ?_
      refine zv_iast (zs_at rfl) rfl (vp_in_nI (by omega) (by decide)) ?_
      refine zv_run 2 (pc' := 17) (lo' := [some (.ref 37), some (.int hh), some (.int w), some (.int q), some (.int ((nI j) + 1))]) (st' := []) (I' := (zx_uI J 38 ((nI j).toNatClampNeg) ((ft_part J ((nI j) + w) ((J 37 2) - q)) + (ft_part J (((nI j) + w) + 1) q)))) (L' := L) (R' := zw_RC h sp la) rfl ?_
      rw [nI_clamp (by omega), ← nI_succ]
      exact ih (j + 1) _ hT (by omega) (by rw [show j + 1 + n = j + (n + 1) by omega]; exact hJ)
theorem ct_X7_draw {d : Nat} {I : zx_I} {L : zx_L} {h sp : Nat} {la : Option Nat} {hh : Int32} (hT : tk_ok I) : zx_M0 mm_X7_draw (d + 1) 0 0 [.ref 37, .int hh] zw_SC I L (zw_RC h sp la) (zw_ret (none) zw_SC (ft_draw I hh) L (zw_RC h sp la)) := by
  obtain ⟨m, hm1, hm6, hm⟩ := tk_m hT
  have hE : dr_loop (hh / I 37 2) (hh - hh / I 37 2 * I 37 2) m 0 I = ft_draw I hh := by
    unfold ft_draw dr_row
    rw [show (I 37 1).toInt.toNat = m by rw [hm, nI_toInt (by omega)]; omega]
    exact zr_of (fun b hb => dr_loop_ne m 0 I b hb)
  rw [← hE]
  refine zv_entry gd_X7_draw (Nat.le_of_ble_eq_true rfl) ?_
  refine zv_run 3 (pc' := 5) (lo' := [some (.ref 37), some (.int hh), none, none, none]) (st' := [.int (I 37 2), .int hh]) (I' := I) (L' := L) (R' := zw_RC h sp la) rfl ?_
  refine zv_idiv (zs_at rfl) (tk_ne hT) ?_
  refine zv_run 4 (pc' := 12) (lo' := [some (.ref 37), some (.int hh), some (.int (hh / (I 37 2))), none, none]) (st' := [.int (I 37 2), .int hh]) (I' := I) (L' := L) (R' := zw_RC h sp la) rfl ?_
  refine zv_irem (zs_at rfl) (tk_ne hT) ?_
  refine zv_run 3 (pc' := 17) (lo' := [some (.ref 37), some (.int hh), some (.int (hh / (I 37 2))), some (.int (hh - hh / (I 37 2) * (I 37 2))), some (.int 0)]) (st' := []) (I' := I) (L' := L) (R' := zw_RC h sp la) rfl ?_
  exact lp_X7_draw m 0 I hT (by omega) (by rw [hm, Nat.zero_add])
/-- a row of six becomes another's copy -/
def zcp (I : zx_I) (a0 a n : Nat) : zx_I := zr I a (va_cpy (I a0) (I a) 0 0 n)
theorem zx_uI_self {J : zx_I} {a j : Nat} : zx_uI J a j (J a j) = J := by
  funext b k
  unfold zx_uI
  by_cases hb : b = a
  · by_cases hk : k = j
    · simp [hb, hk]
    · simp [hb, hk]
  · simp [hb]
theorem zr_self {J : zx_I} {a : Nat} : zr J a (J a) = J := by
  funext b
  unfold zr
  by_cases hb : b = a
  · simp [hb]
  · simp [hb]
/-- a loop over a row, each place by itself -/
def zmap (J : zx_I) (a : Nat) (g : Nat → Int32 → Int32) (j n : Nat) : zx_I := zr J a (fun k => if j ≤ k ∧ k < j + n then g k (J a k) else J a k)
theorem zmap_0 {J : zx_I} {a : Nat} {g : Nat → Int32 → Int32} {j : Nat} : zmap J a g j 0 = J := by
  unfold zmap
  have : (fun k => if j ≤ k ∧ k < j + 0 then g k (J a k) else J a k) = J a := by
    funext k
    rw [if_neg (by omega)]
  rw [this, zr_self]
theorem zmap_s {J J' : zx_I} {a : Nat} {g : Nat → Int32 → Int32} {j n : Nat} (h : J' = zx_uI J a j (g j (J a j))) : zmap J' a g (j + 1) n = zmap J a g j (n + 1) := by
  subst h
  funext b k
  unfold zmap zr zx_uI
  by_cases hb : b = a
  · subst hb
    simp only [if_true]
    by_cases hk : k = j
    · subst hk
      rw [if_neg (by omega), if_pos rfl, if_pos (by omega)]
    · rw [if_neg hk]
      by_cases h1 : j ≤ k ∧ k < j + (n + 1)
      · rw [if_pos (by omega), if_pos h1]
      · rw [if_neg (by omega), if_neg h1]
  · simp [hb]
def ls_v (c l u : Int32) : Int32 := if u ≤ c then u else if u - l < c then c else u - l
def ft_lose (I : zx_I) (l : Int32) : zx_I := zmap I 38 (fun _ u => ls_v (I 37 3 * I 37 2) l u) 0 (I 37 1).toInt.toNat
theorem lp_X7_lose {d : Nat} {L : zx_L} {h sp : Nat} {la : Option Nat} {c l : Int32} : ∀ (n j : Nat) (J : zx_I), tk_ok J → j + n ≤ 6 → J 37 1 = nI (j + n) → zx_V mm_X7_lose (d + 1) z0 (zw_ret none zw_SC (zmap J 38 (fun _ u => ls_v c l u) j n) L (zw_RC h sp la)) zw_SC 12 [some (.ref 37), some (.int l), some (.int c), some (.int (nI j))] [] J L (zw_RC h sp la) := by
  intro n
  induction n with
  | zero =>
    intro j J hT hm hJ
    rw [zmap_0]
    refine zv_run 3 (pc' := 17) (lo' := [some (.ref 37), some (.int l), some (.int c), some (.int (nI j))]) (st' := [.int (J 37 1), .int (nI j)]) (I' := J) (L' := L) (R' := zw_RC h sp la) rfl ?_
    refine zv_icmp_ge (tgt := 54) (zs_at rfl) (by decide) (fun c17 => ?_) (fun c17 => ?_)
    · have _c := c17
      exact zv_vret (zs_at rfl) rfl ⟨Nat.le_refl _, Nat.le_refl _⟩ (zw_to rfl rfl rfl rfl)
    · exact absurd (by rw [hJ]; exact nI_le (by omega) (by omega)) c17
  | succ n ih =>
    intro j J hT hm hJ
    refine zv_run 3 (pc' := 17) (lo' := [some (.ref 37), some (.int l), some (.int c), some (.int (nI j))]) (st' := [.int (J 37 1), .int (nI j)]) (I' := J) (L' := L) (R' := zw_RC h sp la) rfl ?_
    refine zv_icmp_ge (tgt := 54) (zs_at rfl) (by decide) (fun c17 => ?_) (fun c17 => ?_)
    · exact absurd c17 (by rw [hJ]; exact nI_ge (by omega) (by omega))
    · have _c := c17
      refine zv_run 3 (pc' := 25) (lo' := [some (.ref 37), some (.int l), some (.int c), some (.int (nI j))]) (st' := [.int (nI j), .ref 38]) (I' := J) (L' := L) (R' := zw_RC h sp la) rfl ?_
      refine zv_iald (zs_at rfl) rfl (vp_in_nI (by omega) (by decide)) ?_
      refine zv_run 1 (pc' := 27) (lo' := [some (.ref 37), some (.int l), some (.int c), some (.int (nI j))]) (st' := [.int c, .int (J 38 ((nI j).toNatClampNeg))]) (I' := J) (L' := L) (R' := zw_RC h sp la) rfl ?_
      refine zv_icmp_le (tgt := 48) (zs_at rfl) (by decide) (fun c27 => ?_) (fun c27 => ?_)
      · have _c := c27
        refine zv_run 2 (pc' := 12) (lo' := [some (.ref 37), some (.int l), some (.int c), some (.int ((nI j) + 1))]) (st' := []) (I' := J) (L' := L) (R' := zw_RC h sp la) rfl ?_
        rw [← nI_succ, ← zmap_s (J := J) (n := n) (g := fun _ u => ls_v c l u) (J' := J) (by rw [show ls_v c l (J 38 j) = J 38 j from by rw [nI_clamp (by omega)] at c27; unfold ls_v; rw [if_pos c27]]; exact zx_uI_self.symm)]
        exact ih (j + 1) _ hT (by omega) (by rw [show j + 1 + n = j + (n + 1) by omega]; exact hJ)
      · have _c := c27
        refine zv_run 6 (pc' := 40) (lo' := [some (.ref 37), some (.int l), some (.int c), some (.int (nI j))]) (st' := [.int (nI j), .ref 38, .int (nI j), .ref 38]) (I' := J) (L' := L) (R' := zw_RC h sp la) rfl ?_
        refine zv_iald (zs_at rfl) rfl (vp_in_nI (by omega) (by decide)) ?_
        refine zv_run 3 (pc' := 44) (lo' := [some (.ref 37), some (.int l), some (.int c), some (.int (nI j))]) (st' := [.int c, .int ((J 38 ((nI j).toNatClampNeg)) - l), .int (nI j), .ref 38]) (I' := J) (L' := L) (R' := zw_RC h sp la) rfl ?_
        refine zv_max rfl zm_7_32 (Nat.le_of_ble_eq_true rfl) ⟨Nat.le_refl _, Nat.le_refl _⟩ ?_
        refine zv_iast (zs_at rfl) rfl (vp_in_nI (by omega) (by decide)) ?_
        refine zv_run 2 (pc' := 12) (lo' := [some (.ref 37), some (.int l), some (.int c), some (.int ((nI j) + 1))]) (st' := []) (I' := (zx_uI J 38 ((nI j).toNatClampNeg) (if ((J 38 ((nI j).toNatClampNeg)) - l) < c then c else ((J 38 ((nI j).toNatClampNeg)) - l)))) (L' := L) (R' := zw_RC h sp la) rfl ?_
        rw [nI_clamp (by omega), ← nI_succ, ← zmap_s (J := J) (n := n) (g := fun _ u => ls_v c l u) rfl]
        rw [show ls_v c l (J 38 j) = (if J 38 j - l < c then c else J 38 j - l) from by rw [nI_clamp (by omega)] at c27; unfold ls_v; rw [if_neg c27]]
        exact ih (j + 1) _ hT (by omega) (by rw [show j + 1 + n = j + (n + 1) by omega]; exact hJ)
theorem ct_X7_lose {d : Nat} {I : zx_I} {L : zx_L} {h sp : Nat} {la : Option Nat} {l : Int32} (hT : tk_ok I) : zx_M0 mm_X7_lose (d + 1) 0 0 [.ref 37, .int l] zw_SC I L (zw_RC h sp la) (zw_ret (none) zw_SC (ft_lose I l) L (zw_RC h sp la)) := by
  obtain ⟨m, hm1, hm6, hm⟩ := tk_m hT
  unfold ft_lose
  rw [show (I 37 1).toInt.toNat = m by rw [hm, nI_toInt (by omega)]; omega]
  refine zv_entry gd_X7_lose (Nat.le_of_ble_eq_true rfl) ?_
  refine zv_run 8 (pc' := 12) (lo' := [some (.ref 37), some (.int l), some (.int ((I 37 3) * (I 37 2))), some (.int 0)]) (st' := []) (I' := I) (L' := L) (R' := zw_RC h sp la) rfl ?_
  exact lp_X7_lose m 0 I hT (by omega) (by rw [hm, Nat.zero_add])
def wm_loop : Nat → zx_I → zx_I
  | 0, J => J
  | k + 1, J => wm_loop k (if J 38 (k + 1) ≤ J 38 k then J else zx_uI (zx_uI J 38 (k + 1) ((J 38 (k + 1) + J 38 k) / 2)) 38 k (J 38 (k + 1) + J 38 k - (J 38 (k + 1) + J 38 k) / 2))
theorem wm_loop_ne : ∀ (k : Nat) (J : zx_I) (b : Nat), b ≠ 38 → wm_loop k J b = J b
  | 0, _, _, _ => rfl
  | k + 1, J, b, hb => by
    unfold wm_loop
    rw [wm_loop_ne k _ b hb]
    split
    · rfl
    · rw [zx_uI_ne hb, zx_uI_ne hb]
def wm_row (I : zx_I) (f : Int32) : Nat → Int32 := wm_loop ((I 37 1).toInt.toNat - 1) (zx_uI I 38 ((I 37 1).toInt.toNat - 1) (I 38 ((I 37 1).toInt.toNat - 1) + f)) 38
def ft_warm (I : zx_I) (f : Int32) : zx_I := zr I 38 (wm_row I f)
theorem lp_X7_warm {d : Nat} {L : zx_L} {h sp : Nat} {la : Option Nat} {f : Int32} : ∀ (k : Nat) (x3 : Option Value) (J : zx_I), tk_ok J → k < 6 → zx_V mm_X7_warm d z0 (zw_ret none zw_SC (wm_loop k J) L (zw_RC h sp la)) zw_SC 43 [some (.ref 37), some (.int f), some (.int (nI k)), x3] [] J L (zw_RC h sp la) := by
  intro k
  induction k with
  | zero =>
    intro x3 J hT hk
    refine zv_run 1 (pc' := 44) (lo' := [some (.ref 37), some (.int f), some (.int (nI 0)), x3]) (st' := [.int (nI 0)]) (I' := J) (L' := L) (R' := zw_RC h sp la) rfl ?_
    refine zv_if_le (tgt := 108) (zs_at rfl) (by decide) (fun c44 => ?_) (fun c44 => ?_)
    · have _c := c44
      exact zv_vret (zs_at rfl) rfl ⟨Nat.le_refl _, Nat.le_refl _⟩ (zw_to rfl rfl rfl rfl)
    · exact absurd (by decide) c44
  | succ k ih =>
    intro x3 J hT hk
    refine zv_run 1 (pc' := 44) (lo' := [some (.ref 37), some (.int f), some (.int (nI (k + 1))), x3]) (st' := [.int (nI (k + 1))]) (I' := J) (L' := L) (R' := zw_RC h sp la) rfl ?_
    refine zv_if_le (tgt := 108) (zs_at rfl) (by decide) (fun c44 => ?_) (fun c44 => ?_)
    · exact absurd c44 (nI_nle (by omega) (by omega))
    · have _c := c44
      refine zv_run 3 (pc' := 52) (lo' := [some (.ref 37), some (.int f), some (.int (nI (k + 1))), x3]) (st' := [.int (nI (k + 1)), .ref 38]) (I' := J) (L' := L) (R' := zw_RC h sp la) rfl ?_
      refine zv_iald (zs_at rfl) rfl (vp_in_nI (show k + 1 < 6 by omega) (by decide)) ?_
      refine zv_run 5 (pc' := 60) (lo' := [some (.ref 37), some (.int f), some (.int (nI (k + 1))), x3]) (st' := [.int ((nI (k + 1)) - 1), .ref 38, .int (J 38 ((nI (k + 1)).toNatClampNeg))]) (I' := J) (L' := L) (R' := zw_RC h sp la) rfl ?_
      refine zv_iald (zs_at rfl) rfl (by rw [nI_pred]; exact vp_in_nI (show k < 6 by omega) (by decide)) ?_
      refine zv_icmp_le (tgt := 102) (zs_at rfl) (by decide) (fun c61 => ?_) (fun c61 => ?_)
      · have _c := c61
        refine zv_run 2 (pc' := 43) (lo' := [some (.ref 37), some (.int f), some (.int ((nI (k + 1)) + (-1))), x3]) (st' := []) (I' := J) (L' := L) (R' := zw_RC h sp la) rfl ?_
        rw [nI_pred, nI_clamp (show k + 1 < 2 ^ 31 by omega), nI_clamp (show k < 2 ^ 31 by omega)] at c61
        rw [show wm_loop (k + 1) J = wm_loop k J from by rw [show wm_loop (k + 1) J = wm_loop k (if J 38 (k + 1) ≤ J 38 k then J else zx_uI (zx_uI J 38 (k + 1) ((J 38 (k + 1) + J 38 k) / 2)) 38 k (J 38 (k + 1) + J 38 k - (J 38 (k + 1) + J 38 k) / 2)) from rfl, if_pos c61]]
        rw [show nI (k + 1) + (-1) = nI k from pk_m1 k]
        exact ih _ _ hT (by omega)
      · have _c := c61
        refine zv_run 3 (pc' := 69) (lo' := [some (.ref 37), some (.int f), some (.int (nI (k + 1))), x3]) (st' := [.int (nI (k + 1)), .ref 38]) (I' := J) (L' := L) (R' := zw_RC h sp la) rfl ?_
        refine zv_iald (zs_at rfl) rfl (vp_in_nI (show k + 1 < 6 by omega) (by decide)) ?_
        refine zv_run 5 (pc' := 77) (lo' := [some (.ref 37), some (.int f), some (.int (nI (k + 1))), x3]) (st' := [.int ((nI (k + 1)) - 1), .ref 38, .int (J 38 ((nI (k + 1)).toNatClampNeg))]) (I' := J) (L' := L) (R' := zw_RC h sp la) rfl ?_
        refine zv_iald (zs_at rfl) rfl (by rw [nI_pred]; exact vp_in_nI (show k < 6 by omega) (by decide)) ?_
        refine zv_run 8 (pc' := 88) (lo' := [some (.ref 37), some (.int f), some (.int (nI (k + 1))), some (.int ((J 38 ((nI (k + 1)).toNatClampNeg)) + (J 38 (((nI (k + 1)) - 1).toNatClampNeg))))]) (st' := [.int (((J 38 ((nI (k + 1)).toNatClampNeg)) + (J 38 (((nI (k + 1)) - 1).toNatClampNeg))) / 2), .int (nI (k + 1)), .ref 38]) (I' := J) (L' := L) (R' := zw_RC h sp la) rfl ?_
        refine zv_iast (zs_at rfl) rfl (vp_in_nI (show k + 1 < 6 by omega) (by decide)) ?_
        refine zv_run 10 (pc' := 101) (lo' := [some (.ref 37), some (.int f), some (.int (nI (k + 1))), some (.int ((J 38 ((nI (k + 1)).toNatClampNeg)) + (J 38 (((nI (k + 1)) - 1).toNatClampNeg))))]) (st' := [.int (((J 38 ((nI (k + 1)).toNatClampNeg)) + (J 38 (((nI (k + 1)) - 1).toNatClampNeg))) - (((J 38 ((nI (k + 1)).toNatClampNeg)) + (J 38 (((nI (k + 1)) - 1).toNatClampNeg))) / 2)), .int ((nI (k + 1)) - 1), .ref 38]) (I' := (zx_uI J 38 ((nI (k + 1)).toNatClampNeg) (((J 38 ((nI (k + 1)).toNatClampNeg)) + (J 38 (((nI (k + 1)) - 1).toNatClampNeg))) / 2))) (L' := L) (R' := zw_RC h sp la) rfl ?_
        refine zv_iast (zs_at rfl) rfl (by rw [nI_pred]; exact vp_in_nI (show k < 6 by omega) (by decide)) ?_
        refine zv_run 2 (pc' := 43) (lo' := [some (.ref 37), some (.int f), some (.int ((nI (k + 1)) + (-1))), some (.int ((J 38 ((nI (k + 1)).toNatClampNeg)) + (J 38 (((nI (k + 1)) - 1).toNatClampNeg))))]) (st' := []) (I' := (zx_uI (zx_uI J 38 ((nI (k + 1)).toNatClampNeg) (((J 38 ((nI (k + 1)).toNatClampNeg)) + (J 38 (((nI (k + 1)) - 1).toNatClampNeg))) / 2)) 38 (((nI (k + 1)) - 1).toNatClampNeg) (((J 38 ((nI (k + 1)).toNatClampNeg)) + (J 38 (((nI (k + 1)) - 1).toNatClampNeg))) - (((J 38 ((nI (k + 1)).toNatClampNeg)) + (J 38 (((nI (k + 1)) - 1).toNatClampNeg))) / 2)))) (L' := L) (R' := zw_RC h sp la) rfl ?_
        rw [nI_pred, nI_clamp (show k + 1 < 2 ^ 31 by omega), nI_clamp (show k < 2 ^ 31 by omega)] at *
        rw [show wm_loop (k + 1) J = wm_loop k (zx_uI (zx_uI J 38 (k + 1) ((J 38 (k + 1) + J 38 k) / 2)) 38 k (J 38 (k + 1) + J 38 k - (J 38 (k + 1) + J 38 k) / 2)) from by rw [show wm_loop (k + 1) J = wm_loop k (if J 38 (k + 1) ≤ J 38 k then J else zx_uI (zx_uI J 38 (k + 1) ((J 38 (k + 1) + J 38 k) / 2)) 38 k (J 38 (k + 1) + J 38 k - (J 38 (k + 1) + J 38 k) / 2)) from rfl, if_neg c61]]
        rw [show nI (k + 1) + (-1) = nI k from pk_m1 k]
        exact ih _ _ hT (by omega)
theorem ct_X7_warm {d : Nat} {I : zx_I} {L : zx_L} {h sp : Nat} {la : Option Nat} {f : Int32} (hT : tk_ok I) : zx_M0 mm_X7_warm (d + 0) 0 0 [.ref 37, .int f] zw_SC I L (zw_RC h sp la) (zw_ret (none) zw_SC (ft_warm I f) L (zw_RC h sp la)) := by
  obtain ⟨m, hm1, hm6, hm⟩ := tk_m hT
  have hmt : (I 37 1).toInt.toNat = m := by rw [hm, nI_toInt (by omega)]; omega
  have hE : wm_loop (m - 1) (zx_uI I 38 (m - 1) (I 38 (m - 1) + f)) = ft_warm I f := by
    unfold ft_warm wm_row
    rw [hmt]
    exact zr_of (fun b hb => by rw [wm_loop_ne _ _ b hb, zx_uI_ne hb])
  rw [← hE]
  have e1 : I 37 1 - 1 = nI (m - 1) := by rw [hm]; exact pk_sub (a := m) (b := 1) hm1
  refine zv_entry gd_X7_warm (Nat.le_of_ble_eq_true rfl) ?_
  refine zv_run 3 (pc' := 5) (lo' := [some (.ref 37), some (.int f), none, none]) (st' := [.int 1, .int (I 37 1)]) (I' := I) (L' := L) (R' := zw_RC h sp la) rfl ?_
  refine zv_icmp_lt (tgt := 20) (zs_at rfl) (by decide) (fun c5 => ?_) (fun c5 => ?_)
  · exact absurd c5 (by rw [hm]; exact nI_nlt hm1 (by omega))
  · have _c := c5
    refine zv_run 5 (pc' := 17) (lo' := [some (.ref 37), some (.int f), none, none]) (st' := [.int 6, .int (I 37 1)]) (I' := I) (L' := L) (R' := zw_RC h sp la) rfl ?_
    refine zv_icmp_le (tgt := 21) (zs_at rfl) (by decide) (fun c17 => ?_) (fun c17 => ?_)
    · have _c := c17
      refine zv_run 7 (pc' := 32) (lo' := [some (.ref 37), some (.int f), none, none]) (st' := [.int ((I 37 1) - 1), .ref 38, .int ((I 37 1) - 1), .ref 38]) (I' := I) (L' := L) (R' := zw_RC h sp la) rfl ?_
      refine zv_iald (zs_at rfl) rfl (by rw [e1]; exact vp_in_nI (by omega) (by decide)) ?_
      refine zv_run 2 (pc' := 35) (lo' := [some (.ref 37), some (.int f), none, none]) (st' := [.int ((I 38 (((I 37 1) - 1).toNatClampNeg)) + f), .int ((I 37 1) - 1), .ref 38]) (I' := I) (L' := L) (R' := zw_RC h sp la) rfl ?_
      refine zv_iast (zs_at rfl) rfl (by rw [e1]; exact vp_in_nI (by omega) (by decide)) ?_
      refine zv_run 5 (pc' := 43) (lo' := [some (.ref 37), some (.int f), some (.int ((I 37 1) - 1)), none]) (st' := []) (I' := (zx_uI I 38 (((I 37 1) - 1).toNatClampNeg) ((I 38 (((I 37 1) - 1).toNatClampNeg)) + f))) (L' := L) (R' := zw_RC h sp la) rfl ?_
      rw [e1, nI_clamp (by omega)]
      exact lp_X7_warm (m - 1) none _ hT (by omega)
    · exact absurd (by rw [hm]; exact nI_le hm6 (by decide)) c17
/-- a house in bounds -/
def hs_tk (I : zx_I) (a : Nat) : Prop := 1 ≤ (I a 1).toInt ∧ (I a 1).toInt ≤ 6 ∧ 1 ≤ (I a 2).toInt ∧ (I a 2).toInt ≤ 60
def ft_fill (I : zx_I) (a : Nat) : zx_I := zmap (zx_uI (zx_uI (zx_uI I 37 1 (I a 1)) 37 2 (I a 2)) 37 3 (I a 3)) 38 (fun _ _ => I a 4 * I a 2) 0 (I a 1).toInt.toNat
theorem hs_m {I : zx_I} {a : Nat} (h : hs_tk I a) : ∃ m, 1 ≤ m ∧ m ≤ 6 ∧ I a 1 = nI m := by
  refine ⟨(I a 1).toInt.toNat, ?_, ?_, ?_⟩
  · have := h.1; omega
  · have := h.2.1; omega
  · apply Int32.toInt_inj.mp
    rw [nI_toInt (by have := h.2.1; omega)]
    have := h.1
    omega
theorem lp_X7_fill_4 {d : Nat} {L : zx_L} {h sp : Nat} {la : Option Nat} {v : Int32} : ∀ (n j : Nat) (J : zx_I), j + n ≤ 6 → J 37 1 = nI (j + n) → J 4 4 * J 37 2 = v → zx_V mm_X7_fill (d + 1) z0 (zw_ret none zw_SC (zmap J 38 (fun _ _ => v) j n) L (zw_RC h sp la)) zw_SC 38 [some (.ref 37), some (.ref 4), some (.int (nI j))] [] J L (zw_RC h sp la) := by
  intro n
  induction n with
  | zero =>
    intro j J hm hJ hv
    rw [zmap_0]
    refine zv_run 3 (pc' := 43) (lo' := [some (.ref 37), some (.ref 4), some (.int (nI j))]) (st' := [.int (J 37 1), .int (nI j)]) (I' := J) (L' := L) (R' := zw_RC h sp la) rfl ?_
    refine zv_icmp_ge (tgt := 67) (zs_at rfl) (by decide) (fun c43 => ?_) (fun c43 => ?_)
    · have _c := c43
      exact zv_vret (zs_at rfl) rfl ⟨Nat.le_refl _, Nat.le_refl _⟩ (zw_to rfl rfl rfl rfl)
    · exact absurd (by rw [hJ]; exact nI_le (by omega) (by omega)) c43
  | succ n ih =>
    intro j J hm hJ hv
    refine zv_run 3 (pc' := 43) (lo' := [some (.ref 37), some (.ref 4), some (.int (nI j))]) (st' := [.int (J 37 1), .int (nI j)]) (I' := J) (L' := L) (R' := zw_RC h sp la) rfl ?_
    refine zv_icmp_ge (tgt := 67) (zs_at rfl) (by decide) (fun c43 => ?_) (fun c43 => ?_)
    · exact absurd c43 (by rw [hJ]; exact nI_ge (by omega) (by omega))
    · have _c := c43
      refine zv_run 8 (pc' := 60) (lo' := [some (.ref 37), some (.ref 4), some (.int (nI j))]) (st' := [.int ((J 4 4) * (J 37 2)), .int (nI j), .ref 38]) (I' := J) (L' := L) (R' := zw_RC h sp la) rfl ?_
      refine zv_iast (zs_at rfl) rfl (vp_in_nI (by omega) (by decide)) ?_
      refine zv_run 2 (pc' := 38) (lo' := [some (.ref 37), some (.ref 4), some (.int ((nI j) + 1))]) (st' := []) (I' := (zx_uI J 38 ((nI j).toNatClampNeg) ((J 4 4) * (J 37 2)))) (L' := L) (R' := zw_RC h sp la) rfl ?_
      rw [nI_clamp (by omega), ← nI_succ, ← zmap_s (J := J) (n := n) (g := fun _ _ => v) rfl]
      rw [show J 4 4 * J 37 2 = v from hv]
      exact ih (j + 1) _ (by omega) (by rw [show j + 1 + n = j + (n + 1) by omega]; exact hJ) hv
theorem lp_X7_fill_14 {d : Nat} {L : zx_L} {h sp : Nat} {la : Option Nat} {v : Int32} : ∀ (n j : Nat) (J : zx_I), j + n ≤ 6 → J 37 1 = nI (j + n) → J 14 4 * J 37 2 = v → zx_V mm_X7_fill (d + 1) z0 (zw_ret none zw_SC (zmap J 38 (fun _ _ => v) j n) L (zw_RC h sp la)) zw_SC 38 [some (.ref 37), some (.ref 14), some (.int (nI j))] [] J L (zw_RC h sp la) := by
  intro n
  induction n with
  | zero =>
    intro j J hm hJ hv
    rw [zmap_0]
    refine zv_run 3 (pc' := 43) (lo' := [some (.ref 37), some (.ref 14), some (.int (nI j))]) (st' := [.int (J 37 1), .int (nI j)]) (I' := J) (L' := L) (R' := zw_RC h sp la) rfl ?_
    refine zv_icmp_ge (tgt := 67) (zs_at rfl) (by decide) (fun c43 => ?_) (fun c43 => ?_)
    · have _c := c43
      exact zv_vret (zs_at rfl) rfl ⟨Nat.le_refl _, Nat.le_refl _⟩ (zw_to rfl rfl rfl rfl)
    · exact absurd (by rw [hJ]; exact nI_le (by omega) (by omega)) c43
  | succ n ih =>
    intro j J hm hJ hv
    refine zv_run 3 (pc' := 43) (lo' := [some (.ref 37), some (.ref 14), some (.int (nI j))]) (st' := [.int (J 37 1), .int (nI j)]) (I' := J) (L' := L) (R' := zw_RC h sp la) rfl ?_
    refine zv_icmp_ge (tgt := 67) (zs_at rfl) (by decide) (fun c43 => ?_) (fun c43 => ?_)
    · exact absurd c43 (by rw [hJ]; exact nI_ge (by omega) (by omega))
    · have _c := c43
      refine zv_run 8 (pc' := 60) (lo' := [some (.ref 37), some (.ref 14), some (.int (nI j))]) (st' := [.int ((J 14 4) * (J 37 2)), .int (nI j), .ref 38]) (I' := J) (L' := L) (R' := zw_RC h sp la) rfl ?_
      refine zv_iast (zs_at rfl) rfl (vp_in_nI (by omega) (by decide)) ?_
      refine zv_run 2 (pc' := 38) (lo' := [some (.ref 37), some (.ref 14), some (.int ((nI j) + 1))]) (st' := []) (I' := (zx_uI J 38 ((nI j).toNatClampNeg) ((J 14 4) * (J 37 2)))) (L' := L) (R' := zw_RC h sp la) rfl ?_
      rw [nI_clamp (by omega), ← nI_succ, ← zmap_s (J := J) (n := n) (g := fun _ _ => v) rfl]
      rw [show J 14 4 * J 37 2 = v from hv]
      exact ih (j + 1) _ (by omega) (by rw [show j + 1 + n = j + (n + 1) by omega]; exact hJ) hv
theorem ct_X7_fill {d : Nat} {I : zx_I} {L : zx_L} {h sp : Nat} {la : Option Nat} {a : Nat}  (ha : a = 4 ∨ a = 14) (hH : hs_tk I a) : zx_M0 mm_X7_fill (d + 1) 0 0 [.ref 37, .ref a] zw_SC I L (zw_RC h sp la) (zw_ret (none) zw_SC (ft_fill I a) L (zw_RC h sp la)) := by
  obtain ⟨m, hm1, hm6, hm⟩ := hs_m hH
  unfold ft_fill
  rw [show (I a 1).toInt.toNat = m by rw [hm, nI_toInt (by omega)]; omega]
  have e1 : (if (6 : Int32) < I a 1 then 6 else I a 1) = I a 1 := if_neg (by rw [hm]; exact nI_nlt (a := 6) (b := m) hm6 (by decide))
  have e2 : (if I a 2 < 1 then 1 else I a 2) = I a 2 := if_neg (by rw [Int32.lt_iff_toInt_lt]; have := hH.2.2.1; have h1 : (1 : Int32).toInt = 1 := rfl; omega)
  rcases ha with rfl | rfl
  · refine zv_entry gd_X7_fill (Nat.le_of_ble_eq_true rfl) ?_
    refine zv_run 6 (pc' := 10) (lo' := [some (.ref 37), some (.ref 4), none]) (st' := [.int 6, .int (I 4 1), .ref 37]) (I' := I) (L' := L) (R' := zw_RC h sp la) rfl ?_
    refine zv_min rfl zm_7_24 (Nat.le_of_ble_eq_true rfl) ⟨Nat.le_refl _, Nat.le_refl _⟩ ?_
    refine zv_run 5 (pc' := 22) (lo' := [some (.ref 37), some (.ref 4), none]) (st' := [.int 1, .int (I 4 2), .ref 37]) (I' := (zx_uI I 37 1 (if 6 < (I 4 1) then 6 else (I 4 1)))) (L' := L) (R' := zw_RC h sp la) rfl ?_
    refine zv_max rfl zm_7_32 (Nat.le_of_ble_eq_true rfl) ⟨Nat.le_refl _, Nat.le_refl _⟩ ?_
    refine zv_run 7 (pc' := 38) (lo' := [some (.ref 37), some (.ref 4), some (.int 0)]) (st' := []) (I' := (zx_uI (zx_uI (zx_uI I 37 1 (if 6 < (I 4 1) then 6 else (I 4 1))) 37 2 (if (I 4 2) < 1 then 1 else (I 4 2))) 37 3 (I 4 3))) (L' := L) (R' := zw_RC h sp la) rfl ?_
    rw [show (if I 4 2 < 1 then 1 else I 4 2) = I 4 2 from e2, show (if (6 : Int32) < I 4 1 then 6 else I 4 1) = I 4 1 from e1]
    exact lp_X7_fill_4 m 0 _ (by omega) (by rw [Nat.zero_add]; exact hm) rfl
  · refine zv_entry gd_X7_fill (Nat.le_of_ble_eq_true rfl) ?_
    refine zv_run 6 (pc' := 10) (lo' := [some (.ref 37), some (.ref 14), none]) (st' := [.int 6, .int (I 14 1), .ref 37]) (I' := I) (L' := L) (R' := zw_RC h sp la) rfl ?_
    refine zv_min rfl zm_7_24 (Nat.le_of_ble_eq_true rfl) ⟨Nat.le_refl _, Nat.le_refl _⟩ ?_
    refine zv_run 5 (pc' := 22) (lo' := [some (.ref 37), some (.ref 14), none]) (st' := [.int 1, .int (I 14 2), .ref 37]) (I' := (zx_uI I 37 1 (if 6 < (I 14 1) then 6 else (I 14 1)))) (L' := L) (R' := zw_RC h sp la) rfl ?_
    refine zv_max rfl zm_7_32 (Nat.le_of_ble_eq_true rfl) ⟨Nat.le_refl _, Nat.le_refl _⟩ ?_
    refine zv_run 7 (pc' := 38) (lo' := [some (.ref 37), some (.ref 14), some (.int 0)]) (st' := []) (I' := (zx_uI (zx_uI (zx_uI I 37 1 (if 6 < (I 14 1) then 6 else (I 14 1))) 37 2 (if (I 14 2) < 1 then 1 else (I 14 2))) 37 3 (I 14 3))) (L' := L) (R' := zw_RC h sp la) rfl ?_
    rw [show (if I 14 2 < 1 then 1 else I 14 2) = I 14 2 from e2, show (if (6 : Int32) < I 14 1 then 6 else I 14 1) = I 14 1 from e1]
    exact lp_X7_fill_14 m 0 _ (by omega) (by rw [Nat.zero_add]; exact hm) rfl
def ut_sum (u : Nat → Int32) : Nat → Int32
  | 0 => 0
  | n + 1 => ut_sum u n + u n
def ft_top (I : zx_I) (w m : Nat) (h : Int32) : Int32 := if w < m then ut_sum (I 38) w + I 38 w * (h - h / I 37 2 * I 37 2) / I 37 2 else ut_sum (I 38) w
theorem tl_X7_unitsOfTop {d : Nat} {I : zx_I} {L : zx_L} {h sp : Nat} {la : Option Nat} {hh : Int32} {w m : Nat} {x4 : Option Value} (hT : tk_ok I) (hm : I 37 1 = nI m) (hm6 : m ≤ 6) (hw : w ≤ m) : zx_V mm_X7_unitsOfTop d z0 (zw_ret (some (.int (ft_top I w m hh))) zw_SC I L (zw_RC h sp la)) zw_SC 43 [some (.ref 37), some (.int hh), some (.int (nI w)), some (.int (ut_sum (I 38) w)), x4] [] I L (zw_RC h sp la) := by
  refine zv_run 1 (pc' := 44) (lo' := [some (.ref 37), some (.int hh), some (.int (nI w)), some (.int (ut_sum (I 38) w)), x4]) (st' := [.int (nI w)]) (I' := I) (L' := L) (R' := zw_RC h sp la) rfl ?_
  refine zv_if_lt (tgt := 55) (zs_at rfl) (by decide) (fun c44 => ?_) (fun c44 => ?_)
  · exact absurd c44 (nI_pos (by omega))
  · have _c := c44
    refine zv_run 3 (pc' := 52) (lo' := [some (.ref 37), some (.int hh), some (.int (nI w)), some (.int (ut_sum (I 38) w)), x4]) (st' := [.int (I 37 1), .int (nI w)]) (I' := I) (L' := L) (R' := zw_RC h sp la) rfl ?_
    refine zv_icmp_lt (tgt := 59) (zs_at rfl) (by decide) (fun c52 => ?_) (fun c52 => ?_)
    · have _c := c52
      refine zv_run 4 (pc' := 65) (lo' := [some (.ref 37), some (.int hh), some (.int (nI w)), some (.int (ut_sum (I 38) w)), x4]) (st' := [.int (nI w), .ref 38, .int (ut_sum (I 38) w)]) (I' := I) (L' := L) (R' := zw_RC h sp la) rfl ?_
      refine zv_iald (zs_at rfl) rfl (vp_in_nI (by have q := c52; rw [hm] at q; have := (nI_ltI (by omega) (by omega)).mp q; omega) (by decide)) ?_
      refine zv_run 3 (pc' := 71) (lo' := [some (.ref 37), some (.int hh), some (.int (nI w)), some (.int (ut_sum (I 38) w)), x4]) (st' := [.int (I 37 2), .int hh, .int (I 38 ((nI w).toNatClampNeg)), .int (ut_sum (I 38) w)]) (I' := I) (L' := L) (R' := zw_RC h sp la) rfl ?_
      refine zv_irem (zs_at rfl) (tk_ne hT) ?_
      refine zv_run 3 (pc' := 77) (lo' := [some (.ref 37), some (.int hh), some (.int (nI w)), some (.int (ut_sum (I 38) w)), x4]) (st' := [.int (I 37 2), .int ((I 38 ((nI w).toNatClampNeg)) * (hh - hh / (I 37 2) * (I 37 2))), .int (ut_sum (I 38) w)]) (I' := I) (L' := L) (R' := zw_RC h sp la) rfl ?_
      refine zv_idiv (zs_at rfl) (tk_ne hT) ?_
      refine zv_run 1 (pc' := 79) (lo' := [some (.ref 37), some (.int hh), some (.int (nI w)), some (.int (ut_sum (I 38) w)), x4]) (st' := [.int ((ut_sum (I 38) w) + (((I 38 ((nI w).toNatClampNeg)) * (hh - hh / (I 37 2) * (I 37 2))) / (I 37 2)))]) (I' := I) (L' := L) (R' := zw_RC h sp la) rfl ?_
      exact zv_iret (zs_at rfl) rfl ⟨Nat.le_refl _, Nat.le_refl _⟩ (zw_to (by unfold ft_top; rw [if_pos (by rw [hm] at c52; exact (nI_ltI (by omega) (by omega)).mp c52), nI_clamp (by omega)]) rfl rfl rfl)
    · have _c := c52
      refine zv_run 2 (pc' := 79) (lo' := [some (.ref 37), some (.int hh), some (.int (nI w)), some (.int (ut_sum (I 38) w)), x4]) (st' := [.int (ut_sum (I 38) w)]) (I' := I) (L' := L) (R' := zw_RC h sp la) rfl ?_
      exact zv_iret (zs_at rfl) rfl ⟨Nat.le_refl _, Nat.le_refl _⟩ (zw_to (by unfold ft_top; rw [if_neg (by rw [hm] at c52; exact fun q => c52 (nI_lt q (by omega)))]) rfl rfl rfl)
theorem lp_X7_unitsOfTop {d : Nat} {I : zx_I} {L : zx_L} {h sp : Nat} {la : Option Nat} {hh : Int32} {w m : Nat} (hT : tk_ok I) (hm : I 37 1 = nI m) (hm6 : m ≤ 6) (hw : w ≤ m) : ∀ (n j : Nat), j + n = w → zx_V mm_X7_unitsOfTop d z0 (zw_ret (some (.int (ft_top I w m hh))) zw_SC I L (zw_RC h sp la)) zw_SC 12 [some (.ref 37), some (.int hh), some (.int (nI w)), some (.int (ut_sum (I 38) j)), some (.int (nI j))] [] I L (zw_RC h sp la) := by
  intro n
  induction n with
  | zero =>
    intro j hj
    rw [Nat.add_zero] at hj
    subst hj
    refine zv_run 2 (pc' := 15) (lo' := [some (.ref 37), some (.int hh), some (.int (nI j)), some (.int (ut_sum (I 38) j)), some (.int (nI j))]) (st' := [.int (nI j), .int (nI j)]) (I' := I) (L' := L) (R' := zw_RC h sp la) rfl ?_
    refine zv_icmp_ge (tgt := 43) (zs_at rfl) (by decide) (fun c15 => ?_) (fun c15 => ?_)
    · have _c := c15
      exact tl_X7_unitsOfTop hT hm hm6 hw
    · exact absurd (Int32.le_refl _) c15
  | succ n ih =>
    intro j hj
    refine zv_run 2 (pc' := 15) (lo' := [some (.ref 37), some (.int hh), some (.int (nI w)), some (.int (ut_sum (I 38) j)), some (.int (nI j))]) (st' := [.int (nI w), .int (nI j)]) (I' := I) (L' := L) (R' := zw_RC h sp la) rfl ?_
    refine zv_icmp_ge (tgt := 43) (zs_at rfl) (by decide) (fun c15 => ?_) (fun c15 => ?_)
    · exact absurd c15 (nI_ge (by omega) (by omega))
    · have _c := c15
      refine zv_run 3 (pc' := 24) (lo' := [some (.ref 37), some (.int hh), some (.int (nI w)), some (.int (ut_sum (I 38) j)), some (.int (nI j))]) (st' := [.int (I 37 1), .int (nI j)]) (I' := I) (L' := L) (R' := zw_RC h sp la) rfl ?_
      refine zv_icmp_ge (tgt := 43) (zs_at rfl) (by decide) (fun c24 => ?_) (fun c24 => ?_)
      · exact absurd c24 (by rw [hm]; exact nI_ge (by omega) (by omega))
      · have _c := c24
        refine zv_run 4 (pc' := 34) (lo' := [some (.ref 37), some (.int hh), some (.int (nI w)), some (.int (ut_sum (I 38) j)), some (.int (nI j))]) (st' := [.int (nI j), .ref 38, .int (ut_sum (I 38) j)]) (I' := I) (L' := L) (R' := zw_RC h sp la) rfl ?_
        refine zv_iald (zs_at rfl) rfl (vp_in_nI (by omega) (by decide)) ?_
        refine zv_run 4 (pc' := 12) (lo' := [some (.ref 37), some (.int hh), some (.int (nI w)), some (.int ((ut_sum (I 38) j) + (I 38 ((nI j).toNatClampNeg)))), some (.int ((nI j) + 1))]) (st' := []) (I' := I) (L' := L) (R' := zw_RC h sp la) rfl ?_
        rw [nI_clamp (by omega), ← nI_succ]
        exact ih (j + 1) (by omega)
theorem ct_X7_unitsOfTop {d : Nat} {I : zx_I} {L : zx_L} {h sp : Nat} {la : Option Nat} {hh : Int32} {w m : Nat} (hT : tk_ok I) (hm : I 37 1 = nI m) (hm6 : m ≤ 6) (hw : w ≤ m) (hq : hh / I 37 2 = nI w) : zx_M0 mm_X7_unitsOfTop (d + 0) 0 0 [.ref 37, .int hh] zw_SC I L (zw_RC h sp la) (zw_ret (some (.int (ft_top I w m hh))) zw_SC I L (zw_RC h sp la)) := by
  refine zv_entry gd_X7_unitsOfTop (Nat.le_of_ble_eq_true rfl) ?_
  refine zv_run 3 (pc' := 5) (lo' := [some (.ref 37), some (.int hh), none, none, none]) (st' := [.int (I 37 2), .int hh]) (I' := I) (L' := L) (R' := zw_RC h sp la) rfl ?_
  refine zv_idiv (zs_at rfl) (tk_ne hT) ?_
  refine zv_run 5 (pc' := 12) (lo' := [some (.ref 37), some (.int hh), some (.int (hh / (I 37 2))), some (.int 0), some (.int 0)]) (st' := []) (I' := I) (L' := L) (R' := zw_RC h sp la) rfl ?_
  rw [hq]
  exact lp_X7_unitsOfTop hT hm hm6 hw w 0 (Nat.zero_add w)
def pf_loop (u : Nat → Int32) (p c most : Int32) : Nat → Nat → Int32 → Int32
  | 0, _, _ => -4
  | n + 1, k, ms => if nI k * p ≥ most then -4 else
    if u k - c * p ≤ 0 then pf_loop u p c most n (k + 1) (ms - (u k - c * p)) else
    if (ms * p + (u k - c * p) - 1) / (u k - c * p) > p then pf_loop u p c most n (k + 1) (ms - (u k - c * p)) else
    if nI k * p + (ms * p + (u k - c * p) - 1) / (u k - c * p) > most then pf_loop u p c most n (k + 1) (ms - (u k - c * p)) else
    nI k * p + (ms * p + (u k - c * p) - 1) / (u k - c * p)
theorem pf_loop_s {u : Nat → Int32} {p c most : Int32} {n k : Nat} {ms : Int32} : pf_loop u p c most (n + 1) k ms = if nI k * p ≥ most then -4 else
    if u k - c * p ≤ 0 then pf_loop u p c most n (k + 1) (ms - (u k - c * p)) else
    if (ms * p + (u k - c * p) - 1) / (u k - c * p) > p then pf_loop u p c most n (k + 1) (ms - (u k - c * p)) else
    if nI k * p + (ms * p + (u k - c * p) - 1) / (u k - c * p) > most then pf_loop u p c most n (k + 1) (ms - (u k - c * p)) else
    nI k * p + (ms * p + (u k - c * p) - 1) / (u k - c * p) := rfl
def ft_pints (I : zx_I) (more most : Int32) : Int32 := if more > 0 then pf_loop (I 38) (I 37 2) (I 37 3) most (I 37 1).toInt.toNat 0 more else 0
theorem lp_X7_pintsFor {d : Nat} {I : zx_I} {L : zx_L} {h sp : Nat} {la : Option Nat} {more most : Int32} {m : Nat} (hT : tk_ok I) (hm : I 37 1 = nI m) (hm6 : m ≤ 6) : ∀ (n k : Nat) (ms : Int32) (x5 x6 : Option Value), k + n = m → zx_V mm_X7_pintsFor d z0 (zw_ret (some (.int (pf_loop (I 38) (I 37 2) (I 37 3) most n k ms))) zw_SC I L (zw_RC h sp la)) zw_SC 11 [some (.ref 37), some (.int more), some (.int most), some (.int ms), some (.int (nI k)), x5, x6] [] I L (zw_RC h sp la) := by
  intro n
  induction n with
  | zero =>
    intro k ms x5 x6 hk
    refine zv_run 3 (pc' := 17) (lo' := [some (.ref 37), some (.int more), some (.int most), some (.int ms), some (.int (nI k)), x5, x6]) (st' := [.int (I 37 1), .int (nI k)]) (I' := I) (L' := L) (R' := zw_RC h sp la) rfl ?_
    refine zv_icmp_ge (tgt := 116) (zs_at rfl) (by decide) (fun c17 => ?_) (fun c17 => ?_)
    · have _c := c17
      refine zv_run 1 (pc' := 118) (lo' := [some (.ref 37), some (.int more), some (.int most), some (.int ms), some (.int (nI k)), x5, x6]) (st' := [.int (-4)]) (I' := I) (L' := L) (R' := zw_RC h sp la) rfl ?_
      exact zv_iret (zs_at rfl) rfl ⟨Nat.le_refl _, Nat.le_refl _⟩ (zw_to (by first | rfl | (rw [pf_loop_s, if_pos c28])) rfl rfl rfl)
    · exact absurd (by rw [hm]; exact nI_le (by omega) (by omega)) c17
  | succ n ih =>
    intro k ms x5 x6 hk
    refine zv_run 3 (pc' := 17) (lo' := [some (.ref 37), some (.int more), some (.int most), some (.int ms), some (.int (nI k)), x5, x6]) (st' := [.int (I 37 1), .int (nI k)]) (I' := I) (L' := L) (R' := zw_RC h sp la) rfl ?_
    refine zv_icmp_ge (tgt := 116) (zs_at rfl) (by decide) (fun c17 => ?_) (fun c17 => ?_)
    · exact absurd c17 (by rw [hm]; exact nI_ge (by omega) (by omega))
    · have _c := c17
      refine zv_run 5 (pc' := 28) (lo' := [some (.ref 37), some (.int more), some (.int most), some (.int ms), some (.int (nI k)), x5, x6]) (st' := [.int most, .int ((nI k) * (I 37 2))]) (I' := I) (L' := L) (R' := zw_RC h sp la) rfl ?_
      refine zv_icmp_ge (tgt := 116) (zs_at rfl) (by decide) (fun c28 => ?_) (fun c28 => ?_)
      · have _c := c28
        refine zv_run 1 (pc' := 118) (lo' := [some (.ref 37), some (.int more), some (.int most), some (.int ms), some (.int (nI k)), x5, x6]) (st' := [.int (-4)]) (I' := I) (L' := L) (R' := zw_RC h sp la) rfl ?_
        exact zv_iret (zs_at rfl) rfl ⟨Nat.le_refl _, Nat.le_refl _⟩ (zw_to (by first | rfl | (rw [pf_loop_s, if_pos c28])) rfl rfl rfl)
      · have _c := c28
        refine zv_run 3 (pc' := 37) (lo' := [some (.ref 37), some (.int more), some (.int most), some (.int ms), some (.int (nI k)), x5, x6]) (st' := [.int (nI k), .ref 38]) (I' := I) (L' := L) (R' := zw_RC h sp la) rfl ?_
        refine zv_iald (zs_at rfl) rfl (vp_in_nI (by omega) (by decide)) ?_
        refine zv_run 8 (pc' := 52) (lo' := [some (.ref 37), some (.int more), some (.int most), some (.int ms), some (.int (nI k)), some (.int ((I 38 ((nI k).toNatClampNeg)) - ((I 37 3) * (I 37 2)))), x6]) (st' := [.int ((I 38 ((nI k).toNatClampNeg)) - ((I 37 3) * (I 37 2)))]) (I' := I) (L' := L) (R' := zw_RC h sp la) rfl ?_
        refine zv_if_le (tgt := 105) (zs_at rfl) (by decide) (fun c52 => ?_) (fun c52 => ?_)
        · have _c := c52
          refine zv_run 6 (pc' := 11) (lo' := [some (.ref 37), some (.int more), some (.int most), some (.int (ms - ((I 38 ((nI k).toNatClampNeg)) - ((I 37 3) * (I 37 2))))), some (.int ((nI k) + 1)), some (.int ((I 38 ((nI k).toNatClampNeg)) - ((I 37 3) * (I 37 2)))), x6]) (st' := []) (I' := I) (L' := L) (R' := zw_RC h sp la) rfl ?_
          rw [nI_clamp (by omega)] at *
          rw [pf_loop_s, if_neg c28, if_pos c52, ← nI_succ]
          exact ih (k + 1) _ _ _ (by omega)
        · have _c := c52
          refine zv_run 9 (pc' := 68) (lo' := [some (.ref 37), some (.int more), some (.int most), some (.int ms), some (.int (nI k)), some (.int ((I 38 ((nI k).toNatClampNeg)) - ((I 37 3) * (I 37 2)))), x6]) (st' := [.int ((I 38 ((nI k).toNatClampNeg)) - ((I 37 3) * (I 37 2))), .int (((ms * (I 37 2)) + ((I 38 ((nI k).toNatClampNeg)) - ((I 37 3) * (I 37 2)))) - 1)]) (I' := I) (L' := L) (R' := zw_RC h sp la) rfl ?_
          refine zv_idiv (zs_at rfl) (fun q => c52 (by rw [q]; exact Int32.le_refl 0)) ?_
          refine zv_run 4 (pc' := 77) (lo' := [some (.ref 37), some (.int more), some (.int most), some (.int ms), some (.int (nI k)), some (.int ((I 38 ((nI k).toNatClampNeg)) - ((I 37 3) * (I 37 2)))), some (.int ((((ms * (I 37 2)) + ((I 38 ((nI k).toNatClampNeg)) - ((I 37 3) * (I 37 2)))) - 1) / ((I 38 ((nI k).toNatClampNeg)) - ((I 37 3) * (I 37 2)))))]) (st' := [.int (I 37 2), .int ((((ms * (I 37 2)) + ((I 38 ((nI k).toNatClampNeg)) - ((I 37 3) * (I 37 2)))) - 1) / ((I 38 ((nI k).toNatClampNeg)) - ((I 37 3) * (I 37 2))))]) (I' := I) (L' := L) (R' := zw_RC h sp la) rfl ?_
          refine zv_icmp_gt (tgt := 105) (zs_at rfl) (by decide) (fun c77 => ?_) (fun c77 => ?_)
          · have _c := c77
            refine zv_run 6 (pc' := 11) (lo' := [some (.ref 37), some (.int more), some (.int most), some (.int (ms - ((I 38 ((nI k).toNatClampNeg)) - ((I 37 3) * (I 37 2))))), some (.int ((nI k) + 1)), some (.int ((I 38 ((nI k).toNatClampNeg)) - ((I 37 3) * (I 37 2)))), some (.int ((((ms * (I 37 2)) + ((I 38 ((nI k).toNatClampNeg)) - ((I 37 3) * (I 37 2)))) - 1) / ((I 38 ((nI k).toNatClampNeg)) - ((I 37 3) * (I 37 2)))))]) (st' := []) (I' := I) (L' := L) (R' := zw_RC h sp la) rfl ?_
            rw [nI_clamp (by omega)] at *
            rw [pf_loop_s, if_neg c28, if_neg c52, if_pos c77, ← nI_succ]
            exact ih (k + 1) _ _ _ (by omega)
          · have _c := c77
            refine zv_run 7 (pc' := 91) (lo' := [some (.ref 37), some (.int more), some (.int most), some (.int ms), some (.int (nI k)), some (.int ((I 38 ((nI k).toNatClampNeg)) - ((I 37 3) * (I 37 2)))), some (.int ((((ms * (I 37 2)) + ((I 38 ((nI k).toNatClampNeg)) - ((I 37 3) * (I 37 2)))) - 1) / ((I 38 ((nI k).toNatClampNeg)) - ((I 37 3) * (I 37 2)))))]) (st' := [.int most, .int (((nI k) * (I 37 2)) + ((((ms * (I 37 2)) + ((I 38 ((nI k).toNatClampNeg)) - ((I 37 3) * (I 37 2)))) - 1) / ((I 38 ((nI k).toNatClampNeg)) - ((I 37 3) * (I 37 2)))))]) (I' := I) (L' := L) (R' := zw_RC h sp la) rfl ?_
            refine zv_icmp_gt (tgt := 105) (zs_at rfl) (by decide) (fun c91 => ?_) (fun c91 => ?_)
            · have _c := c91
              refine zv_run 6 (pc' := 11) (lo' := [some (.ref 37), some (.int more), some (.int most), some (.int (ms - ((I 38 ((nI k).toNatClampNeg)) - ((I 37 3) * (I 37 2))))), some (.int ((nI k) + 1)), some (.int ((I 38 ((nI k).toNatClampNeg)) - ((I 37 3) * (I 37 2)))), some (.int ((((ms * (I 37 2)) + ((I 38 ((nI k).toNatClampNeg)) - ((I 37 3) * (I 37 2)))) - 1) / ((I 38 ((nI k).toNatClampNeg)) - ((I 37 3) * (I 37 2)))))]) (st' := []) (I' := I) (L' := L) (R' := zw_RC h sp la) rfl ?_
              rw [nI_clamp (by omega)] at *
              rw [pf_loop_s, if_neg c28, if_neg c52, if_neg c77, if_pos c91, ← nI_succ]
              exact ih (k + 1) _ _ _ (by omega)
            · have _c := c91
              refine zv_run 6 (pc' := 104) (lo' := [some (.ref 37), some (.int more), some (.int most), some (.int ms), some (.int (nI k)), some (.int ((I 38 ((nI k).toNatClampNeg)) - ((I 37 3) * (I 37 2)))), some (.int ((((ms * (I 37 2)) + ((I 38 ((nI k).toNatClampNeg)) - ((I 37 3) * (I 37 2)))) - 1) / ((I 38 ((nI k).toNatClampNeg)) - ((I 37 3) * (I 37 2)))))]) (st' := [.int (((nI k) * (I 37 2)) + ((((ms * (I 37 2)) + ((I 38 ((nI k).toNatClampNeg)) - ((I 37 3) * (I 37 2)))) - 1) / ((I 38 ((nI k).toNatClampNeg)) - ((I 37 3) * (I 37 2)))))]) (I' := I) (L' := L) (R' := zw_RC h sp la) rfl ?_
              exact zv_iret (zs_at rfl) rfl ⟨Nat.le_refl _, Nat.le_refl _⟩ (zw_to (by rw [nI_clamp (by omega)] at *; rw [pf_loop_s, if_neg c28, if_neg c52, if_neg c77, if_neg c91]) rfl rfl rfl)
theorem ct_X7_pintsFor {d : Nat} {I : zx_I} {L : zx_L} {h sp : Nat} {la : Option Nat} {more most : Int32} (hT : tk_ok I) : zx_M0 mm_X7_pintsFor (d + 0) 0 0 [.ref 37, .int more, .int most] zw_SC I L (zw_RC h sp la) (zw_ret (some (.int (ft_pints I more most))) zw_SC I L (zw_RC h sp la)) := by
  obtain ⟨m, hm1, hm6, hm⟩ := tk_m hT
  have hmt : (I 37 1).toInt.toNat = m := by rw [hm, nI_toInt (by omega)]; omega
  refine zv_entry gd_X7_pintsFor (Nat.le_of_ble_eq_true rfl) ?_
  refine zv_run 1 (pc' := 1) (lo' := [some (.ref 37), some (.int more), some (.int most), none, none, none, none]) (st' := [.int more]) (I' := I) (L' := L) (R' := zw_RC h sp la) rfl ?_
  refine zv_if_gt (tgt := 6) (zs_at rfl) (by decide) (fun c1 => ?_) (fun c1 => ?_)
  · have _c := c1
    refine zv_run 4 (pc' := 11) (lo' := [some (.ref 37), some (.int more), some (.int most), some (.int more), some (.int 0), none, none]) (st' := []) (I' := I) (L' := L) (R' := zw_RC h sp la) rfl ?_
    unfold ft_pints
    rw [if_pos c1, hmt]
    exact lp_X7_pintsFor hT hm hm6 m 0 more none none (Nat.zero_add m)
  · have _c := c1
    refine zv_run 1 (pc' := 5) (lo' := [some (.ref 37), some (.int more), some (.int most), none, none, none, none]) (st' := [.int 0]) (I' := I) (L' := L) (R' := zw_RC h sp la) rfl ?_
    exact zv_iret (zs_at rfl) rfl ⟨Nat.le_refl _, Nat.le_refl _⟩ (zw_to (by unfold ft_pints; rw [if_neg c1]) rfl rfl rfl)
end
section
/-! the fire, the bath, the bathers, what is asked, the wishes: each method is a function of the memory -/
theorem zin2 {x l hi : Int32} {n : Nat} (h0 : ¬ x < l) (h1 : x ≤ hi) (hl : 0 ≤ l.toInt) (hh : hi.toInt < n) : vp_in x n := by
  rw [Int32.lt_iff_toInt_lt] at h0
  rw [Int32.le_iff_toInt_le] at h1
  exact vp_in_iff.mpr ⟨by omega, by omega⟩
def ff_begin (I : zx_I) (f : Int32) : zx_I := zx_uI (zx_uI (zx_uI I 39 0 0) 39 1 0) 39 2 f
def ff_up (I : zx_I) : zx_I := if I 39 2 ≤ 0 then I else zx_uI (zx_uI (zx_uI I 39 2 (I 39 2 - 1)) 39 0 3) 39 1 0
def ff_gives (I : zx_I) (a : Nat) : Int32 := if I 39 0 < 1 then 0 else if I 39 0 ≤ 3 then I (a + 1) (I 39 0).toNatClampNeg else 0
def ff_old (I : zx_I) (a : Nat) : zx_I := if I 39 0 < 1 then I else if I 39 0 ≤ 3 then (if I 39 1 + 1 < I (a + 2) (I 39 0).toNatClampNeg then zx_uI I 39 1 (I 39 1 + 1) else zx_uI (zx_uI (zx_uI I 39 1 (I 39 1 + 1)) 39 0 (I 39 0 - 1)) 39 1 0) else I
def bt (w : Nat) : Prop := (8 ≤ w ∧ w ≤ 13) ∨ (18 ≤ w ∧ w ≤ 23)
theorem bt_S {w : Nat} (h : bt w) : zw_SC[w]? = some (2, 14) := by
  rcases (show w = 8 ∨ w = 9 ∨ w = 10 ∨ w = 11 ∨ w = 12 ∨ w = 13 ∨ w = 18 ∨ w = 19 ∨ w = 20 ∨ w = 21 ∨ w = 22 ∨ w = 23 by unfold bt at h; omega) with rfl | rfl | rfl | rfl | rfl | rfl | rfl | rfl | rfl | rfl | rfl | rfl <;> rfl
def fb_heat (I : zx_I) (wl : Nat) (c : Int32) : Int32 := I wl 12 - c * I wl 4
def fb_left (I : zx_I) (wl ww : Nat) (c : Int32) : Int32 := if I ww 8 &&& I wl 0 = 0 then 0 else if fb_heat I wl c < I ww 2 then 0 else if fb_heat I wl c > I ww 3 then 0 else 1
def fb_leftm (I : zx_I) (wl : Nat) (c : Int32) : zx_I := zx_uI (zx_uI (zx_uI (zx_uI I 40 0 0) 40 2 0) 40 3 1) 40 1 (fb_heat I wl c)
theorem ct2_X7_unitsOfTop {d : Nat} {I : zx_I} {L : zx_L} {h sp : Nat} {la : Option Nat} {hh : Int32} (hT : tk_ok I) (h0 : ¬ hh / I 37 2 < 0) (h1 : hh / I 37 2 ≤ I 37 1) : zx_M0 mm_X7_unitsOfTop d 0 0 [.ref 37, .int hh] zw_SC I L (zw_RC h sp la) (zw_ret (some (.int (ft_top I (hh / I 37 2).toNatClampNeg (I 37 1).toNatClampNeg hh))) zw_SC I L (zw_RC h sp la)) := by
  obtain ⟨m, hm1, hm6, hm⟩ := tk_m hT
  obtain ⟨w, hw, hq⟩ := nI_of2 (M := I 37 1) (n := m) (by rw [hm, nI_toInt (by omega)]) h0 h1
  have e1 : (hh / I 37 2).toNatClampNeg = w := by rw [hq, nI_clamp (by omega)]
  have e2 : (I 37 1).toNatClampNeg = m := by rw [hm, nI_clamp (by omega)]
  rw [e1, e2]
  exact ct_X7_unitsOfTop hT hm hm6 hw hq
def ft_topc (I : zx_I) (hh : Int32) : Int32 := ft_top I (hh / I 37 2).toNatClampNeg (I 37 1).toNatClampNeg hh
def fc_k (I : zx_I) (ww : Nat) (g : Int32) : Int32 := if g > I ww 1 then 0 else g
def fc_nd (I : zx_I) (ww : Nat) (g : Int32) : Int32 := 100 * fc_k I ww g + I 37 3 * (I ww 1 - fc_k I ww g)
def fc_p (I : zx_I) (ww : Nat) (g : Int32) : Int32 := ft_pints I (I ww 2 * I ww 1 - fc_nd I ww g) (I ww 1 - fc_k I ww g)
def fc_h (I : zx_I) (ww : Nat) (g : Int32) : Int32 := (fc_nd I ww g + ft_topc I (fc_p I ww g) - I 37 3 * fc_p I ww g) / I ww 1
def fc_is (I : zx_I) (ww : Nat) (g : Int32) : Int32 := if fc_p I ww g = -4 then 0 else if fc_h I ww g > I ww 3 then 0 else 1
def fc_m (I : zx_I) (ww : Nat) (g : Int32) : zx_I := if fc_p I ww g = -4 then zx_uI (zx_uI (zx_uI I 40 3 0) 40 2 (fc_k I ww g)) 40 0 (fc_p I ww g) else zx_uI (zx_uI (zx_uI (zx_uI I 40 3 0) 40 2 (fc_k I ww g)) 40 0 (fc_p I ww g)) 40 1 (fc_h I ww g)
theorem ct_X4_begin {d : Nat} {I : zx_I} {L : zx_L} {h sp : Nat} {la : Option Nat} {f : Int32}  : zx_M0 mm_X4_begin (d + 0) 0 0 [.ref 39, .int f] zw_SC I L (zw_RC h sp la) (zw_ret (none) zw_SC (ff_begin I f) L (zw_RC h sp la)) := by
  refine zv_entry gd_X4_begin (Nat.le_of_ble_eq_true rfl) ?_
  refine zv_run 9 (pc' := 15) (lo' := [some (.ref 39), some (.int f)]) (st' := []) (I' := (zx_uI (zx_uI (zx_uI I 39 0 0) 39 1 0) 39 2 f)) (L' := L) (R' := zw_RC h sp la) rfl ?_
  exact zv_vret (zs_at rfl) rfl ⟨Nat.le_refl _, Nat.le_refl _⟩ (zw_to rfl rfl rfl rfl)
theorem ct_X4_makeUp {d : Nat} {I : zx_I} {L : zx_L} {h sp : Nat} {la : Option Nat}   : zx_M0 mm_X4_makeUp (d + 0) 0 0 [.ref 39] zw_SC I L (zw_RC h sp la) (zw_ret (none) zw_SC (ff_up I) L (zw_RC h sp la)) := by
  refine zv_entry gd_X4_makeUp (Nat.le_of_ble_eq_true rfl) ?_
  refine zv_run 2 (pc' := 4) (lo' := [some (.ref 39)]) (st' := [.int (I 39 2)]) (I' := I) (L' := L) (R' := zw_RC h sp la) rfl ?_
  refine zv_if_le (tgt := 27) (zs_at rfl) (by decide) (fun c4 => ?_) (fun c4 => ?_)
  · have _c := c4
    exact zv_vret (zs_at rfl) rfl ⟨Nat.le_refl _, Nat.le_refl _⟩ (zw_to rfl (by unfold ff_up; rw [if_pos c4]) rfl rfl)
  · have _c := c4
    refine zv_run 12 (pc' := 27) (lo' := [some (.ref 39)]) (st' := []) (I' := (zx_uI (zx_uI (zx_uI I 39 2 ((I 39 2) - 1)) 39 0 3) 39 1 0)) (L' := L) (R' := zw_RC h sp la) rfl ?_
    exact zv_vret (zs_at rfl) rfl ⟨Nat.le_refl _, Nat.le_refl _⟩ (zw_to rfl (by unfold ff_up; rw [if_neg c4]) rfl rfl)
theorem ct_X4_gives {d : Nat} {I : zx_I} {L : zx_L} {h sp : Nat} {la : Option Nat} {a : Nat}  (ha : a = 4 ∨ a = 14)  : zx_M0 mm_X4_gives (d + 0) 0 0 [.ref 39, .ref a] zw_SC I L (zw_RC h sp la) (zw_ret (some (.int (ff_gives I a))) zw_SC I L (zw_RC h sp la)) := by
  rcases ha with rfl | rfl
  · refine zv_entry gd_X4_gives (Nat.le_of_ble_eq_true rfl) ?_
    refine zv_run 3 (pc' := 5) (lo' := [some (.ref 39), some (.ref 4)]) (st' := [.int 1, .int (I 39 0)]) (I' := I) (L' := L) (R' := zw_RC h sp la) rfl ?_
    refine zv_icmp_lt (tgt := 16) (zs_at rfl) (by decide) (fun c5 => ?_) (fun c5 => ?_)
    · have _c := c5
      refine zv_run 2 (pc' := 29) (lo' := [some (.ref 39), some (.ref 4)]) (st' := [.int 0]) (I' := I) (L' := L) (R' := zw_RC h sp la) rfl ?_
      exact zv_iret (zs_at rfl) rfl ⟨Nat.le_refl _, Nat.le_refl _⟩ (zw_to (by simp [ff_gives, *]) rfl rfl rfl)
    · have _c := c5
      refine zv_run 3 (pc' := 13) (lo' := [some (.ref 39), some (.ref 4)]) (st' := [.int 3, .int (I 39 0)]) (I' := I) (L' := L) (R' := zw_RC h sp la) rfl ?_
      refine zv_icmp_le (tgt := 20) (zs_at rfl) (by decide) (fun c13 => ?_) (fun c13 => ?_)
      · have _c := c13
        refine zv_run 4 (pc' := 28) (lo' := [some (.ref 39), some (.ref 4)]) (st' := [.int (I 39 0), .ref 5]) (I' := I) (L' := L) (R' := zw_RC h sp la) rfl ?_
        refine zv_iald (zs_at rfl) rfl (zin2 c5 c13 (by decide) (by decide)) ?_
        exact zv_iret (zs_at rfl) rfl ⟨Nat.le_refl _, Nat.le_refl _⟩ (zw_to (by simp [ff_gives, *]) rfl rfl rfl)
      · have _c := c13
        refine zv_run 2 (pc' := 29) (lo' := [some (.ref 39), some (.ref 4)]) (st' := [.int 0]) (I' := I) (L' := L) (R' := zw_RC h sp la) rfl ?_
        exact zv_iret (zs_at rfl) rfl ⟨Nat.le_refl _, Nat.le_refl _⟩ (zw_to (by simp [ff_gives, *]) rfl rfl rfl)
  · refine zv_entry gd_X4_gives (Nat.le_of_ble_eq_true rfl) ?_
    refine zv_run 3 (pc' := 5) (lo' := [some (.ref 39), some (.ref 14)]) (st' := [.int 1, .int (I 39 0)]) (I' := I) (L' := L) (R' := zw_RC h sp la) rfl ?_
    refine zv_icmp_lt (tgt := 16) (zs_at rfl) (by decide) (fun c5 => ?_) (fun c5 => ?_)
    · have _c := c5
      refine zv_run 2 (pc' := 29) (lo' := [some (.ref 39), some (.ref 14)]) (st' := [.int 0]) (I' := I) (L' := L) (R' := zw_RC h sp la) rfl ?_
      exact zv_iret (zs_at rfl) rfl ⟨Nat.le_refl _, Nat.le_refl _⟩ (zw_to (by simp [ff_gives, *]) rfl rfl rfl)
    · have _c := c5
      refine zv_run 3 (pc' := 13) (lo' := [some (.ref 39), some (.ref 14)]) (st' := [.int 3, .int (I 39 0)]) (I' := I) (L' := L) (R' := zw_RC h sp la) rfl ?_
      refine zv_icmp_le (tgt := 20) (zs_at rfl) (by decide) (fun c13 => ?_) (fun c13 => ?_)
      · have _c := c13
        refine zv_run 4 (pc' := 28) (lo' := [some (.ref 39), some (.ref 14)]) (st' := [.int (I 39 0), .ref 15]) (I' := I) (L' := L) (R' := zw_RC h sp la) rfl ?_
        refine zv_iald (zs_at rfl) rfl (zin2 c5 c13 (by decide) (by decide)) ?_
        exact zv_iret (zs_at rfl) rfl ⟨Nat.le_refl _, Nat.le_refl _⟩ (zw_to (by simp [ff_gives, *]) rfl rfl rfl)
      · have _c := c13
        refine zv_run 2 (pc' := 29) (lo' := [some (.ref 39), some (.ref 14)]) (st' := [.int 0]) (I' := I) (L' := L) (R' := zw_RC h sp la) rfl ?_
        exact zv_iret (zs_at rfl) rfl ⟨Nat.le_refl _, Nat.le_refl _⟩ (zw_to (by simp [ff_gives, *]) rfl rfl rfl)
theorem ct_X4_getOlder {d : Nat} {I : zx_I} {L : zx_L} {h sp : Nat} {la : Option Nat} {a : Nat}  (ha : a = 4 ∨ a = 14)  : zx_M0 mm_X4_getOlder (d + 0) 0 0 [.ref 39, .ref a] zw_SC I L (zw_RC h sp la) (zw_ret (none) zw_SC (ff_old I a) L (zw_RC h sp la)) := by
  rcases ha with rfl | rfl
  · refine zv_entry gd_X4_getOlder (Nat.le_of_ble_eq_true rfl) ?_
    refine zv_run 3 (pc' := 5) (lo' := [some (.ref 39), some (.ref 4)]) (st' := [.int 1, .int (I 39 0)]) (I' := I) (L' := L) (R' := zw_RC h sp la) rfl ?_
    refine zv_icmp_lt (tgt := 16) (zs_at rfl) (by decide) (fun c5 => ?_) (fun c5 => ?_)
    · have _c := c5
      exact zv_vret (zs_at rfl) rfl ⟨Nat.le_refl _, Nat.le_refl _⟩ (zw_to rfl (by simp [ff_old, *]) rfl rfl)
    · have _c := c5
      refine zv_run 3 (pc' := 13) (lo' := [some (.ref 39), some (.ref 4)]) (st' := [.int 3, .int (I 39 0)]) (I' := I) (L' := L) (R' := zw_RC h sp la) rfl ?_
      refine zv_icmp_le (tgt := 17) (zs_at rfl) (by decide) (fun c13 => ?_) (fun c13 => ?_)
      · have _c := c13
        refine zv_run 12 (pc' := 39) (lo' := [some (.ref 39), some (.ref 4)]) (st' := [.int (I 39 0), .ref 6, .int ((I 39 1) + 1)]) (I' := (zx_uI I 39 1 ((I 39 1) + 1))) (L' := L) (R' := zw_RC h sp la) rfl ?_
        refine zv_iald (zs_at rfl) rfl (zin2 c5 c13 (by decide) (by decide)) ?_
        refine zv_run 0 (pc' := 40) (lo' := [some (.ref 39), some (.ref 4)]) (st' := [.int (I 6 ((I 39 0).toNatClampNeg)), .int ((I 39 1) + 1)]) (I' := (zx_uI I 39 1 ((I 39 1) + 1))) (L' := L) (R' := zw_RC h sp la) rfl ?_
        refine zv_icmp_lt (tgt := 58) (zs_at rfl) (by decide) (fun c40 => ?_) (fun c40 => ?_)
        · have _c := c40
          exact zv_vret (zs_at rfl) rfl ⟨Nat.le_refl _, Nat.le_refl _⟩ (zw_to rfl (by simp [ff_old, *]) rfl rfl)
        · have _c := c40
          refine zv_run 9 (pc' := 58) (lo' := [some (.ref 39), some (.ref 4)]) (st' := []) (I' := (zx_uI (zx_uI (zx_uI I 39 1 ((I 39 1) + 1)) 39 0 ((I 39 0) - 1)) 39 1 0)) (L' := L) (R' := zw_RC h sp la) rfl ?_
          exact zv_vret (zs_at rfl) rfl ⟨Nat.le_refl _, Nat.le_refl _⟩ (zw_to rfl (by simp [ff_old, *]) rfl rfl)
      · have _c := c13
        exact zv_vret (zs_at rfl) rfl ⟨Nat.le_refl _, Nat.le_refl _⟩ (zw_to rfl (by simp [ff_old, *]) rfl rfl)
  · refine zv_entry gd_X4_getOlder (Nat.le_of_ble_eq_true rfl) ?_
    refine zv_run 3 (pc' := 5) (lo' := [some (.ref 39), some (.ref 14)]) (st' := [.int 1, .int (I 39 0)]) (I' := I) (L' := L) (R' := zw_RC h sp la) rfl ?_
    refine zv_icmp_lt (tgt := 16) (zs_at rfl) (by decide) (fun c5 => ?_) (fun c5 => ?_)
    · have _c := c5
      exact zv_vret (zs_at rfl) rfl ⟨Nat.le_refl _, Nat.le_refl _⟩ (zw_to rfl (by simp [ff_old, *]) rfl rfl)
    · have _c := c5
      refine zv_run 3 (pc' := 13) (lo' := [some (.ref 39), some (.ref 14)]) (st' := [.int 3, .int (I 39 0)]) (I' := I) (L' := L) (R' := zw_RC h sp la) rfl ?_
      refine zv_icmp_le (tgt := 17) (zs_at rfl) (by decide) (fun c13 => ?_) (fun c13 => ?_)
      · have _c := c13
        refine zv_run 12 (pc' := 39) (lo' := [some (.ref 39), some (.ref 14)]) (st' := [.int (I 39 0), .ref 16, .int ((I 39 1) + 1)]) (I' := (zx_uI I 39 1 ((I 39 1) + 1))) (L' := L) (R' := zw_RC h sp la) rfl ?_
        refine zv_iald (zs_at rfl) rfl (zin2 c5 c13 (by decide) (by decide)) ?_
        refine zv_run 0 (pc' := 40) (lo' := [some (.ref 39), some (.ref 14)]) (st' := [.int (I 16 ((I 39 0).toNatClampNeg)), .int ((I 39 1) + 1)]) (I' := (zx_uI I 39 1 ((I 39 1) + 1))) (L' := L) (R' := zw_RC h sp la) rfl ?_
        refine zv_icmp_lt (tgt := 58) (zs_at rfl) (by decide) (fun c40 => ?_) (fun c40 => ?_)
        · have _c := c40
          exact zv_vret (zs_at rfl) rfl ⟨Nat.le_refl _, Nat.le_refl _⟩ (zw_to rfl (by simp [ff_old, *]) rfl rfl)
        · have _c := c40
          refine zv_run 9 (pc' := 58) (lo' := [some (.ref 39), some (.ref 14)]) (st' := []) (I' := (zx_uI (zx_uI (zx_uI I 39 1 ((I 39 1) + 1)) 39 0 ((I 39 0) - 1)) 39 1 0)) (L' := L) (R' := zw_RC h sp la) rfl ?_
          exact zv_vret (zs_at rfl) rfl ⟨Nat.le_refl _, Nat.le_refl _⟩ (zw_to rfl (by simp [ff_old, *]) rfl rfl)
      · have _c := c13
        exact zv_vret (zs_at rfl) rfl ⟨Nat.le_refl _, Nat.le_refl _⟩ (zw_to rfl (by simp [ff_old, *]) rfl rfl)
theorem ct_X1_isLeftBy {d : Nat} {I : zx_I} {L : zx_L} {h sp : Nat} {la : Option Nat} {wl ww : Nat} {c : Int32} (hl : bt wl) (hb : bt ww) : zx_M0 mm_X1_isLeftBy (d + 0) 0 0 [.ref 40, .ref wl, .ref ww, .int c] zw_SC I L (zw_RC h sp la) (zw_ret (some (.int (fb_left I wl ww c))) zw_SC (fb_leftm I wl c) L (zw_RC h sp la)) := by
  refine zv_entry gd_X1_isLeftBy (Nat.le_of_ble_eq_true rfl) ?_
  refine zv_run 11 (pc' := 17) (lo' := [some (.ref 40), some (.ref wl), some (.ref ww), some (.int c)]) (st' := [.ref wl, .ref 40]) (I' := (zx_uI (zx_uI (zx_uI I 40 0 0) 40 2 0) 40 3 1)) (L' := L) (R' := zw_RC h sp la) rfl ?_
  refine zv_get (ci := 2) (k := 12) (t := 0) (zs_at rfl) (zf_ok rfl) (bt_S hl) rfl ?_
  refine zv_run 0 (pc' := 20) (lo' := [some (.ref 40), some (.ref wl), some (.ref ww), some (.int c)]) (st' := [.int (I wl 12), .ref 40]) (I' := (zx_uI (zx_uI (zx_uI I 40 0 0) 40 2 0) 40 3 1)) (L' := L) (R' := zw_RC h sp la) (by rw [show (zx_uI (zx_uI (zx_uI I 40 0 0) 40 2 0) 40 3 1) wl 12 = I wl 12 from by simp [zx_uI, zr, zmap, show wl ≠ 40 from by (unfold bt at hl; omega)]]; rfl) ?_
  refine zv_run 2 (pc' := 22) (lo' := [some (.ref 40), some (.ref wl), some (.ref ww), some (.int c)]) (st' := [.ref wl, .int c, .int (I wl 12), .ref 40]) (I' := (zx_uI (zx_uI (zx_uI I 40 0 0) 40 2 0) 40 3 1)) (L' := L) (R' := zw_RC h sp la) rfl ?_
  refine zv_get (ci := 2) (k := 4) (t := 0) (zs_at rfl) (zf_ok rfl) (bt_S hl) rfl ?_
  refine zv_run 0 (pc' := 25) (lo' := [some (.ref 40), some (.ref wl), some (.ref ww), some (.int c)]) (st' := [.int (I wl 4), .int c, .int (I wl 12), .ref 40]) (I' := (zx_uI (zx_uI (zx_uI I 40 0 0) 40 2 0) 40 3 1)) (L' := L) (R' := zw_RC h sp la) (by rw [show (zx_uI (zx_uI (zx_uI I 40 0 0) 40 2 0) 40 3 1) wl 4 = I wl 4 from by simp [zx_uI, zr, zmap, show wl ≠ 40 from by (unfold bt at hl; omega)]]; rfl) ?_
  refine zv_run 4 (pc' := 31) (lo' := [some (.ref 40), some (.ref wl), some (.ref ww), some (.int c)]) (st' := [.ref ww]) (I' := (zx_uI (zx_uI (zx_uI (zx_uI I 40 0 0) 40 2 0) 40 3 1) 40 1 ((I wl 12) - (c * (I wl 4))))) (L' := L) (R' := zw_RC h sp la) rfl ?_
  refine zv_get (ci := 2) (k := 8) (t := 0) (zs_at rfl) (zf_ok rfl) (bt_S hb) rfl ?_
  refine zv_run 0 (pc' := 34) (lo' := [some (.ref 40), some (.ref wl), some (.ref ww), some (.int c)]) (st' := [.int (I ww 8)]) (I' := (zx_uI (zx_uI (zx_uI (zx_uI I 40 0 0) 40 2 0) 40 3 1) 40 1 ((I wl 12) - (c * (I wl 4))))) (L' := L) (R' := zw_RC h sp la) (by rw [show (zx_uI (zx_uI (zx_uI (zx_uI I 40 0 0) 40 2 0) 40 3 1) 40 1 ((I wl 12) - (c * (I wl 4)))) ww 8 = I ww 8 from by simp [zx_uI, zr, zmap, show ww ≠ 40 from by (unfold bt at hb; omega)]]; rfl) ?_
  refine zv_run 1 (pc' := 35) (lo' := [some (.ref 40), some (.ref wl), some (.ref ww), some (.int c)]) (st' := [.ref wl, .int (I ww 8)]) (I' := (zx_uI (zx_uI (zx_uI (zx_uI I 40 0 0) 40 2 0) 40 3 1) 40 1 ((I wl 12) - (c * (I wl 4))))) (L' := L) (R' := zw_RC h sp la) rfl ?_
  refine zv_get (ci := 2) (k := 0) (t := 0) (zs_at rfl) (zf_ok rfl) (bt_S hl) rfl ?_
  refine zv_run 0 (pc' := 38) (lo' := [some (.ref 40), some (.ref wl), some (.ref ww), some (.int c)]) (st' := [.int (I wl 0), .int (I ww 8)]) (I' := (zx_uI (zx_uI (zx_uI (zx_uI I 40 0 0) 40 2 0) 40 3 1) 40 1 ((I wl 12) - (c * (I wl 4))))) (L' := L) (R' := zw_RC h sp la) (by rw [show (zx_uI (zx_uI (zx_uI (zx_uI I 40 0 0) 40 2 0) 40 3 1) 40 1 ((I wl 12) - (c * (I wl 4)))) wl 0 = I wl 0 from by simp [zx_uI, zr, zmap, show wl ≠ 40 from by (unfold bt at hl; omega)]]; rfl) ?_
  refine zv_run 1 (pc' := 39) (lo' := [some (.ref 40), some (.ref wl), some (.ref ww), some (.int c)]) (st' := [.int ((I ww 8) &&& (I wl 0))]) (I' := (zx_uI (zx_uI (zx_uI (zx_uI I 40 0 0) 40 2 0) 40 3 1) 40 1 ((I wl 12) - (c * (I wl 4))))) (L' := L) (R' := zw_RC h sp la) rfl ?_
  refine zv_if_eq (tgt := 68) (zs_at rfl) (by decide) (fun c39 => ?_) (fun c39 => ?_)
  · have _c := c39
    refine zv_run 1 (pc' := 69) (lo' := [some (.ref 40), some (.ref wl), some (.ref ww), some (.int c)]) (st' := [.int 0]) (I' := (zx_uI (zx_uI (zx_uI (zx_uI I 40 0 0) 40 2 0) 40 3 1) 40 1 ((I wl 12) - (c * (I wl 4))))) (L' := L) (R' := zw_RC h sp la) rfl ?_
    exact zv_zret (zs_at rfl) rfl (Or.inl rfl) ⟨Nat.le_refl _, Nat.le_refl _⟩ (zw_to (by simp [fb_left, fb_heat, *]) rfl rfl rfl)
  · have _c := c39
    refine zv_run 3 (pc' := 47) (lo' := [some (.ref 40), some (.ref wl), some (.ref ww), some (.int c)]) (st' := [.ref ww, .int ((I wl 12) - (c * (I wl 4)))]) (I' := (zx_uI (zx_uI (zx_uI (zx_uI I 40 0 0) 40 2 0) 40 3 1) 40 1 ((I wl 12) - (c * (I wl 4))))) (L' := L) (R' := zw_RC h sp la) rfl ?_
    refine zv_get (ci := 2) (k := 2) (t := 0) (zs_at rfl) (zf_ok rfl) (bt_S hb) rfl ?_
    refine zv_run 0 (pc' := 50) (lo' := [some (.ref 40), some (.ref wl), some (.ref ww), some (.int c)]) (st' := [.int (I ww 2), .int ((I wl 12) - (c * (I wl 4)))]) (I' := (zx_uI (zx_uI (zx_uI (zx_uI I 40 0 0) 40 2 0) 40 3 1) 40 1 ((I wl 12) - (c * (I wl 4))))) (L' := L) (R' := zw_RC h sp la) (by rw [show (zx_uI (zx_uI (zx_uI (zx_uI I 40 0 0) 40 2 0) 40 3 1) 40 1 ((I wl 12) - (c * (I wl 4)))) ww 2 = I ww 2 from by simp [zx_uI, zr, zmap, show ww ≠ 40 from by (unfold bt at hb; omega)]]; rfl) ?_
    refine zv_icmp_lt (tgt := 68) (zs_at rfl) (by decide) (fun c50 => ?_) (fun c50 => ?_)
    · have _c := c50
      refine zv_run 1 (pc' := 69) (lo' := [some (.ref 40), some (.ref wl), some (.ref ww), some (.int c)]) (st' := [.int 0]) (I' := (zx_uI (zx_uI (zx_uI (zx_uI I 40 0 0) 40 2 0) 40 3 1) 40 1 ((I wl 12) - (c * (I wl 4))))) (L' := L) (R' := zw_RC h sp la) rfl ?_
      exact zv_zret (zs_at rfl) rfl (Or.inl rfl) ⟨Nat.le_refl _, Nat.le_refl _⟩ (zw_to (by simp [fb_left, fb_heat, *]) rfl rfl rfl)
    · have _c := c50
      refine zv_run 3 (pc' := 58) (lo' := [some (.ref 40), some (.ref wl), some (.ref ww), some (.int c)]) (st' := [.ref ww, .int ((I wl 12) - (c * (I wl 4)))]) (I' := (zx_uI (zx_uI (zx_uI (zx_uI I 40 0 0) 40 2 0) 40 3 1) 40 1 ((I wl 12) - (c * (I wl 4))))) (L' := L) (R' := zw_RC h sp la) rfl ?_
      refine zv_get (ci := 2) (k := 3) (t := 0) (zs_at rfl) (zf_ok rfl) (bt_S hb) rfl ?_
      refine zv_run 0 (pc' := 61) (lo' := [some (.ref 40), some (.ref wl), some (.ref ww), some (.int c)]) (st' := [.int (I ww 3), .int ((I wl 12) - (c * (I wl 4)))]) (I' := (zx_uI (zx_uI (zx_uI (zx_uI I 40 0 0) 40 2 0) 40 3 1) 40 1 ((I wl 12) - (c * (I wl 4))))) (L' := L) (R' := zw_RC h sp la) (by rw [show (zx_uI (zx_uI (zx_uI (zx_uI I 40 0 0) 40 2 0) 40 3 1) 40 1 ((I wl 12) - (c * (I wl 4)))) ww 3 = I ww 3 from by simp [zx_uI, zr, zmap, show ww ≠ 40 from by (unfold bt at hb; omega)]]; rfl) ?_
      refine zv_icmp_gt (tgt := 68) (zs_at rfl) (by decide) (fun c61 => ?_) (fun c61 => ?_)
      · have _c := c61
        refine zv_run 1 (pc' := 69) (lo' := [some (.ref 40), some (.ref wl), some (.ref ww), some (.int c)]) (st' := [.int 0]) (I' := (zx_uI (zx_uI (zx_uI (zx_uI I 40 0 0) 40 2 0) 40 3 1) 40 1 ((I wl 12) - (c * (I wl 4))))) (L' := L) (R' := zw_RC h sp la) rfl ?_
        exact zv_zret (zs_at rfl) rfl (Or.inl rfl) ⟨Nat.le_refl _, Nat.le_refl _⟩ (zw_to (by simp [fb_left, fb_heat, *]) rfl rfl rfl)
      · have _c := c61
        refine zv_run 2 (pc' := 69) (lo' := [some (.ref 40), some (.ref wl), some (.ref ww), some (.int c)]) (st' := [.int 1]) (I' := (zx_uI (zx_uI (zx_uI (zx_uI I 40 0 0) 40 2 0) 40 3 1) 40 1 ((I wl 12) - (c * (I wl 4))))) (L' := L) (R' := zw_RC h sp la) rfl ?_
        exact zv_zret (zs_at rfl) rfl (Or.inr rfl) ⟨Nat.le_refl _, Nat.le_refl _⟩ (zw_to (by simp [fb_left, fb_heat, *]) rfl rfl rfl)
theorem ct_X1_comesFrom {d : Nat} {I : zx_I} {L : zx_L} {h sp : Nat} {la : Option Nat} {ww : Nat} {g : Int32} (hT : tk_ok I) (hb : bt ww) (hv : 1 ≤ (I ww 1).toInt) (hq0 : ¬ fc_p I ww g = -4 → ¬ fc_p I ww g / I 37 2 < 0) (hq1 : ¬ fc_p I ww g = -4 → fc_p I ww g / I 37 2 ≤ I 37 1) : zx_M0 mm_X1_comesFrom (d + 1) 0 0 [.ref 40, .ref 37, .ref ww, .int g] zw_SC I L (zw_RC h sp la) (zw_ret (some (.int (fc_is I ww g))) zw_SC (fc_m I ww g) L (zw_RC h sp la)) := by
  refine zv_entry gd_X1_comesFrom (Nat.le_of_ble_eq_true rfl) ?_
  have K : zx_V mm_X1_comesFrom (d + 1) z0 (zw_ret (some (.int (fc_is I ww g))) zw_SC (fc_m I ww g) L (zw_RC h sp la)) zw_SC 34 [some (.ref 40), some (.ref 37), some (.ref ww), some (.int g), some (.int (I ww 1)), none] [] (zx_uI (zx_uI I 40 3 0) 40 2 (fc_k I ww g)) L (zw_RC h sp la) := by
    refine zv_run 16 (pc' := 59) (lo' := [some (.ref 40), some (.ref 37), some (.ref ww), some (.int g), some (.int (I ww 1)), some (.int ((100 * (fc_k I ww g)) + ((I 37 3) * ((I ww 1) - (fc_k I ww g)))))]) (st' := [.ref ww, .ref 37, .ref 40]) (I' := (zx_uI (zx_uI I 40 3 0) 40 2 (fc_k I ww g))) (L' := L) (R' := zw_RC h sp la) rfl ?_
    refine zv_get (ci := 2) (k := 2) (t := 0) (zs_at rfl) (zf_ok rfl) (bt_S hb) rfl ?_
    refine zv_run 0 (pc' := 62) (lo' := [some (.ref 40), some (.ref 37), some (.ref ww), some (.int g), some (.int (I ww 1)), some (.int ((100 * (fc_k I ww g)) + ((I 37 3) * ((I ww 1) - (fc_k I ww g)))))]) (st' := [.int (I ww 2), .ref 37, .ref 40]) (I' := (zx_uI (zx_uI I 40 3 0) 40 2 (fc_k I ww g))) (L' := L) (R' := zw_RC h sp la) (by rw [show (zx_uI (zx_uI I 40 3 0) 40 2 (fc_k I ww g)) ww 2 = I ww 2 from by simp [zx_uI, zr, zmap, show ww ≠ 40 from by (unfold bt at hb; omega)]]; rfl) ?_
    refine zv_run 8 (pc' := 75) (lo' := [some (.ref 40), some (.ref 37), some (.ref ww), some (.int g), some (.int (I ww 1)), some (.int ((100 * (fc_k I ww g)) + ((I 37 3) * ((I ww 1) - (fc_k I ww g)))))]) (st' := [.int ((I ww 1) - (fc_k I ww g)), .int (((I ww 2) * (I ww 1)) - ((100 * (fc_k I ww g)) + ((I 37 3) * ((I ww 1) - (fc_k I ww g))))), .ref 37, .ref 40]) (I' := (zx_uI (zx_uI I 40 3 0) 40 2 (fc_k I ww g))) (L' := L) (R' := zw_RC h sp la) rfl ?_
    refine zv_cV (M' := mm_X7_pintsFor) (ci := 7) (a := 37) (av := [.int (((I ww 2) * (I ww 1)) - ((100 * (fc_k I ww g)) + ((I 37 3) * ((I ww 1) - (fc_k I ww g))))), .int ((I ww 1) - (fc_k I ww g))]) (st := [.ref 40]) (r := some (.int (ft_pints I (((I ww 2) * (I ww 1)) - ((100 * (fc_k I ww g)) + ((I 37 3) * ((I ww 1) - (fc_k I ww g))))) ((I ww 1) - (fc_k I ww g))))) (I' := (zx_uI (zx_uI I 40 3 0) 40 2 (fc_k I ww g))) (L' := L) (R' := zw_RC h sp la) rfl zc_1_49 gd_X7_pintsFor rfl rfl rfl (Nat.le_of_ble_eq_true rfl) (ct_X7_pintsFor (d := d) (I := (zx_uI (zx_uI I 40 3 0) 40 2 (fc_k I ww g))) hT) ⟨Nat.le_refl _, Nat.le_refl _⟩ ?_
    refine zv_run 0 (pc' := 78) (lo' := [some (.ref 40), some (.ref 37), some (.ref ww), some (.int g), some (.int (I ww 1)), some (.int ((100 * (fc_k I ww g)) + ((I 37 3) * ((I ww 1) - (fc_k I ww g)))))]) (st' := [.int (ft_pints I (((I ww 2) * (I ww 1)) - ((100 * (fc_k I ww g)) + ((I 37 3) * ((I ww 1) - (fc_k I ww g))))) ((I ww 1) - (fc_k I ww g))), .ref 40]) (I' := (zx_uI (zx_uI I 40 3 0) 40 2 (fc_k I ww g))) (L' := L) (R' := zw_RC h sp la) rfl ?_
    refine zv_run 4 (pc' := 87) (lo' := [some (.ref 40), some (.ref 37), some (.ref ww), some (.int g), some (.int (I ww 1)), some (.int ((100 * (fc_k I ww g)) + ((I 37 3) * ((I ww 1) - (fc_k I ww g)))))]) (st' := [.int (-4), .int (ft_pints I (((I ww 2) * (I ww 1)) - ((100 * (fc_k I ww g)) + ((I 37 3) * ((I ww 1) - (fc_k I ww g))))) ((I ww 1) - (fc_k I ww g)))]) (I' := (zx_uI (zx_uI (zx_uI I 40 3 0) 40 2 (fc_k I ww g)) 40 0 (ft_pints I (((I ww 2) * (I ww 1)) - ((100 * (fc_k I ww g)) + ((I 37 3) * ((I ww 1) - (fc_k I ww g))))) ((I ww 1) - (fc_k I ww g))))) (L' := L) (R' := zw_RC h sp la) rfl ?_
    refine zv_icmp_ne (tgt := 92) (zs_at rfl) (by decide) (fun c87 => ?_) (fun c87 => ?_)
    · have _c := c87
      refine zv_run 5 (pc' := 100) (lo' := [some (.ref 40), some (.ref 37), some (.ref ww), some (.int g), some (.int (I ww 1)), some (.int ((100 * (fc_k I ww g)) + ((I 37 3) * ((I ww 1) - (fc_k I ww g)))))]) (st' := [.int (ft_pints I (((I ww 2) * (I ww 1)) - ((100 * (fc_k I ww g)) + ((I 37 3) * ((I ww 1) - (fc_k I ww g))))) ((I ww 1) - (fc_k I ww g))), .ref 37, .int ((100 * (fc_k I ww g)) + ((I 37 3) * ((I ww 1) - (fc_k I ww g)))), .ref 40]) (I' := (zx_uI (zx_uI (zx_uI I 40 3 0) 40 2 (fc_k I ww g)) 40 0 (ft_pints I (((I ww 2) * (I ww 1)) - ((100 * (fc_k I ww g)) + ((I 37 3) * ((I ww 1) - (fc_k I ww g))))) ((I ww 1) - (fc_k I ww g))))) (L' := L) (R' := zw_RC h sp la) rfl ?_
      refine zv_cV (M' := mm_X7_unitsOfTop) (ci := 7) (a := 37) (av := [.int (ft_pints I (((I ww 2) * (I ww 1)) - ((100 * (fc_k I ww g)) + ((I 37 3) * ((I ww 1) - (fc_k I ww g))))) ((I ww 1) - (fc_k I ww g)))]) (st := [.int ((100 * (fc_k I ww g)) + ((I 37 3) * ((I ww 1) - (fc_k I ww g)))), .ref 40]) (r := some (.int (ft_topc I (ft_pints I (((I ww 2) * (I ww 1)) - ((100 * (fc_k I ww g)) + ((I 37 3) * ((I ww 1) - (fc_k I ww g))))) ((I ww 1) - (fc_k I ww g)))))) (I' := (zx_uI (zx_uI (zx_uI I 40 3 0) 40 2 (fc_k I ww g)) 40 0 (ft_pints I (((I ww 2) * (I ww 1)) - ((100 * (fc_k I ww g)) + ((I 37 3) * ((I ww 1) - (fc_k I ww g))))) ((I ww 1) - (fc_k I ww g))))) (L' := L) (R' := zw_RC h sp la) rfl zc_1_53 gd_X7_unitsOfTop rfl rfl rfl (Nat.le_of_ble_eq_true rfl) (ct2_X7_unitsOfTop (d := d) (I := (zx_uI (zx_uI (zx_uI I 40 3 0) 40 2 (fc_k I ww g)) 40 0 (ft_pints I (((I ww 2) * (I ww 1)) - ((100 * (fc_k I ww g)) + ((I 37 3) * ((I ww 1) - (fc_k I ww g))))) ((I ww 1) - (fc_k I ww g))))) hT (by first | exact hq0 (by assumption) | skip) (by first | exact hq1 (by assumption) | skip)) ⟨Nat.le_refl _, Nat.le_refl _⟩ ?_
      refine zv_run 0 (pc' := 103) (lo' := [some (.ref 40), some (.ref 37), some (.ref ww), some (.int g), some (.int (I ww 1)), some (.int ((100 * (fc_k I ww g)) + ((I 37 3) * ((I ww 1) - (fc_k I ww g)))))]) (st' := [.int (ft_topc I (ft_pints I (((I ww 2) * (I ww 1)) - ((100 * (fc_k I ww g)) + ((I 37 3) * ((I ww 1) - (fc_k I ww g))))) ((I ww 1) - (fc_k I ww g)))), .int ((100 * (fc_k I ww g)) + ((I 37 3) * ((I ww 1) - (fc_k I ww g)))), .ref 40]) (I' := (zx_uI (zx_uI (zx_uI I 40 3 0) 40 2 (fc_k I ww g)) 40 0 (ft_pints I (((I ww 2) * (I ww 1)) - ((100 * (fc_k I ww g)) + ((I 37 3) * ((I ww 1) - (fc_k I ww g))))) ((I ww 1) - (fc_k I ww g))))) (L' := L) (R' := zw_RC h sp la) rfl ?_
      refine zv_run 8 (pc' := 116) (lo' := [some (.ref 40), some (.ref 37), some (.ref ww), some (.int g), some (.int (I ww 1)), some (.int ((100 * (fc_k I ww g)) + ((I 37 3) * ((I ww 1) - (fc_k I ww g)))))]) (st' := [.int (I ww 1), .int ((((100 * (fc_k I ww g)) + ((I 37 3) * ((I ww 1) - (fc_k I ww g)))) + (ft_topc I (ft_pints I (((I ww 2) * (I ww 1)) - ((100 * (fc_k I ww g)) + ((I 37 3) * ((I ww 1) - (fc_k I ww g))))) ((I ww 1) - (fc_k I ww g))))) - ((I 37 3) * (ft_pints I (((I ww 2) * (I ww 1)) - ((100 * (fc_k I ww g)) + ((I 37 3) * ((I ww 1) - (fc_k I ww g))))) ((I ww 1) - (fc_k I ww g))))), .ref 40]) (I' := (zx_uI (zx_uI (zx_uI I 40 3 0) 40 2 (fc_k I ww g)) 40 0 (ft_pints I (((I ww 2) * (I ww 1)) - ((100 * (fc_k I ww g)) + ((I 37 3) * ((I ww 1) - (fc_k I ww g))))) ((I ww 1) - (fc_k I ww g))))) (L' := L) (R' := zw_RC h sp la) rfl ?_
      refine zv_idiv (zs_at rfl) (fun q => by rw [q] at hv; exact absurd hv (by decide)) ?_
      refine zv_run 4 (pc' := 125) (lo' := [some (.ref 40), some (.ref 37), some (.ref ww), some (.int g), some (.int (I ww 1)), some (.int ((100 * (fc_k I ww g)) + ((I 37 3) * ((I ww 1) - (fc_k I ww g)))))]) (st' := [.ref ww, .int (((((100 * (fc_k I ww g)) + ((I 37 3) * ((I ww 1) - (fc_k I ww g)))) + (ft_topc I (ft_pints I (((I ww 2) * (I ww 1)) - ((100 * (fc_k I ww g)) + ((I 37 3) * ((I ww 1) - (fc_k I ww g))))) ((I ww 1) - (fc_k I ww g))))) - ((I 37 3) * (ft_pints I (((I ww 2) * (I ww 1)) - ((100 * (fc_k I ww g)) + ((I 37 3) * ((I ww 1) - (fc_k I ww g))))) ((I ww 1) - (fc_k I ww g))))) / (I ww 1))]) (I' := (zx_uI (zx_uI (zx_uI (zx_uI I 40 3 0) 40 2 (fc_k I ww g)) 40 0 (ft_pints I (((I ww 2) * (I ww 1)) - ((100 * (fc_k I ww g)) + ((I 37 3) * ((I ww 1) - (fc_k I ww g))))) ((I ww 1) - (fc_k I ww g)))) 40 1 (((((100 * (fc_k I ww g)) + ((I 37 3) * ((I ww 1) - (fc_k I ww g)))) + (ft_topc I (ft_pints I (((I ww 2) * (I ww 1)) - ((100 * (fc_k I ww g)) + ((I 37 3) * ((I ww 1) - (fc_k I ww g))))) ((I ww 1) - (fc_k I ww g))))) - ((I 37 3) * (ft_pints I (((I ww 2) * (I ww 1)) - ((100 * (fc_k I ww g)) + ((I 37 3) * ((I ww 1) - (fc_k I ww g))))) ((I ww 1) - (fc_k I ww g))))) / (I ww 1)))) (L' := L) (R' := zw_RC h sp la) rfl ?_
      refine zv_get (ci := 2) (k := 3) (t := 0) (zs_at rfl) (zf_ok rfl) (bt_S hb) rfl ?_
      refine zv_run 0 (pc' := 128) (lo' := [some (.ref 40), some (.ref 37), some (.ref ww), some (.int g), some (.int (I ww 1)), some (.int ((100 * (fc_k I ww g)) + ((I 37 3) * ((I ww 1) - (fc_k I ww g)))))]) (st' := [.int (I ww 3), .int (((((100 * (fc_k I ww g)) + ((I 37 3) * ((I ww 1) - (fc_k I ww g)))) + (ft_topc I (ft_pints I (((I ww 2) * (I ww 1)) - ((100 * (fc_k I ww g)) + ((I 37 3) * ((I ww 1) - (fc_k I ww g))))) ((I ww 1) - (fc_k I ww g))))) - ((I 37 3) * (ft_pints I (((I ww 2) * (I ww 1)) - ((100 * (fc_k I ww g)) + ((I 37 3) * ((I ww 1) - (fc_k I ww g))))) ((I ww 1) - (fc_k I ww g))))) / (I ww 1))]) (I' := (zx_uI (zx_uI (zx_uI (zx_uI I 40 3 0) 40 2 (fc_k I ww g)) 40 0 (ft_pints I (((I ww 2) * (I ww 1)) - ((100 * (fc_k I ww g)) + ((I 37 3) * ((I ww 1) - (fc_k I ww g))))) ((I ww 1) - (fc_k I ww g)))) 40 1 (((((100 * (fc_k I ww g)) + ((I 37 3) * ((I ww 1) - (fc_k I ww g)))) + (ft_topc I (ft_pints I (((I ww 2) * (I ww 1)) - ((100 * (fc_k I ww g)) + ((I 37 3) * ((I ww 1) - (fc_k I ww g))))) ((I ww 1) - (fc_k I ww g))))) - ((I 37 3) * (ft_pints I (((I ww 2) * (I ww 1)) - ((100 * (fc_k I ww g)) + ((I 37 3) * ((I ww 1) - (fc_k I ww g))))) ((I ww 1) - (fc_k I ww g))))) / (I ww 1)))) (L' := L) (R' := zw_RC h sp la) (by rw [show (zx_uI (zx_uI (zx_uI (zx_uI I 40 3 0) 40 2 (fc_k I ww g)) 40 0 (ft_pints I (((I ww 2) * (I ww 1)) - ((100 * (fc_k I ww g)) + ((I 37 3) * ((I ww 1) - (fc_k I ww g))))) ((I ww 1) - (fc_k I ww g)))) 40 1 (((((100 * (fc_k I ww g)) + ((I 37 3) * ((I ww 1) - (fc_k I ww g)))) + (ft_topc I (ft_pints I (((I ww 2) * (I ww 1)) - ((100 * (fc_k I ww g)) + ((I 37 3) * ((I ww 1) - (fc_k I ww g))))) ((I ww 1) - (fc_k I ww g))))) - ((I 37 3) * (ft_pints I (((I ww 2) * (I ww 1)) - ((100 * (fc_k I ww g)) + ((I 37 3) * ((I ww 1) - (fc_k I ww g))))) ((I ww 1) - (fc_k I ww g))))) / (I ww 1))) ww 3 = I ww 3 from by simp [zx_uI, zr, zmap, show ww ≠ 40 from by (unfold bt at hb; omega)]]; rfl) ?_
      refine zv_icmp_gt (tgt := 135) (zs_at rfl) (by decide) (fun c128 => ?_) (fun c128 => ?_)
      · have _c := c128
        refine zv_run 1 (pc' := 136) (lo' := [some (.ref 40), some (.ref 37), some (.ref ww), some (.int g), some (.int (I ww 1)), some (.int ((100 * (fc_k I ww g)) + ((I 37 3) * ((I ww 1) - (fc_k I ww g)))))]) (st' := [.int 0]) (I' := (zx_uI (zx_uI (zx_uI (zx_uI I 40 3 0) 40 2 (fc_k I ww g)) 40 0 (ft_pints I (((I ww 2) * (I ww 1)) - ((100 * (fc_k I ww g)) + ((I 37 3) * ((I ww 1) - (fc_k I ww g))))) ((I ww 1) - (fc_k I ww g)))) 40 1 (((((100 * (fc_k I ww g)) + ((I 37 3) * ((I ww 1) - (fc_k I ww g)))) + (ft_topc I (ft_pints I (((I ww 2) * (I ww 1)) - ((100 * (fc_k I ww g)) + ((I 37 3) * ((I ww 1) - (fc_k I ww g))))) ((I ww 1) - (fc_k I ww g))))) - ((I 37 3) * (ft_pints I (((I ww 2) * (I ww 1)) - ((100 * (fc_k I ww g)) + ((I 37 3) * ((I ww 1) - (fc_k I ww g))))) ((I ww 1) - (fc_k I ww g))))) / (I ww 1)))) (L' := L) (R' := zw_RC h sp la) rfl ?_
        exact zv_zret (zs_at rfl) rfl (Or.inl rfl) ⟨Nat.le_refl _, Nat.le_refl _⟩ (zw_to (by unfold fc_is; rw [if_neg (show ¬ fc_p I ww g = -4 from c87), if_pos (show fc_h I ww g > I ww 3 from c128)]) (by unfold fc_m; rw [if_neg (show ¬ fc_p I ww g = -4 from c87)]; rfl) rfl rfl)
      · have _c := c128
        refine zv_run 2 (pc' := 136) (lo' := [some (.ref 40), some (.ref 37), some (.ref ww), some (.int g), some (.int (I ww 1)), some (.int ((100 * (fc_k I ww g)) + ((I 37 3) * ((I ww 1) - (fc_k I ww g)))))]) (st' := [.int 1]) (I' := (zx_uI (zx_uI (zx_uI (zx_uI I 40 3 0) 40 2 (fc_k I ww g)) 40 0 (ft_pints I (((I ww 2) * (I ww 1)) - ((100 * (fc_k I ww g)) + ((I 37 3) * ((I ww 1) - (fc_k I ww g))))) ((I ww 1) - (fc_k I ww g)))) 40 1 (((((100 * (fc_k I ww g)) + ((I 37 3) * ((I ww 1) - (fc_k I ww g)))) + (ft_topc I (ft_pints I (((I ww 2) * (I ww 1)) - ((100 * (fc_k I ww g)) + ((I 37 3) * ((I ww 1) - (fc_k I ww g))))) ((I ww 1) - (fc_k I ww g))))) - ((I 37 3) * (ft_pints I (((I ww 2) * (I ww 1)) - ((100 * (fc_k I ww g)) + ((I 37 3) * ((I ww 1) - (fc_k I ww g))))) ((I ww 1) - (fc_k I ww g))))) / (I ww 1)))) (L' := L) (R' := zw_RC h sp la) rfl ?_
        exact zv_zret (zs_at rfl) rfl (Or.inr rfl) ⟨Nat.le_refl _, Nat.le_refl _⟩ (zw_to (by unfold fc_is; rw [if_neg (show ¬ fc_p I ww g = -4 from c87), if_neg (show ¬ fc_h I ww g > I ww 3 from c128)]) (by unfold fc_m; rw [if_neg (show ¬ fc_p I ww g = -4 from c87)]; rfl) rfl rfl)
    · have _c := c87
      refine zv_run 1 (pc' := 91) (lo' := [some (.ref 40), some (.ref 37), some (.ref ww), some (.int g), some (.int (I ww 1)), some (.int ((100 * (fc_k I ww g)) + ((I 37 3) * ((I ww 1) - (fc_k I ww g)))))]) (st' := [.int 0]) (I' := (zx_uI (zx_uI (zx_uI I 40 3 0) 40 2 (fc_k I ww g)) 40 0 (ft_pints I (((I ww 2) * (I ww 1)) - ((100 * (fc_k I ww g)) + ((I 37 3) * ((I ww 1) - (fc_k I ww g))))) ((I ww 1) - (fc_k I ww g))))) (L' := L) (R' := zw_RC h sp la) rfl ?_
      exact zv_zret (zs_at rfl) rfl (Or.inl rfl) ⟨Nat.le_refl _, Nat.le_refl _⟩ (zw_to (by unfold fc_is; rw [if_pos (show fc_p I ww g = -4 from c87)]) (by unfold fc_m; rw [if_pos (show fc_p I ww g = -4 from c87)]; rfl) rfl rfl)
  refine zv_run 1 (pc' := 1) (lo' := [some (.ref 40), some (.ref 37), some (.ref ww), some (.int g), none, none]) (st' := [.ref ww]) (I' := I) (L' := L) (R' := zw_RC h sp la) rfl ?_
  refine zv_get (ci := 2) (k := 1) (t := 0) (zs_at rfl) (zf_ok rfl) (bt_S hb) rfl ?_
  refine zv_run 0 (pc' := 4) (lo' := [some (.ref 40), some (.ref 37), some (.ref ww), some (.int g), none, none]) (st' := [.int (I ww 1)]) (I' := I) (L' := L) (R' := zw_RC h sp la) rfl ?_
  refine zv_run 3 (pc' := 9) (lo' := [some (.ref 40), some (.ref 37), some (.ref ww), some (.int g), some (.int (I ww 1)), none]) (st' := [.int 1, .int (I ww 1)]) (I' := I) (L' := L) (R' := zw_RC h sp la) rfl ?_
  refine zv_icmp_ge (tgt := 14) (zs_at rfl) (by decide) (fun c9 => ?_) (fun c9 => ?_)
  · have _c := c9
    refine zv_run 6 (pc' := 23) (lo' := [some (.ref 40), some (.ref 37), some (.ref ww), some (.int g), some (.int (I ww 1)), none]) (st' := [.int (I ww 1), .int g, .ref 40]) (I' := (zx_uI I 40 3 0)) (L' := L) (R' := zw_RC h sp la) rfl ?_
    refine zv_icmp_gt (tgt := 30) (zs_at rfl) (by decide) (fun c23 => ?_) (fun c23 => ?_)
    · have _c := c23
      refine zv_run 2 (pc' := 34) (lo' := [some (.ref 40), some (.ref 37), some (.ref ww), some (.int g), some (.int (I ww 1)), none]) (st' := []) (I' := (zx_uI (zx_uI I 40 3 0) 40 2 0)) (L' := L) (R' := zw_RC h sp la) rfl ?_
      have e : fc_k I ww g = 0 := by unfold fc_k; rw [if_pos c23]
      rw [e] at K
      exact K
    · have _c := c23
      refine zv_run 2 (pc' := 31) (lo' := [some (.ref 40), some (.ref 37), some (.ref ww), some (.int g), some (.int (I ww 1)), none]) (st' := [.int g, .ref 40]) (I' := (zx_uI I 40 3 0)) (L' := L) (R' := zw_RC h sp la) rfl ?_
      refine zv_run 1 (pc' := 34) (lo' := [some (.ref 40), some (.ref 37), some (.ref ww), some (.int g), some (.int (I ww 1)), none]) (st' := []) (I' := (zx_uI (zx_uI I 40 3 0) 40 2 g)) (L' := L) (R' := zw_RC h sp la) rfl ?_
      have e : fc_k I ww g = g := by unfold fc_k; rw [if_neg c23]
      rw [e] at K
      exact K
  · exact absurd (Int32.le_iff_toInt_le.mpr (show (1 : Int32).toInt ≤ (I ww 1).toInt from hv)) c9
def fb_reset (I : zx_I) (w : Nat) : zx_I := zx_uI (zx_uI (zx_uI (zx_uI I w 10 (-4)) w 11 (-4)) w 12 (-4)) w 13 (-4)
def fb_like (I : zx_I) (w v : Nat) : zx_I := zx_uI (zx_uI (zx_uI (zx_uI (zx_uI (zx_uI (zx_uI (zx_uI (zx_uI I w 1 (I v 1)) w 2 (I v 2)) w 3 (I v 3)) w 4 (I v 4)) w 5 (I v 5)) w 6 (I v 6)) w 7 (I v 7)) w 8 (I v 8)) w 9 (I v 9)
def fb_told (I : zx_I) (w : Nat) (what : Int32) : Int32 := if what.toInt = 0 then I w 1 else if what.toInt = 1 then I w 2 else if what.toInt = 2 then I w 3 else if what.toInt = 3 then I w 4 else if what.toInt = 4 then I w 5 else if what.toInt = 5 then I w 6 else if what.toInt = 6 then I w 7 else I w 8
theorem ct_X2_isNotInYet {d : Nat} {I : zx_I} {L : zx_L} {h sp : Nat} {la : Option Nat} {ww : Nat} (hb : bt ww) : zx_M0 mm_X2_isNotInYet (d + 0) 0 0 [.ref ww] zw_SC I L (zw_RC h sp la) (zw_ret (none) zw_SC (fb_reset I ww) L (zw_RC h sp la)) := by
  refine zv_entry gd_X2_isNotInYet (Nat.le_of_ble_eq_true rfl) ?_
  refine zv_run 2 (pc' := 3) (lo' := [some (.ref ww)]) (st' := [.int (-4), .ref ww]) (I' := I) (L' := L) (R' := zw_RC h sp la) rfl ?_
  refine zs_putI (ci := 2) (k := 10) (zs_at rfl) (zf_ok rfl) (bt_S hb) (Or.inl rfl) rfl (fun q => absurd q (by decide)) ?_
  refine zv_run 2 (pc' := 9) (lo' := [some (.ref ww)]) (st' := [.int (-4), .ref ww]) (I' := (zx_uI I ww 10 (-4))) (L' := L) (R' := zw_RC h sp la) rfl ?_
  refine zs_putI (ci := 2) (k := 11) (zs_at rfl) (zf_ok rfl) (bt_S hb) (Or.inl rfl) rfl (fun q => absurd q (by decide)) ?_
  refine zv_run 2 (pc' := 15) (lo' := [some (.ref ww)]) (st' := [.int (-4), .ref ww]) (I' := (zx_uI (zx_uI I ww 10 (-4)) ww 11 (-4))) (L' := L) (R' := zw_RC h sp la) rfl ?_
  refine zs_putI (ci := 2) (k := 12) (zs_at rfl) (zf_ok rfl) (bt_S hb) (Or.inl rfl) rfl (fun q => absurd q (by decide)) ?_
  refine zv_run 2 (pc' := 21) (lo' := [some (.ref ww)]) (st' := [.int (-4), .ref ww]) (I' := (zx_uI (zx_uI (zx_uI I ww 10 (-4)) ww 11 (-4)) ww 12 (-4))) (L' := L) (R' := zw_RC h sp la) rfl ?_
  refine zs_putI (ci := 2) (k := 13) (zs_at rfl) (zf_ok rfl) (bt_S hb) (Or.inl rfl) rfl (fun q => absurd q (by decide)) ?_
  exact zv_vret (zs_at rfl) rfl ⟨Nat.le_refl _, Nat.le_refl _⟩ (zw_to rfl rfl rfl rfl)
theorem ct_X2_becomeLike {d : Nat} {I : zx_I} {L : zx_L} {h sp : Nat} {la : Option Nat} {ww wl : Nat} (hb : bt ww) (hl : bt wl) (hne : wl ≠ ww) : zx_M0 mm_X2_becomeLike (d + 0) 0 0 [.ref ww, .ref wl] zw_SC I L (zw_RC h sp la) (zw_ret (none) zw_SC (fb_like I ww wl) L (zw_RC h sp la)) := by
  refine zv_entry gd_X2_becomeLike (Nat.le_of_ble_eq_true rfl) ?_
  refine zv_run 2 (pc' := 2) (lo' := [some (.ref ww), some (.ref wl)]) (st' := [.ref wl, .ref ww]) (I' := I) (L' := L) (R' := zw_RC h sp la) rfl ?_
  refine zv_get (ci := 2) (k := 1) (t := 0) (zs_at rfl) (zf_ok rfl) (bt_S hl) rfl ?_
  refine zv_run 0 (pc' := 5) (lo' := [some (.ref ww), some (.ref wl)]) (st' := [.int (I wl 1), .ref ww]) (I' := I) (L' := L) (R' := zw_RC h sp la) rfl ?_
  refine zs_putI (ci := 2) (k := 1) (zs_at rfl) (zf_ok rfl) (bt_S hb) (Or.inl rfl) rfl (fun q => absurd q (by decide)) ?_
  refine zv_run 2 (pc' := 10) (lo' := [some (.ref ww), some (.ref wl)]) (st' := [.ref wl, .ref ww]) (I' := (zx_uI I ww 1 (I wl 1))) (L' := L) (R' := zw_RC h sp la) rfl ?_
  refine zv_get (ci := 2) (k := 2) (t := 0) (zs_at rfl) (zf_ok rfl) (bt_S hl) rfl ?_
  refine zv_run 0 (pc' := 13) (lo' := [some (.ref ww), some (.ref wl)]) (st' := [.int (I wl 2), .ref ww]) (I' := (zx_uI I ww 1 (I wl 1))) (L' := L) (R' := zw_RC h sp la) (by rw [show (zx_uI I ww 1 (I wl 1)) wl 2 = I wl 2 from by simp [zx_uI, zr, zmap, hne]]; rfl) ?_
  refine zs_putI (ci := 2) (k := 2) (zs_at rfl) (zf_ok rfl) (bt_S hb) (Or.inl rfl) rfl (fun q => absurd q (by decide)) ?_
  refine zv_run 2 (pc' := 18) (lo' := [some (.ref ww), some (.ref wl)]) (st' := [.ref wl, .ref ww]) (I' := (zx_uI (zx_uI I ww 1 (I wl 1)) ww 2 (I wl 2))) (L' := L) (R' := zw_RC h sp la) rfl ?_
  refine zv_get (ci := 2) (k := 3) (t := 0) (zs_at rfl) (zf_ok rfl) (bt_S hl) rfl ?_
  refine zv_run 0 (pc' := 21) (lo' := [some (.ref ww), some (.ref wl)]) (st' := [.int (I wl 3), .ref ww]) (I' := (zx_uI (zx_uI I ww 1 (I wl 1)) ww 2 (I wl 2))) (L' := L) (R' := zw_RC h sp la) (by rw [show (zx_uI (zx_uI I ww 1 (I wl 1)) ww 2 (I wl 2)) wl 3 = I wl 3 from by simp [zx_uI, zr, zmap, hne]]; rfl) ?_
  refine zs_putI (ci := 2) (k := 3) (zs_at rfl) (zf_ok rfl) (bt_S hb) (Or.inl rfl) rfl (fun q => absurd q (by decide)) ?_
  refine zv_run 2 (pc' := 26) (lo' := [some (.ref ww), some (.ref wl)]) (st' := [.ref wl, .ref ww]) (I' := (zx_uI (zx_uI (zx_uI I ww 1 (I wl 1)) ww 2 (I wl 2)) ww 3 (I wl 3))) (L' := L) (R' := zw_RC h sp la) rfl ?_
  refine zv_get (ci := 2) (k := 4) (t := 0) (zs_at rfl) (zf_ok rfl) (bt_S hl) rfl ?_
  refine zv_run 0 (pc' := 29) (lo' := [some (.ref ww), some (.ref wl)]) (st' := [.int (I wl 4), .ref ww]) (I' := (zx_uI (zx_uI (zx_uI I ww 1 (I wl 1)) ww 2 (I wl 2)) ww 3 (I wl 3))) (L' := L) (R' := zw_RC h sp la) (by rw [show (zx_uI (zx_uI (zx_uI I ww 1 (I wl 1)) ww 2 (I wl 2)) ww 3 (I wl 3)) wl 4 = I wl 4 from by simp [zx_uI, zr, zmap, hne]]; rfl) ?_
  refine zs_putI (ci := 2) (k := 4) (zs_at rfl) (zf_ok rfl) (bt_S hb) (Or.inl rfl) rfl (fun q => absurd q (by decide)) ?_
  refine zv_run 2 (pc' := 34) (lo' := [some (.ref ww), some (.ref wl)]) (st' := [.ref wl, .ref ww]) (I' := (zx_uI (zx_uI (zx_uI (zx_uI I ww 1 (I wl 1)) ww 2 (I wl 2)) ww 3 (I wl 3)) ww 4 (I wl 4))) (L' := L) (R' := zw_RC h sp la) rfl ?_
  refine zv_get (ci := 2) (k := 5) (t := 0) (zs_at rfl) (zf_ok rfl) (bt_S hl) rfl ?_
  refine zv_run 0 (pc' := 37) (lo' := [some (.ref ww), some (.ref wl)]) (st' := [.int (I wl 5), .ref ww]) (I' := (zx_uI (zx_uI (zx_uI (zx_uI I ww 1 (I wl 1)) ww 2 (I wl 2)) ww 3 (I wl 3)) ww 4 (I wl 4))) (L' := L) (R' := zw_RC h sp la) (by rw [show (zx_uI (zx_uI (zx_uI (zx_uI I ww 1 (I wl 1)) ww 2 (I wl 2)) ww 3 (I wl 3)) ww 4 (I wl 4)) wl 5 = I wl 5 from by simp [zx_uI, zr, zmap, hne]]; rfl) ?_
  refine zs_putI (ci := 2) (k := 5) (zs_at rfl) (zf_ok rfl) (bt_S hb) (Or.inl rfl) rfl (fun q => absurd q (by decide)) ?_
  refine zv_run 2 (pc' := 42) (lo' := [some (.ref ww), some (.ref wl)]) (st' := [.ref wl, .ref ww]) (I' := (zx_uI (zx_uI (zx_uI (zx_uI (zx_uI I ww 1 (I wl 1)) ww 2 (I wl 2)) ww 3 (I wl 3)) ww 4 (I wl 4)) ww 5 (I wl 5))) (L' := L) (R' := zw_RC h sp la) rfl ?_
  refine zv_get (ci := 2) (k := 6) (t := 0) (zs_at rfl) (zf_ok rfl) (bt_S hl) rfl ?_
  refine zv_run 0 (pc' := 45) (lo' := [some (.ref ww), some (.ref wl)]) (st' := [.int (I wl 6), .ref ww]) (I' := (zx_uI (zx_uI (zx_uI (zx_uI (zx_uI I ww 1 (I wl 1)) ww 2 (I wl 2)) ww 3 (I wl 3)) ww 4 (I wl 4)) ww 5 (I wl 5))) (L' := L) (R' := zw_RC h sp la) (by rw [show (zx_uI (zx_uI (zx_uI (zx_uI (zx_uI I ww 1 (I wl 1)) ww 2 (I wl 2)) ww 3 (I wl 3)) ww 4 (I wl 4)) ww 5 (I wl 5)) wl 6 = I wl 6 from by simp [zx_uI, zr, zmap, hne]]; rfl) ?_
  refine zs_putI (ci := 2) (k := 6) (zs_at rfl) (zf_ok rfl) (bt_S hb) (Or.inl rfl) rfl (fun q => absurd q (by decide)) ?_
  refine zv_run 2 (pc' := 50) (lo' := [some (.ref ww), some (.ref wl)]) (st' := [.ref wl, .ref ww]) (I' := (zx_uI (zx_uI (zx_uI (zx_uI (zx_uI (zx_uI I ww 1 (I wl 1)) ww 2 (I wl 2)) ww 3 (I wl 3)) ww 4 (I wl 4)) ww 5 (I wl 5)) ww 6 (I wl 6))) (L' := L) (R' := zw_RC h sp la) rfl ?_
  refine zv_get (ci := 2) (k := 7) (t := 0) (zs_at rfl) (zf_ok rfl) (bt_S hl) rfl ?_
  refine zv_run 0 (pc' := 53) (lo' := [some (.ref ww), some (.ref wl)]) (st' := [.int (I wl 7), .ref ww]) (I' := (zx_uI (zx_uI (zx_uI (zx_uI (zx_uI (zx_uI I ww 1 (I wl 1)) ww 2 (I wl 2)) ww 3 (I wl 3)) ww 4 (I wl 4)) ww 5 (I wl 5)) ww 6 (I wl 6))) (L' := L) (R' := zw_RC h sp la) (by rw [show (zx_uI (zx_uI (zx_uI (zx_uI (zx_uI (zx_uI I ww 1 (I wl 1)) ww 2 (I wl 2)) ww 3 (I wl 3)) ww 4 (I wl 4)) ww 5 (I wl 5)) ww 6 (I wl 6)) wl 7 = I wl 7 from by simp [zx_uI, zr, zmap, hne]]; rfl) ?_
  refine zs_putI (ci := 2) (k := 7) (zs_at rfl) (zf_ok rfl) (bt_S hb) (Or.inl rfl) rfl (fun q => absurd q (by decide)) ?_
  refine zv_run 2 (pc' := 58) (lo' := [some (.ref ww), some (.ref wl)]) (st' := [.ref wl, .ref ww]) (I' := (zx_uI (zx_uI (zx_uI (zx_uI (zx_uI (zx_uI (zx_uI I ww 1 (I wl 1)) ww 2 (I wl 2)) ww 3 (I wl 3)) ww 4 (I wl 4)) ww 5 (I wl 5)) ww 6 (I wl 6)) ww 7 (I wl 7))) (L' := L) (R' := zw_RC h sp la) rfl ?_
  refine zv_get (ci := 2) (k := 8) (t := 0) (zs_at rfl) (zf_ok rfl) (bt_S hl) rfl ?_
  refine zv_run 0 (pc' := 61) (lo' := [some (.ref ww), some (.ref wl)]) (st' := [.int (I wl 8), .ref ww]) (I' := (zx_uI (zx_uI (zx_uI (zx_uI (zx_uI (zx_uI (zx_uI I ww 1 (I wl 1)) ww 2 (I wl 2)) ww 3 (I wl 3)) ww 4 (I wl 4)) ww 5 (I wl 5)) ww 6 (I wl 6)) ww 7 (I wl 7))) (L' := L) (R' := zw_RC h sp la) (by rw [show (zx_uI (zx_uI (zx_uI (zx_uI (zx_uI (zx_uI (zx_uI I ww 1 (I wl 1)) ww 2 (I wl 2)) ww 3 (I wl 3)) ww 4 (I wl 4)) ww 5 (I wl 5)) ww 6 (I wl 6)) ww 7 (I wl 7)) wl 8 = I wl 8 from by simp [zx_uI, zr, zmap, hne]]; rfl) ?_
  refine zs_putI (ci := 2) (k := 8) (zs_at rfl) (zf_ok rfl) (bt_S hb) (Or.inl rfl) rfl (fun q => absurd q (by decide)) ?_
  refine zv_run 2 (pc' := 66) (lo' := [some (.ref ww), some (.ref wl)]) (st' := [.ref wl, .ref ww]) (I' := (zx_uI (zx_uI (zx_uI (zx_uI (zx_uI (zx_uI (zx_uI (zx_uI I ww 1 (I wl 1)) ww 2 (I wl 2)) ww 3 (I wl 3)) ww 4 (I wl 4)) ww 5 (I wl 5)) ww 6 (I wl 6)) ww 7 (I wl 7)) ww 8 (I wl 8))) (L' := L) (R' := zw_RC h sp la) rfl ?_
  refine zv_get (ci := 2) (k := 9) (t := 0) (zs_at rfl) (zf_ok rfl) (bt_S hl) rfl ?_
  refine zv_run 0 (pc' := 69) (lo' := [some (.ref ww), some (.ref wl)]) (st' := [.int (I wl 9), .ref ww]) (I' := (zx_uI (zx_uI (zx_uI (zx_uI (zx_uI (zx_uI (zx_uI (zx_uI I ww 1 (I wl 1)) ww 2 (I wl 2)) ww 3 (I wl 3)) ww 4 (I wl 4)) ww 5 (I wl 5)) ww 6 (I wl 6)) ww 7 (I wl 7)) ww 8 (I wl 8))) (L' := L) (R' := zw_RC h sp la) (by rw [show (zx_uI (zx_uI (zx_uI (zx_uI (zx_uI (zx_uI (zx_uI (zx_uI I ww 1 (I wl 1)) ww 2 (I wl 2)) ww 3 (I wl 3)) ww 4 (I wl 4)) ww 5 (I wl 5)) ww 6 (I wl 6)) ww 7 (I wl 7)) ww 8 (I wl 8)) wl 9 = I wl 9 from by simp [zx_uI, zr, zmap, hne]]; rfl) ?_
  refine zs_putI (ci := 2) (k := 9) (zs_at rfl) (zf_ok rfl) (bt_S hb) (Or.inl rfl) rfl (fun q => absurd q (by decide)) ?_
  exact zv_vret (zs_at rfl) rfl ⟨Nat.le_refl _, Nat.le_refl _⟩ (zw_to rfl rfl rfl rfl)
theorem ct_X2_toldOf {d : Nat} {I : zx_I} {L : zx_L} {h sp : Nat} {la : Option Nat} {ww : Nat} {what : Int32} (hb : bt ww) : zx_M0 mm_X2_toldOf (d + 0) 0 0 [.ref ww, .int what] zw_SC I L (zw_RC h sp la) (zw_ret (some (.int (fb_told I ww what))) zw_SC I L (zw_RC h sp la)) := by
  refine zv_entry gd_X2_toldOf (Nat.le_of_ble_eq_true rfl) ?_
  refine zv_run 1 (pc' := 1) (lo' := [some (.ref ww), some (.int what)]) (st' := [.int what]) (I' := I) (L' := L) (R' := zw_RC h sp la) rfl ?_
  by_cases t1 : what.toInt < 0 ∨ 6 < what.toInt
  · refine zv_tableOut (tgt := 79) (zs_at rfl) t1 rfl ?_
    refine zv_run 1 (pc' := 80) (lo' := [some (.ref ww), some (.int what)]) (st' := [.ref ww]) (I' := I) (L' := L) (R' := zw_RC h sp la) rfl ?_
    refine zv_get (ci := 2) (k := 8) (t := 0) (zs_at rfl) (zf_ok rfl) (bt_S hb) rfl ?_
    refine zv_run 0 (pc' := 83) (lo' := [some (.ref ww), some (.int what)]) (st' := [.int (I ww 8)]) (I' := I) (L' := L) (R' := zw_RC h sp la) rfl ?_
    exact zv_iret (zs_at rfl) rfl ⟨Nat.le_refl _, Nat.le_refl _⟩ (zw_to (by unfold fb_told; rw [if_neg (by omega), if_neg (by omega), if_neg (by omega), if_neg (by omega), if_neg (by omega), if_neg (by omega), if_neg (by omega)]) rfl rfl rfl)
  · rcases (show what.toInt = 0 ∨ what.toInt = 1 ∨ what.toInt = 2 ∨ what.toInt = 3 ∨ what.toInt = 4 ∨ what.toInt = 5 ∨ what.toInt = 6 from by omega) with t1e | t1e | t1e | t1e | t1e | t1e | t1e
    · refine zv_tableIn (off := 43) (tgt := 44) (zs_at rfl) (by omega) (by omega) (by rw [t1e]; rfl) rfl ?_
      refine zv_run 1 (pc' := 45) (lo' := [some (.ref ww), some (.int what)]) (st' := [.ref ww]) (I' := I) (L' := L) (R' := zw_RC h sp la) rfl ?_
      refine zv_get (ci := 2) (k := 1) (t := 0) (zs_at rfl) (zf_ok rfl) (bt_S hb) rfl ?_
      refine zv_run 0 (pc' := 48) (lo' := [some (.ref ww), some (.int what)]) (st' := [.int (I ww 1)]) (I' := I) (L' := L) (R' := zw_RC h sp la) rfl ?_
      exact zv_iret (zs_at rfl) rfl ⟨Nat.le_refl _, Nat.le_refl _⟩ (zw_to (by unfold fb_told; simp [t1e]) rfl rfl rfl)
    · refine zv_tableIn (off := 48) (tgt := 49) (zs_at rfl) (by omega) (by omega) (by rw [t1e]; rfl) rfl ?_
      refine zv_run 1 (pc' := 50) (lo' := [some (.ref ww), some (.int what)]) (st' := [.ref ww]) (I' := I) (L' := L) (R' := zw_RC h sp la) rfl ?_
      refine zv_get (ci := 2) (k := 2) (t := 0) (zs_at rfl) (zf_ok rfl) (bt_S hb) rfl ?_
      refine zv_run 0 (pc' := 53) (lo' := [some (.ref ww), some (.int what)]) (st' := [.int (I ww 2)]) (I' := I) (L' := L) (R' := zw_RC h sp la) rfl ?_
      exact zv_iret (zs_at rfl) rfl ⟨Nat.le_refl _, Nat.le_refl _⟩ (zw_to (by unfold fb_told; simp [t1e]) rfl rfl rfl)
    · refine zv_tableIn (off := 53) (tgt := 54) (zs_at rfl) (by omega) (by omega) (by rw [t1e]; rfl) rfl ?_
      refine zv_run 1 (pc' := 55) (lo' := [some (.ref ww), some (.int what)]) (st' := [.ref ww]) (I' := I) (L' := L) (R' := zw_RC h sp la) rfl ?_
      refine zv_get (ci := 2) (k := 3) (t := 0) (zs_at rfl) (zf_ok rfl) (bt_S hb) rfl ?_
      refine zv_run 0 (pc' := 58) (lo' := [some (.ref ww), some (.int what)]) (st' := [.int (I ww 3)]) (I' := I) (L' := L) (R' := zw_RC h sp la) rfl ?_
      exact zv_iret (zs_at rfl) rfl ⟨Nat.le_refl _, Nat.le_refl _⟩ (zw_to (by unfold fb_told; simp [t1e]) rfl rfl rfl)
    · refine zv_tableIn (off := 58) (tgt := 59) (zs_at rfl) (by omega) (by omega) (by rw [t1e]; rfl) rfl ?_
      refine zv_run 1 (pc' := 60) (lo' := [some (.ref ww), some (.int what)]) (st' := [.ref ww]) (I' := I) (L' := L) (R' := zw_RC h sp la) rfl ?_
      refine zv_get (ci := 2) (k := 4) (t := 0) (zs_at rfl) (zf_ok rfl) (bt_S hb) rfl ?_
      refine zv_run 0 (pc' := 63) (lo' := [some (.ref ww), some (.int what)]) (st' := [.int (I ww 4)]) (I' := I) (L' := L) (R' := zw_RC h sp la) rfl ?_
      exact zv_iret (zs_at rfl) rfl ⟨Nat.le_refl _, Nat.le_refl _⟩ (zw_to (by unfold fb_told; simp [t1e]) rfl rfl rfl)
    · refine zv_tableIn (off := 63) (tgt := 64) (zs_at rfl) (by omega) (by omega) (by rw [t1e]; rfl) rfl ?_
      refine zv_run 1 (pc' := 65) (lo' := [some (.ref ww), some (.int what)]) (st' := [.ref ww]) (I' := I) (L' := L) (R' := zw_RC h sp la) rfl ?_
      refine zv_get (ci := 2) (k := 5) (t := 0) (zs_at rfl) (zf_ok rfl) (bt_S hb) rfl ?_
      refine zv_run 0 (pc' := 68) (lo' := [some (.ref ww), some (.int what)]) (st' := [.int (I ww 5)]) (I' := I) (L' := L) (R' := zw_RC h sp la) rfl ?_
      exact zv_iret (zs_at rfl) rfl ⟨Nat.le_refl _, Nat.le_refl _⟩ (zw_to (by unfold fb_told; simp [t1e]) rfl rfl rfl)
    · refine zv_tableIn (off := 68) (tgt := 69) (zs_at rfl) (by omega) (by omega) (by rw [t1e]; rfl) rfl ?_
      refine zv_run 1 (pc' := 70) (lo' := [some (.ref ww), some (.int what)]) (st' := [.ref ww]) (I' := I) (L' := L) (R' := zw_RC h sp la) rfl ?_
      refine zv_get (ci := 2) (k := 6) (t := 0) (zs_at rfl) (zf_ok rfl) (bt_S hb) rfl ?_
      refine zv_run 0 (pc' := 73) (lo' := [some (.ref ww), some (.int what)]) (st' := [.int (I ww 6)]) (I' := I) (L' := L) (R' := zw_RC h sp la) rfl ?_
      exact zv_iret (zs_at rfl) rfl ⟨Nat.le_refl _, Nat.le_refl _⟩ (zw_to (by unfold fb_told; simp [t1e]) rfl rfl rfl)
    · refine zv_tableIn (off := 73) (tgt := 74) (zs_at rfl) (by omega) (by omega) (by rw [t1e]; rfl) rfl ?_
      refine zv_run 1 (pc' := 75) (lo' := [some (.ref ww), some (.int what)]) (st' := [.ref ww]) (I' := I) (L' := L) (R' := zw_RC h sp la) rfl ?_
      refine zv_get (ci := 2) (k := 7) (t := 0) (zs_at rfl) (zf_ok rfl) (bt_S hb) rfl ?_
      refine zv_run 0 (pc' := 78) (lo' := [some (.ref ww), some (.int what)]) (st' := [.int (I ww 7)]) (I' := I) (L' := L) (R' := zw_RC h sp la) rfl ?_
      exact zv_iret (zs_at rfl) rfl ⟨Nat.le_refl _, Nat.le_refl _⟩ (zw_to (by unfold fb_told; simp [t1e]) rfl rfl rfl)
def fa_become (I : zx_I) (rule f : Int32) : zx_I := zx_uI (zx_uI (zx_uI (zcp (zx_uI (zx_uI (zx_uI I 34 0 rule) 34 1 (I 24 1)) 34 2 f) 25 35 6) 34 5 0) 34 6 0) 34 7 0
def fa_ch (I : zx_I) (a b : Int32) : zx_I := if a < 0 then I else if a ≥ 6 then I else if b < 0 then I else if b < 6 then zx_uI (zx_uI I 35 a.toNatClampNeg (I 35 b.toNatClampNeg)) 35 b.toNatClampNeg (I 35 a.toNatClampNeg) else I
def fa_place (I : zx_I) (k : Int32) : Int32 := if k < 0 then -4 else if k < 6 then I 35 k.toNatClampNeg else -4
def fa_plans (L : zx_L) (t : Int32) : Int32 := if lg_cmp (L 34 3 >>> (t.toInt64 &&& 63) &&& 1) 0 = 0 then 0 else 1
def fa_taps (I : zx_I) (t : Int32) : Int32 := if t < I 34 5 then 0 else if t ≥ I 34 5 + I 34 6 then 0 else 1
def fa_pref (I : zx_I) (w v : Nat) : Int32 := if I 34 0 ≠ 3 then (if I w 9 ≥ I v 9 then 0 else 1) else (if I w 1 ≥ I v 1 then 0 else 1)
theorem ct_X0_become {d : Nat} {I : zx_I} {L : zx_L} {h sp : Nat} {la : Option Nat} {rule f : Int32}  : zx_M0 mm_X0_become (d + 1) 0 0 [.ref 34, .int rule, .ref 24, .int f] zw_SC I L (zw_RC h sp la) (zw_ret (none) zw_SC (fa_become I rule f) (zx_uL L 34 3 (L 24 2)) (zw_RC h sp la)) := by
  refine zv_entry gd_X0_become (Nat.le_of_ble_eq_true rfl) ?_
  refine zv_run 23 (pc' := 41) (lo' := [some (.ref 34), some (.int rule), some (.ref 24), some (.int f)]) (st' := [.int 6, .int 0, .ref 35, .int 0, .ref 25]) (I' := (zx_uI (zx_uI (zx_uI I 34 0 rule) 34 1 (I 24 1)) 34 2 f)) (L' := (zx_uL L 34 3 (L 24 2))) (R' := zw_RC h sp la) rfl ?_
  refine zv_copy (a0 := 25) (a := 35) rfl zm_0_34 rfl rfl (by decide) (by decide) (by decide) (Nat.le_of_ble_eq_true rfl) ?_
  refine zv_run 0 (pc' := 44) (lo' := [some (.ref 34), some (.int rule), some (.ref 24), some (.int f)]) (st' := []) (I' := (zcp (zx_uI (zx_uI (zx_uI I 34 0 rule) 34 1 (I 24 1)) 34 2 f) 25 35 6)) (L' := (zx_uL L 34 3 (L 24 2))) (R' := zw_RC h sp la) rfl ?_
  refine zv_run 9 (pc' := 59) (lo' := [some (.ref 34), some (.int rule), some (.ref 24), some (.int f)]) (st' := []) (I' := (zx_uI (zx_uI (zx_uI (zcp (zx_uI (zx_uI (zx_uI I 34 0 rule) 34 1 (I 24 1)) 34 2 f) 25 35 6) 34 5 0) 34 6 0) 34 7 0)) (L' := (zx_uL L 34 3 (L 24 2))) (R' := zw_RC h sp la) rfl ?_
  exact zv_vret (zs_at rfl) rfl ⟨Nat.le_refl _, Nat.le_refl _⟩ (zw_to rfl rfl rfl rfl)
theorem ct_X0_copyRowTo_41 {d : Nat} {I : zx_I} {L : zx_L} {h sp : Nat} {la : Option Nat}   : zx_M0 mm_X0_copyRowTo (d + 1) 0 0 [.ref 34, .ref 41] zw_SC I L (zw_RC h sp la) (zw_ret (none) zw_SC (zcp I 35 41 6) L (zw_RC h sp la)) := by
  refine zv_entry gd_X0_copyRowTo (Nat.le_of_ble_eq_true rfl) ?_
  refine zv_run 10 (pc' := 14) (lo' := [some (.ref 34), some (.ref 41)]) (st' := [.int 6, .int 6, .int 0, .ref 41, .int 0, .ref 35]) (I' := I) (L' := L) (R' := zw_RC h sp la) rfl ?_
  refine zv_min rfl zm_0_49 (Nat.le_of_ble_eq_true rfl) ⟨Nat.le_refl _, Nat.le_refl _⟩ ?_
  refine zv_run 0 (pc' := 17) (lo' := [some (.ref 34), some (.ref 41)]) (st' := [.int 6, .int 0, .ref 41, .int 0, .ref 35]) (I' := I) (L' := L) (R' := zw_RC h sp la) rfl ?_
  refine zv_copy (a0 := 35) (a := 41) rfl zm_0_34 rfl rfl (by decide) (by decide) (by decide) (Nat.le_of_ble_eq_true rfl) ?_
  refine zv_run 0 (pc' := 20) (lo' := [some (.ref 34), some (.ref 41)]) (st' := []) (I' := (zcp I 35 41 6)) (L' := L) (R' := zw_RC h sp la) rfl ?_
  exact zv_vret (zs_at rfl) rfl ⟨Nat.le_refl _, Nat.le_refl _⟩ (zw_to rfl rfl rfl rfl)
theorem ct_X0_copyRowTo_25 {d : Nat} {I : zx_I} {L : zx_L} {h sp : Nat} {la : Option Nat}   : zx_M0 mm_X0_copyRowTo (d + 1) 0 0 [.ref 34, .ref 25] zw_SC I L (zw_RC h sp la) (zw_ret (none) zw_SC (zcp I 35 25 6) L (zw_RC h sp la)) := by
  refine zv_entry gd_X0_copyRowTo (Nat.le_of_ble_eq_true rfl) ?_
  refine zv_run 10 (pc' := 14) (lo' := [some (.ref 34), some (.ref 25)]) (st' := [.int 6, .int 6, .int 0, .ref 25, .int 0, .ref 35]) (I' := I) (L' := L) (R' := zw_RC h sp la) rfl ?_
  refine zv_min rfl zm_0_49 (Nat.le_of_ble_eq_true rfl) ⟨Nat.le_refl _, Nat.le_refl _⟩ ?_
  refine zv_run 0 (pc' := 17) (lo' := [some (.ref 34), some (.ref 25)]) (st' := [.int 6, .int 0, .ref 25, .int 0, .ref 35]) (I' := I) (L' := L) (R' := zw_RC h sp la) rfl ?_
  refine zv_copy (a0 := 35) (a := 25) rfl zm_0_34 rfl rfl (by decide) (by decide) (by decide) (Nat.le_of_ble_eq_true rfl) ?_
  refine zv_run 0 (pc' := 20) (lo' := [some (.ref 34), some (.ref 25)]) (st' := []) (I' := (zcp I 35 25 6)) (L' := L) (R' := zw_RC h sp la) rfl ?_
  exact zv_vret (zs_at rfl) rfl ⟨Nat.le_refl _, Nat.le_refl _⟩ (zw_to rfl rfl rfl rfl)
theorem ct_X0_changePlaces {d : Nat} {I : zx_I} {L : zx_L} {h sp : Nat} {la : Option Nat} {a b : Int32}  : zx_M0 mm_X0_changePlaces (d + 0) 0 0 [.ref 34, .int a, .int b] zw_SC I L (zw_RC h sp la) (zw_ret (none) zw_SC (fa_ch I a b) L (zw_RC h sp la)) := by
  refine zv_entry gd_X0_changePlaces (Nat.le_of_ble_eq_true rfl) ?_
  refine zv_run 1 (pc' := 1) (lo' := [some (.ref 34), some (.int a), some (.int b), none]) (st' := [.int a]) (I' := I) (L' := L) (R' := zw_RC h sp la) rfl ?_
  refine zv_if_lt (tgt := 26) (zs_at rfl) (by decide) (fun c1 => ?_) (fun c1 => ?_)
  · have _c := c1
    exact zv_vret (zs_at rfl) rfl ⟨Nat.le_refl _, Nat.le_refl _⟩ (zw_to rfl (by simp [fa_ch, Int32.not_le, Int32.not_lt, *]) rfl rfl)
  · have _c := c1
    refine zv_run 4 (pc' := 10) (lo' := [some (.ref 34), some (.int a), some (.int b), none]) (st' := [.int 6, .int a]) (I' := I) (L' := L) (R' := zw_RC h sp la) rfl ?_
    refine zv_icmp_ge (tgt := 26) (zs_at rfl) (by decide) (fun c10 => ?_) (fun c10 => ?_)
    · have _c := c10
      exact zv_vret (zs_at rfl) rfl ⟨Nat.le_refl _, Nat.le_refl _⟩ (zw_to rfl (by simp [fa_ch, Int32.not_le, Int32.not_lt, *]) rfl rfl)
    · have _c := c10
      refine zv_run 1 (pc' := 14) (lo' := [some (.ref 34), some (.int a), some (.int b), none]) (st' := [.int b]) (I' := I) (L' := L) (R' := zw_RC h sp la) rfl ?_
      refine zv_if_lt (tgt := 26) (zs_at rfl) (by decide) (fun c14 => ?_) (fun c14 => ?_)
      · have _c := c14
        exact zv_vret (zs_at rfl) rfl ⟨Nat.le_refl _, Nat.le_refl _⟩ (zw_to rfl (by simp [fa_ch, Int32.not_le, Int32.not_lt, *]) rfl rfl)
      · have _c := c14
        refine zv_run 4 (pc' := 23) (lo' := [some (.ref 34), some (.int a), some (.int b), none]) (st' := [.int 6, .int b]) (I' := I) (L' := L) (R' := zw_RC h sp la) rfl ?_
        refine zv_icmp_lt (tgt := 27) (zs_at rfl) (by decide) (fun c23 => ?_) (fun c23 => ?_)
        · have _c := c23
          refine zv_run 3 (pc' := 32) (lo' := [some (.ref 34), some (.int a), some (.int b), none]) (st' := [.int a, .ref 35]) (I' := I) (L' := L) (R' := zw_RC h sp la) rfl ?_
          refine zv_iald (zs_at rfl) rfl (zin c1 (zge c10) (by decide)) ?_
          refine zv_run 7 (pc' := 44) (lo' := [some (.ref 34), some (.int a), some (.int b), some (.int (I 35 a.toNatClampNeg))]) (st' := [.int b, .ref 35, .int a, .ref 35]) (I' := I) (L' := L) (R' := zw_RC h sp la) rfl ?_
          refine zv_iald (zs_at rfl) rfl (zin c14 c23 (by decide)) ?_
          refine zv_iast (zs_at rfl) rfl (zin c1 (zge c10) (by decide)) ?_
          refine zv_run 4 (pc' := 52) (lo' := [some (.ref 34), some (.int a), some (.int b), some (.int (I 35 a.toNatClampNeg))]) (st' := [.int (I 35 a.toNatClampNeg), .int b, .ref 35]) (I' := (zx_uI I 35 a.toNatClampNeg (I 35 b.toNatClampNeg))) (L' := L) (R' := zw_RC h sp la) rfl ?_
          refine zv_iast (zs_at rfl) rfl (zin c14 c23 (by decide)) ?_
          exact zv_vret (zs_at rfl) rfl ⟨Nat.le_refl _, Nat.le_refl _⟩ (zw_to rfl (by simp [fa_ch, Int32.not_le, Int32.not_lt, *]) rfl rfl)
        · have _c := c23
          exact zv_vret (zs_at rfl) rfl ⟨Nat.le_refl _, Nat.le_refl _⟩ (zw_to rfl (by simp [fa_ch, Int32.not_le, Int32.not_lt, *]) rfl rfl)
theorem ct_X0_placeInRow {d : Nat} {I : zx_I} {L : zx_L} {h sp : Nat} {la : Option Nat} {k : Int32}  : zx_M0 mm_X0_placeInRow (d + 0) 0 0 [.ref 34, .int k] zw_SC I L (zw_RC h sp la) (zw_ret (some (.int (fa_place I k))) zw_SC I L (zw_RC h sp la)) := by
  refine zv_entry gd_X0_placeInRow (Nat.le_of_ble_eq_true rfl) ?_
  refine zv_run 1 (pc' := 1) (lo' := [some (.ref 34), some (.int k)]) (st' := [.int k]) (I' := I) (L' := L) (R' := zw_RC h sp la) rfl ?_
  refine zv_if_lt (tgt := 13) (zs_at rfl) (by decide) (fun c1 => ?_) (fun c1 => ?_)
  · have _c := c1
    refine zv_run 2 (pc' := 24) (lo' := [some (.ref 34), some (.int k)]) (st' := [.int (-4)]) (I' := I) (L' := L) (R' := zw_RC h sp la) rfl ?_
    exact zv_iret (zs_at rfl) rfl ⟨Nat.le_refl _, Nat.le_refl _⟩ (zw_to (by simp [fa_place, *]) rfl rfl rfl)
  · have _c := c1
    refine zv_run 4 (pc' := 10) (lo' := [some (.ref 34), some (.int k)]) (st' := [.int 6, .int k]) (I' := I) (L' := L) (R' := zw_RC h sp la) rfl ?_
    refine zv_icmp_lt (tgt := 18) (zs_at rfl) (by decide) (fun c10 => ?_) (fun c10 => ?_)
    · have _c := c10
      refine zv_run 3 (pc' := 23) (lo' := [some (.ref 34), some (.int k)]) (st' := [.int k, .ref 35]) (I' := I) (L' := L) (R' := zw_RC h sp la) rfl ?_
      refine zv_iald (zs_at rfl) rfl (zin c1 c10 (by decide)) ?_
      exact zv_iret (zs_at rfl) rfl ⟨Nat.le_refl _, Nat.le_refl _⟩ (zw_to (by simp [fa_place, *]) rfl rfl rfl)
    · have _c := c10
      refine zv_run 2 (pc' := 24) (lo' := [some (.ref 34), some (.int k)]) (st' := [.int (-4)]) (I' := I) (L' := L) (R' := zw_RC h sp la) rfl ?_
      exact zv_iret (zs_at rfl) rfl ⟨Nat.le_refl _, Nat.le_refl _⟩ (zw_to (by simp [fa_place, *]) rfl rfl rfl)
theorem ct_X0_plansFor {d : Nat} {I : zx_I} {L : zx_L} {h sp : Nat} {la : Option Nat} {t : Int32}  : zx_M0 mm_X0_plansFor (d + 0) 0 0 [.ref 34, .int t] zw_SC I L (zw_RC h sp la) (zw_ret (some (.int (fa_plans L t))) zw_SC I L (zw_RC h sp la)) := by
  refine zv_entry gd_X0_plansFor (Nat.le_of_ble_eq_true rfl) ?_
  refine zv_run 8 (pc' := 10) (lo' := [some (.ref 34), some (.int t)]) (st' := [.int (lg_cmp (((L 34 3) >>> (t.toInt64 &&& 63)) &&& 1) 0)]) (I' := I) (L' := L) (R' := zw_RC h sp la) rfl ?_
  refine zv_if_eq (tgt := 17) (zs_at rfl) (by decide) (fun c10 => ?_) (fun c10 => ?_)
  · have _c := c10
    refine zv_run 1 (pc' := 18) (lo' := [some (.ref 34), some (.int t)]) (st' := [.int 0]) (I' := I) (L' := L) (R' := zw_RC h sp la) rfl ?_
    exact zv_zret (zs_at rfl) rfl (Or.inl rfl) ⟨Nat.le_refl _, Nat.le_refl _⟩ (zw_to (by simp [fa_plans, *]) rfl rfl rfl)
  · have _c := c10
    refine zv_run 2 (pc' := 18) (lo' := [some (.ref 34), some (.int t)]) (st' := [.int 1]) (I' := I) (L' := L) (R' := zw_RC h sp la) rfl ?_
    exact zv_zret (zs_at rfl) rfl (Or.inr rfl) ⟨Nat.le_refl _, Nat.le_refl _⟩ (zw_to (by simp [fa_plans, *]) rfl rfl rfl)
theorem ct_X0_tapsAt {d : Nat} {I : zx_I} {L : zx_L} {h sp : Nat} {la : Option Nat} {t : Int32}  : zx_M0 mm_X0_tapsAt (d + 0) 0 0 [.ref 34, .int t] zw_SC I L (zw_RC h sp la) (zw_ret (some (.int (fa_taps I t))) zw_SC I L (zw_RC h sp la)) := by
  refine zv_entry gd_X0_tapsAt (Nat.le_of_ble_eq_true rfl) ?_
  refine zv_run 3 (pc' := 5) (lo' := [some (.ref 34), some (.int t)]) (st' := [.int (I 34 5), .int t]) (I' := I) (L' := L) (R' := zw_RC h sp la) rfl ?_
  refine zv_icmp_lt (tgt := 25) (zs_at rfl) (by decide) (fun c5 => ?_) (fun c5 => ?_)
  · have _c := c5
    refine zv_run 1 (pc' := 26) (lo' := [some (.ref 34), some (.int t)]) (st' := [.int 0]) (I' := I) (L' := L) (R' := zw_RC h sp la) rfl ?_
    exact zv_zret (zs_at rfl) rfl (Or.inl rfl) ⟨Nat.le_refl _, Nat.le_refl _⟩ (zw_to (by simp [fa_taps, *]) rfl rfl rfl)
  · have _c := c5
    refine zv_run 6 (pc' := 18) (lo' := [some (.ref 34), some (.int t)]) (st' := [.int ((I 34 5) + (I 34 6)), .int t]) (I' := I) (L' := L) (R' := zw_RC h sp la) rfl ?_
    refine zv_icmp_ge (tgt := 25) (zs_at rfl) (by decide) (fun c18 => ?_) (fun c18 => ?_)
    · have _c := c18
      refine zv_run 1 (pc' := 26) (lo' := [some (.ref 34), some (.int t)]) (st' := [.int 0]) (I' := I) (L' := L) (R' := zw_RC h sp la) rfl ?_
      exact zv_zret (zs_at rfl) rfl (Or.inl rfl) ⟨Nat.le_refl _, Nat.le_refl _⟩ (zw_to (by simp [fa_taps, *]) rfl rfl rfl)
    · have _c := c18
      refine zv_run 2 (pc' := 26) (lo' := [some (.ref 34), some (.int t)]) (st' := [.int 1]) (I' := I) (L' := L) (R' := zw_RC h sp la) rfl ?_
      exact zv_zret (zs_at rfl) rfl (Or.inr rfl) ⟨Nat.le_refl _, Nat.le_refl _⟩ (zw_to (by simp [fa_taps, *]) rfl rfl rfl)
theorem ct_X0_prefers {d : Nat} {I : zx_I} {L : zx_L} {h sp : Nat} {la : Option Nat} {ww wl : Nat} (hb : bt ww) (hl : bt wl) : zx_M0 mm_X0_prefers (d + 0) 0 0 [.ref 34, .ref ww, .ref wl] zw_SC I L (zw_RC h sp la) (zw_ret (some (.int (fa_pref I ww wl))) zw_SC I L (zw_RC h sp la)) := by
  refine zv_entry gd_X0_prefers (Nat.le_of_ble_eq_true rfl) ?_
  refine zv_run 3 (pc' := 5) (lo' := [some (.ref 34), some (.ref ww), some (.ref wl)]) (st' := [.int 3, .int (I 34 0)]) (I' := I) (L' := L) (R' := zw_RC h sp la) rfl ?_
  refine zv_icmp_ne (tgt := 27) (zs_at rfl) (by decide) (fun c5 => ?_) (fun c5 => ?_)
  · have _c := c5
    refine zv_run 1 (pc' := 28) (lo' := [some (.ref 34), some (.ref ww), some (.ref wl)]) (st' := [.ref ww]) (I' := I) (L' := L) (R' := zw_RC h sp la) rfl ?_
    refine zv_get (ci := 2) (k := 9) (t := 0) (zs_at rfl) (zf_ok rfl) (bt_S hb) rfl ?_
    refine zv_run 0 (pc' := 31) (lo' := [some (.ref 34), some (.ref ww), some (.ref wl)]) (st' := [.int (I ww 9)]) (I' := I) (L' := L) (R' := zw_RC h sp la) rfl ?_
    refine zv_run 1 (pc' := 32) (lo' := [some (.ref 34), some (.ref ww), some (.ref wl)]) (st' := [.ref wl, .int (I ww 9)]) (I' := I) (L' := L) (R' := zw_RC h sp la) rfl ?_
    refine zv_get (ci := 2) (k := 9) (t := 0) (zs_at rfl) (zf_ok rfl) (bt_S hl) rfl ?_
    refine zv_run 0 (pc' := 35) (lo' := [some (.ref 34), some (.ref ww), some (.ref wl)]) (st' := [.int (I wl 9), .int (I ww 9)]) (I' := I) (L' := L) (R' := zw_RC h sp la) rfl ?_
    refine zv_icmp_ge (tgt := 42) (zs_at rfl) (by decide) (fun c35 => ?_) (fun c35 => ?_)
    · have _c := c35
      refine zv_run 1 (pc' := 43) (lo' := [some (.ref 34), some (.ref ww), some (.ref wl)]) (st' := [.int 0]) (I' := I) (L' := L) (R' := zw_RC h sp la) rfl ?_
      exact zv_zret (zs_at rfl) rfl (Or.inl rfl) ⟨Nat.le_refl _, Nat.le_refl _⟩ (zw_to (by simp [fa_pref, *]) rfl rfl rfl)
    · have _c := c35
      refine zv_run 2 (pc' := 43) (lo' := [some (.ref 34), some (.ref ww), some (.ref wl)]) (st' := [.int 1]) (I' := I) (L' := L) (R' := zw_RC h sp la) rfl ?_
      exact zv_zret (zs_at rfl) rfl (Or.inr rfl) ⟨Nat.le_refl _, Nat.le_refl _⟩ (zw_to (by simp [fa_pref, *]) rfl rfl rfl)
  · have _c := c5
    refine zv_run 1 (pc' := 9) (lo' := [some (.ref 34), some (.ref ww), some (.ref wl)]) (st' := [.ref ww]) (I' := I) (L' := L) (R' := zw_RC h sp la) rfl ?_
    refine zv_get (ci := 2) (k := 1) (t := 0) (zs_at rfl) (zf_ok rfl) (bt_S hb) rfl ?_
    refine zv_run 0 (pc' := 12) (lo' := [some (.ref 34), some (.ref ww), some (.ref wl)]) (st' := [.int (I ww 1)]) (I' := I) (L' := L) (R' := zw_RC h sp la) rfl ?_
    refine zv_run 1 (pc' := 13) (lo' := [some (.ref 34), some (.ref ww), some (.ref wl)]) (st' := [.ref wl, .int (I ww 1)]) (I' := I) (L' := L) (R' := zw_RC h sp la) rfl ?_
    refine zv_get (ci := 2) (k := 1) (t := 0) (zs_at rfl) (zf_ok rfl) (bt_S hl) rfl ?_
    refine zv_run 0 (pc' := 16) (lo' := [some (.ref 34), some (.ref ww), some (.ref wl)]) (st' := [.int (I wl 1), .int (I ww 1)]) (I' := I) (L' := L) (R' := zw_RC h sp la) rfl ?_
    refine zv_icmp_ge (tgt := 23) (zs_at rfl) (by decide) (fun c16 => ?_) (fun c16 => ?_)
    · have _c := c16
      refine zv_run 2 (pc' := 43) (lo' := [some (.ref 34), some (.ref ww), some (.ref wl)]) (st' := [.int 0]) (I' := I) (L' := L) (R' := zw_RC h sp la) rfl ?_
      exact zv_zret (zs_at rfl) rfl (Or.inl rfl) ⟨Nat.le_refl _, Nat.le_refl _⟩ (zw_to (by simp [fa_pref, *]) rfl rfl rfl)
    · have _c := c16
      refine zv_run 2 (pc' := 43) (lo' := [some (.ref 34), some (.ref ww), some (.ref wl)]) (st' := [.int 1]) (I' := I) (L' := L) (R' := zw_RC h sp la) rfl ?_
      exact zv_zret (zs_at rfl) rfl (Or.inr rfl) ⟨Nat.le_refl _, Nat.le_refl _⟩ (zw_to (by simp [fa_pref, *]) rfl rfl rfl)
end
section
/-! wishes, items, the houses' small methods -/
theorem lp_X0_rowByNumbers {d : Nat} {L : zx_L} {h sp : Nat} {la : Option Nat}  : ∀ (n j : Nat) (J : zx_I), j + n = 6 → zx_V mm_X0_rowByNumbers (d + 0) z0 (zw_ret none zw_SC (zmap J 35 (fun k _ => nI k) j n) L (zw_RC h sp la)) zw_SC 2 [some (.ref 34), some (.int (nI j))] [] J L (zw_RC h sp la) := by
  intro n
  induction n with
  | zero =>
    intro j J hm
    rw [zmap_0]
    refine zv_run 4 (pc' := 8) (lo' := [some (.ref 34), some (.int (nI j))]) (st' := [.int 6, .int (nI j)]) (I' := J) (L' := L) (R' := zw_RC h sp la) rfl ?_
    refine zv_icmp_ge (tgt := 24) (zs_at rfl) (by decide) (fun c8 => ?_) (fun c8 => ?_)
    · have _c := c8
      exact zv_vret (zs_at rfl) rfl ⟨Nat.le_refl _, Nat.le_refl _⟩ (zw_to rfl rfl rfl rfl)
    · exact absurd (by rw [show j = 6 by omega]; exact (by decide)) c8
  | succ n ih =>
    intro j J hm
    refine zv_run 4 (pc' := 8) (lo' := [some (.ref 34), some (.int (nI j))]) (st' := [.int 6, .int (nI j)]) (I' := J) (L' := L) (R' := zw_RC h sp la) rfl ?_
    refine zv_icmp_ge (tgt := 24) (zs_at rfl) (by decide) (fun c8 => ?_) (fun c8 => ?_)
    · exact absurd c8 (by exact nI_ge (a := j) (b := 6) (by omega) (by decide))
    · have _c := c8
      refine zv_run 4 (pc' := 17) (lo' := [some (.ref 34), some (.int (nI j))]) (st' := [.int (nI j), .int (nI j), .ref 35]) (I' := J) (L' := L) (R' := zw_RC h sp la) rfl ?_
      refine zv_iast (zs_at rfl) rfl (vp_in_nI (by omega) (by decide)) ?_
      refine zv_run 2 (pc' := 2) (lo' := [some (.ref 34), some (.int ((nI j) + 1))]) (st' := []) (I' := (zx_uI J 35 ((nI j).toNatClampNeg) (nI j))) (L' := L) (R' := zw_RC h sp la) rfl ?_
      rw [nI_clamp (by omega), ← nI_succ, ← zmap_s (J := J) (n := n) (g := fun k _ => nI k) rfl]
      exact ih (j + 1) _ (by omega)
theorem ct_X0_rowByNumbers {d : Nat} {I : zx_I} {L : zx_L} {h sp : Nat} {la : Option Nat}   : zx_M0 mm_X0_rowByNumbers (d + 0) 0 0 [.ref 34] zw_SC I L (zw_RC h sp la) (zw_ret (none) zw_SC (zmap I 35 (fun k _ => nI k) 0 6) L (zw_RC h sp la)) := by
  refine zv_entry gd_X0_rowByNumbers (Nat.le_of_ble_eq_true rfl) ?_
  refine zv_run 2 (pc' := 2) (lo' := [some (.ref 34), some (.int 0)]) (st' := []) (I' := I) (L' := L) (R' := zw_RC h sp la) rfl ?_
  exact lp_X0_rowByNumbers 6 0 I (by omega)
def fw_ten (k : Nat) : Int32 := if k = 0 then 10 else 0
def fw_clear (I : zx_I) (a : Nat) : zx_I := zmap (zx_uI (zmap I (a + 1) (fun k _ => nI k) 0 6) a 1 50) (a + 2) (fun k _ => fw_ten k) 0 6
def fw_like (I : zx_I) (a b : Nat) : zx_I := zcp (zx_uI (zcp I (b + 1) (a + 1) 6) a 1 (I b 1)) (b + 2) (a + 2) 6
theorem lp2_X8_clear_24 {d : Nat} {L : zx_L} {h sp : Nat} {la : Option Nat}  : ∀ (n j : Nat) (J : zx_I), j + n = 6 → zx_V mm_X8_clear (d + 0) z0 (zw_ret none zw_SC (zmap J 26 (fun k _ => fw_ten k) j n) L (zw_RC h sp la)) zw_SC 37 [some (.ref 24), some (.int (nI j))] [] J L (zw_RC h sp la) := by
  intro n
  induction n with
  | zero =>
    intro j J hm
    rw [zmap_0]
    refine zv_run 4 (pc' := 43) (lo' := [some (.ref 24), some (.int (nI j))]) (st' := [.int 6, .int (nI j)]) (I' := J) (L' := L) (R' := zw_RC h sp la) rfl ?_
    refine zv_icmp_ge (tgt := 68) (zs_at rfl) (by decide) (fun c43 => ?_) (fun c43 => ?_)
    · have _c := c43
      exact zv_vret (zs_at rfl) rfl ⟨Nat.le_refl _, Nat.le_refl _⟩ (zw_to rfl rfl rfl rfl)
    · exact absurd (by rw [show j = 6 by omega]; exact (by decide)) c43
  | succ n ih =>
    intro j J hm
    refine zv_run 4 (pc' := 43) (lo' := [some (.ref 24), some (.int (nI j))]) (st' := [.int 6, .int (nI j)]) (I' := J) (L' := L) (R' := zw_RC h sp la) rfl ?_
    refine zv_icmp_ge (tgt := 68) (zs_at rfl) (by decide) (fun c43 => ?_) (fun c43 => ?_)
    · exact absurd c43 (by exact nI_ge (a := j) (b := 6) (by omega) (by decide))
    · have _c := c43
      refine zv_run 4 (pc' := 52) (lo' := [some (.ref 24), some (.int (nI j))]) (st' := [.int (nI j), .int (nI j), .ref 26]) (I' := J) (L' := L) (R' := zw_RC h sp la) rfl ?_
      refine zv_if_ne (tgt := 60) (zs_at rfl) (by decide) (fun c52 => ?_) (fun c52 => ?_)
      · have _c := c52
        refine zv_run 1 (pc' := 61) (lo' := [some (.ref 24), some (.int (nI j))]) (st' := [.int 0, .int (nI j), .ref 26]) (I' := J) (L' := L) (R' := zw_RC h sp la) rfl ?_
        refine zv_iast (zs_at rfl) rfl (vp_in_nI (by omega) (by decide)) ?_
        refine zv_run 2 (pc' := 37) (lo' := [some (.ref 24), some (.int ((nI j) + 1))]) (st' := []) (I' := (zx_uI J 26 ((nI j).toNatClampNeg) 0)) (L' := L) (R' := zw_RC h sp la) rfl ?_
        rw [nI_clamp (by omega), ← nI_succ, ← zmap_s (J := J) (a := 26) (n := n) (g := fun k _ => fw_ten k) (by rw [show fw_ten j = 0 from by unfold fw_ten; rw [if_neg (fun q => by subst q; exact c52 rfl)]])]
        exact ih (j + 1) _ (by omega)
      · have _c := c52
        refine zv_run 2 (pc' := 61) (lo' := [some (.ref 24), some (.int (nI j))]) (st' := [.int 10, .int (nI j), .ref 26]) (I' := J) (L' := L) (R' := zw_RC h sp la) rfl ?_
        refine zv_iast (zs_at rfl) rfl (vp_in_nI (by omega) (by decide)) ?_
        refine zv_run 2 (pc' := 37) (lo' := [some (.ref 24), some (.int ((nI j) + 1))]) (st' := []) (I' := (zx_uI J 26 ((nI j).toNatClampNeg) 10)) (L' := L) (R' := zw_RC h sp la) rfl ?_
        rw [nI_clamp (by omega), ← nI_succ, ← zmap_s (J := J) (a := 26) (n := n) (g := fun k _ => fw_ten k) (by rw [show fw_ten j = 10 from by unfold fw_ten; rw [if_pos ((nI_eq (a := j) (b := 0) (by omega) (by omega)).mp (show nI j = nI 0 from c52))]])]
        exact ih (j + 1) _ (by omega)
theorem lp1_X8_clear_24 {d : Nat} {L : zx_L} {h sp : Nat} {la : Option Nat}  : ∀ (n j : Nat) (J : zx_I), j + n = 6 → zx_V mm_X8_clear (d + 0) z0 (zw_ret none zw_SC (zmap (zx_uI (zmap J 25 (fun k _ => nI k) j n) 24 1 50) 26 (fun k _ => fw_ten k) 0 6) (zx_uL L 24 2 0) (zw_RC h sp la)) zw_SC 2 [some (.ref 24), some (.int (nI j))] [] J L (zw_RC h sp la) := by
  intro n
  induction n with
  | zero =>
    intro j J hm
    rw [zmap_0]
    refine zv_run 4 (pc' := 8) (lo' := [some (.ref 24), some (.int (nI j))]) (st' := [.int 6, .int (nI j)]) (I' := J) (L' := L) (R' := zw_RC h sp la) rfl ?_
    refine zv_icmp_ge (tgt := 24) (zs_at rfl) (by decide) (fun c8 => ?_) (fun c8 => ?_)
    · have _c := c8
      refine zv_run 8 (pc' := 37) (lo' := [some (.ref 24), some (.int 0)]) (st' := []) (I' := (zx_uI J 24 1 50)) (L' := (zx_uL L 24 2 0)) (R' := zw_RC h sp la) rfl ?_
      exact lp2_X8_clear_24 6 0 _ (by omega)
    · exact absurd (by rw [show j = 6 by omega]; exact (by decide)) c8
  | succ n ih =>
    intro j J hm
    refine zv_run 4 (pc' := 8) (lo' := [some (.ref 24), some (.int (nI j))]) (st' := [.int 6, .int (nI j)]) (I' := J) (L' := L) (R' := zw_RC h sp la) rfl ?_
    refine zv_icmp_ge (tgt := 24) (zs_at rfl) (by decide) (fun c8 => ?_) (fun c8 => ?_)
    · exact absurd c8 (by exact nI_ge (a := j) (b := 6) (by omega) (by decide))
    · have _c := c8
      refine zv_run 4 (pc' := 17) (lo' := [some (.ref 24), some (.int (nI j))]) (st' := [.int (nI j), .int (nI j), .ref 25]) (I' := J) (L' := L) (R' := zw_RC h sp la) rfl ?_
      refine zv_iast (zs_at rfl) rfl (vp_in_nI (by omega) (by decide)) ?_
      refine zv_run 2 (pc' := 2) (lo' := [some (.ref 24), some (.int ((nI j) + 1))]) (st' := []) (I' := (zx_uI J 25 ((nI j).toNatClampNeg) (nI j))) (L' := L) (R' := zw_RC h sp la) rfl ?_
      rw [nI_clamp (by omega), ← nI_succ, ← zmap_s (J := J) (a := 25) (n := n) (g := fun k _ => nI k) rfl]
      exact ih (j + 1) _ (by omega)
theorem ct_X8_clear_24 {d : Nat} {I : zx_I} {L : zx_L} {h sp : Nat} {la : Option Nat} : zx_M0 mm_X8_clear (d + 0) 0 0 [.ref 24] zw_SC I L (zw_RC h sp la) (zw_ret none zw_SC (fw_clear I 24) (zx_uL L 24 2 0) (zw_RC h sp la)) := by
  refine zv_entry gd_X8_clear (Nat.le_of_ble_eq_true rfl) ?_
  refine zv_run 2 (pc' := 2) (lo' := [some (.ref 24), some (.int 0)]) (st' := []) (I' := I) (L' := L) (R' := zw_RC h sp la) rfl ?_
  exact lp1_X8_clear_24 6 0 I (by omega)
theorem lp2_X8_clear_28 {d : Nat} {L : zx_L} {h sp : Nat} {la : Option Nat}  : ∀ (n j : Nat) (J : zx_I), j + n = 6 → zx_V mm_X8_clear (d + 0) z0 (zw_ret none zw_SC (zmap J 30 (fun k _ => fw_ten k) j n) L (zw_RC h sp la)) zw_SC 37 [some (.ref 28), some (.int (nI j))] [] J L (zw_RC h sp la) := by
  intro n
  induction n with
  | zero =>
    intro j J hm
    rw [zmap_0]
    refine zv_run 4 (pc' := 43) (lo' := [some (.ref 28), some (.int (nI j))]) (st' := [.int 6, .int (nI j)]) (I' := J) (L' := L) (R' := zw_RC h sp la) rfl ?_
    refine zv_icmp_ge (tgt := 68) (zs_at rfl) (by decide) (fun c43 => ?_) (fun c43 => ?_)
    · have _c := c43
      exact zv_vret (zs_at rfl) rfl ⟨Nat.le_refl _, Nat.le_refl _⟩ (zw_to rfl rfl rfl rfl)
    · exact absurd (by rw [show j = 6 by omega]; exact (by decide)) c43
  | succ n ih =>
    intro j J hm
    refine zv_run 4 (pc' := 43) (lo' := [some (.ref 28), some (.int (nI j))]) (st' := [.int 6, .int (nI j)]) (I' := J) (L' := L) (R' := zw_RC h sp la) rfl ?_
    refine zv_icmp_ge (tgt := 68) (zs_at rfl) (by decide) (fun c43 => ?_) (fun c43 => ?_)
    · exact absurd c43 (by exact nI_ge (a := j) (b := 6) (by omega) (by decide))
    · have _c := c43
      refine zv_run 4 (pc' := 52) (lo' := [some (.ref 28), some (.int (nI j))]) (st' := [.int (nI j), .int (nI j), .ref 30]) (I' := J) (L' := L) (R' := zw_RC h sp la) rfl ?_
      refine zv_if_ne (tgt := 60) (zs_at rfl) (by decide) (fun c52 => ?_) (fun c52 => ?_)
      · have _c := c52
        refine zv_run 1 (pc' := 61) (lo' := [some (.ref 28), some (.int (nI j))]) (st' := [.int 0, .int (nI j), .ref 30]) (I' := J) (L' := L) (R' := zw_RC h sp la) rfl ?_
        refine zv_iast (zs_at rfl) rfl (vp_in_nI (by omega) (by decide)) ?_
        refine zv_run 2 (pc' := 37) (lo' := [some (.ref 28), some (.int ((nI j) + 1))]) (st' := []) (I' := (zx_uI J 30 ((nI j).toNatClampNeg) 0)) (L' := L) (R' := zw_RC h sp la) rfl ?_
        rw [nI_clamp (by omega), ← nI_succ, ← zmap_s (J := J) (a := 30) (n := n) (g := fun k _ => fw_ten k) (by rw [show fw_ten j = 0 from by unfold fw_ten; rw [if_neg (fun q => by subst q; exact c52 rfl)]])]
        exact ih (j + 1) _ (by omega)
      · have _c := c52
        refine zv_run 2 (pc' := 61) (lo' := [some (.ref 28), some (.int (nI j))]) (st' := [.int 10, .int (nI j), .ref 30]) (I' := J) (L' := L) (R' := zw_RC h sp la) rfl ?_
        refine zv_iast (zs_at rfl) rfl (vp_in_nI (by omega) (by decide)) ?_
        refine zv_run 2 (pc' := 37) (lo' := [some (.ref 28), some (.int ((nI j) + 1))]) (st' := []) (I' := (zx_uI J 30 ((nI j).toNatClampNeg) 10)) (L' := L) (R' := zw_RC h sp la) rfl ?_
        rw [nI_clamp (by omega), ← nI_succ, ← zmap_s (J := J) (a := 30) (n := n) (g := fun k _ => fw_ten k) (by rw [show fw_ten j = 10 from by unfold fw_ten; rw [if_pos ((nI_eq (a := j) (b := 0) (by omega) (by omega)).mp (show nI j = nI 0 from c52))]])]
        exact ih (j + 1) _ (by omega)
theorem lp1_X8_clear_28 {d : Nat} {L : zx_L} {h sp : Nat} {la : Option Nat}  : ∀ (n j : Nat) (J : zx_I), j + n = 6 → zx_V mm_X8_clear (d + 0) z0 (zw_ret none zw_SC (zmap (zx_uI (zmap J 29 (fun k _ => nI k) j n) 28 1 50) 30 (fun k _ => fw_ten k) 0 6) (zx_uL L 28 2 0) (zw_RC h sp la)) zw_SC 2 [some (.ref 28), some (.int (nI j))] [] J L (zw_RC h sp la) := by
  intro n
  induction n with
  | zero =>
    intro j J hm
    rw [zmap_0]
    refine zv_run 4 (pc' := 8) (lo' := [some (.ref 28), some (.int (nI j))]) (st' := [.int 6, .int (nI j)]) (I' := J) (L' := L) (R' := zw_RC h sp la) rfl ?_
    refine zv_icmp_ge (tgt := 24) (zs_at rfl) (by decide) (fun c8 => ?_) (fun c8 => ?_)
    · have _c := c8
      refine zv_run 8 (pc' := 37) (lo' := [some (.ref 28), some (.int 0)]) (st' := []) (I' := (zx_uI J 28 1 50)) (L' := (zx_uL L 28 2 0)) (R' := zw_RC h sp la) rfl ?_
      exact lp2_X8_clear_28 6 0 _ (by omega)
    · exact absurd (by rw [show j = 6 by omega]; exact (by decide)) c8
  | succ n ih =>
    intro j J hm
    refine zv_run 4 (pc' := 8) (lo' := [some (.ref 28), some (.int (nI j))]) (st' := [.int 6, .int (nI j)]) (I' := J) (L' := L) (R' := zw_RC h sp la) rfl ?_
    refine zv_icmp_ge (tgt := 24) (zs_at rfl) (by decide) (fun c8 => ?_) (fun c8 => ?_)
    · exact absurd c8 (by exact nI_ge (a := j) (b := 6) (by omega) (by decide))
    · have _c := c8
      refine zv_run 4 (pc' := 17) (lo' := [some (.ref 28), some (.int (nI j))]) (st' := [.int (nI j), .int (nI j), .ref 29]) (I' := J) (L' := L) (R' := zw_RC h sp la) rfl ?_
      refine zv_iast (zs_at rfl) rfl (vp_in_nI (by omega) (by decide)) ?_
      refine zv_run 2 (pc' := 2) (lo' := [some (.ref 28), some (.int ((nI j) + 1))]) (st' := []) (I' := (zx_uI J 29 ((nI j).toNatClampNeg) (nI j))) (L' := L) (R' := zw_RC h sp la) rfl ?_
      rw [nI_clamp (by omega), ← nI_succ, ← zmap_s (J := J) (a := 29) (n := n) (g := fun k _ => nI k) rfl]
      exact ih (j + 1) _ (by omega)
theorem ct_X8_clear_28 {d : Nat} {I : zx_I} {L : zx_L} {h sp : Nat} {la : Option Nat} : zx_M0 mm_X8_clear (d + 0) 0 0 [.ref 28] zw_SC I L (zw_RC h sp la) (zw_ret none zw_SC (fw_clear I 28) (zx_uL L 28 2 0) (zw_RC h sp la)) := by
  refine zv_entry gd_X8_clear (Nat.le_of_ble_eq_true rfl) ?_
  refine zv_run 2 (pc' := 2) (lo' := [some (.ref 28), some (.int 0)]) (st' := []) (I' := I) (L' := L) (R' := zw_RC h sp la) rfl ?_
  exact lp1_X8_clear_28 6 0 I (by omega)
theorem lp2_X8_clear_31 {d : Nat} {L : zx_L} {h sp : Nat} {la : Option Nat}  : ∀ (n j : Nat) (J : zx_I), j + n = 6 → zx_V mm_X8_clear (d + 0) z0 (zw_ret none zw_SC (zmap J 33 (fun k _ => fw_ten k) j n) L (zw_RC h sp la)) zw_SC 37 [some (.ref 31), some (.int (nI j))] [] J L (zw_RC h sp la) := by
  intro n
  induction n with
  | zero =>
    intro j J hm
    rw [zmap_0]
    refine zv_run 4 (pc' := 43) (lo' := [some (.ref 31), some (.int (nI j))]) (st' := [.int 6, .int (nI j)]) (I' := J) (L' := L) (R' := zw_RC h sp la) rfl ?_
    refine zv_icmp_ge (tgt := 68) (zs_at rfl) (by decide) (fun c43 => ?_) (fun c43 => ?_)
    · have _c := c43
      exact zv_vret (zs_at rfl) rfl ⟨Nat.le_refl _, Nat.le_refl _⟩ (zw_to rfl rfl rfl rfl)
    · exact absurd (by rw [show j = 6 by omega]; exact (by decide)) c43
  | succ n ih =>
    intro j J hm
    refine zv_run 4 (pc' := 43) (lo' := [some (.ref 31), some (.int (nI j))]) (st' := [.int 6, .int (nI j)]) (I' := J) (L' := L) (R' := zw_RC h sp la) rfl ?_
    refine zv_icmp_ge (tgt := 68) (zs_at rfl) (by decide) (fun c43 => ?_) (fun c43 => ?_)
    · exact absurd c43 (by exact nI_ge (a := j) (b := 6) (by omega) (by decide))
    · have _c := c43
      refine zv_run 4 (pc' := 52) (lo' := [some (.ref 31), some (.int (nI j))]) (st' := [.int (nI j), .int (nI j), .ref 33]) (I' := J) (L' := L) (R' := zw_RC h sp la) rfl ?_
      refine zv_if_ne (tgt := 60) (zs_at rfl) (by decide) (fun c52 => ?_) (fun c52 => ?_)
      · have _c := c52
        refine zv_run 1 (pc' := 61) (lo' := [some (.ref 31), some (.int (nI j))]) (st' := [.int 0, .int (nI j), .ref 33]) (I' := J) (L' := L) (R' := zw_RC h sp la) rfl ?_
        refine zv_iast (zs_at rfl) rfl (vp_in_nI (by omega) (by decide)) ?_
        refine zv_run 2 (pc' := 37) (lo' := [some (.ref 31), some (.int ((nI j) + 1))]) (st' := []) (I' := (zx_uI J 33 ((nI j).toNatClampNeg) 0)) (L' := L) (R' := zw_RC h sp la) rfl ?_
        rw [nI_clamp (by omega), ← nI_succ, ← zmap_s (J := J) (a := 33) (n := n) (g := fun k _ => fw_ten k) (by rw [show fw_ten j = 0 from by unfold fw_ten; rw [if_neg (fun q => by subst q; exact c52 rfl)]])]
        exact ih (j + 1) _ (by omega)
      · have _c := c52
        refine zv_run 2 (pc' := 61) (lo' := [some (.ref 31), some (.int (nI j))]) (st' := [.int 10, .int (nI j), .ref 33]) (I' := J) (L' := L) (R' := zw_RC h sp la) rfl ?_
        refine zv_iast (zs_at rfl) rfl (vp_in_nI (by omega) (by decide)) ?_
        refine zv_run 2 (pc' := 37) (lo' := [some (.ref 31), some (.int ((nI j) + 1))]) (st' := []) (I' := (zx_uI J 33 ((nI j).toNatClampNeg) 10)) (L' := L) (R' := zw_RC h sp la) rfl ?_
        rw [nI_clamp (by omega), ← nI_succ, ← zmap_s (J := J) (a := 33) (n := n) (g := fun k _ => fw_ten k) (by rw [show fw_ten j = 10 from by unfold fw_ten; rw [if_pos ((nI_eq (a := j) (b := 0) (by omega) (by omega)).mp (show nI j = nI 0 from c52))]])]
        exact ih (j + 1) _ (by omega)
theorem lp1_X8_clear_31 {d : Nat} {L : zx_L} {h sp : Nat} {la : Option Nat}  : ∀ (n j : Nat) (J : zx_I), j + n = 6 → zx_V mm_X8_clear (d + 0) z0 (zw_ret none zw_SC (zmap (zx_uI (zmap J 32 (fun k _ => nI k) j n) 31 1 50) 33 (fun k _ => fw_ten k) 0 6) (zx_uL L 31 2 0) (zw_RC h sp la)) zw_SC 2 [some (.ref 31), some (.int (nI j))] [] J L (zw_RC h sp la) := by
  intro n
  induction n with
  | zero =>
    intro j J hm
    rw [zmap_0]
    refine zv_run 4 (pc' := 8) (lo' := [some (.ref 31), some (.int (nI j))]) (st' := [.int 6, .int (nI j)]) (I' := J) (L' := L) (R' := zw_RC h sp la) rfl ?_
    refine zv_icmp_ge (tgt := 24) (zs_at rfl) (by decide) (fun c8 => ?_) (fun c8 => ?_)
    · have _c := c8
      refine zv_run 8 (pc' := 37) (lo' := [some (.ref 31), some (.int 0)]) (st' := []) (I' := (zx_uI J 31 1 50)) (L' := (zx_uL L 31 2 0)) (R' := zw_RC h sp la) rfl ?_
      exact lp2_X8_clear_31 6 0 _ (by omega)
    · exact absurd (by rw [show j = 6 by omega]; exact (by decide)) c8
  | succ n ih =>
    intro j J hm
    refine zv_run 4 (pc' := 8) (lo' := [some (.ref 31), some (.int (nI j))]) (st' := [.int 6, .int (nI j)]) (I' := J) (L' := L) (R' := zw_RC h sp la) rfl ?_
    refine zv_icmp_ge (tgt := 24) (zs_at rfl) (by decide) (fun c8 => ?_) (fun c8 => ?_)
    · exact absurd c8 (by exact nI_ge (a := j) (b := 6) (by omega) (by decide))
    · have _c := c8
      refine zv_run 4 (pc' := 17) (lo' := [some (.ref 31), some (.int (nI j))]) (st' := [.int (nI j), .int (nI j), .ref 32]) (I' := J) (L' := L) (R' := zw_RC h sp la) rfl ?_
      refine zv_iast (zs_at rfl) rfl (vp_in_nI (by omega) (by decide)) ?_
      refine zv_run 2 (pc' := 2) (lo' := [some (.ref 31), some (.int ((nI j) + 1))]) (st' := []) (I' := (zx_uI J 32 ((nI j).toNatClampNeg) (nI j))) (L' := L) (R' := zw_RC h sp la) rfl ?_
      rw [nI_clamp (by omega), ← nI_succ, ← zmap_s (J := J) (a := 32) (n := n) (g := fun k _ => nI k) rfl]
      exact ih (j + 1) _ (by omega)
theorem ct_X8_clear_31 {d : Nat} {I : zx_I} {L : zx_L} {h sp : Nat} {la : Option Nat} : zx_M0 mm_X8_clear (d + 0) 0 0 [.ref 31] zw_SC I L (zw_RC h sp la) (zw_ret none zw_SC (fw_clear I 31) (zx_uL L 31 2 0) (zw_RC h sp la)) := by
  refine zv_entry gd_X8_clear (Nat.le_of_ble_eq_true rfl) ?_
  refine zv_run 2 (pc' := 2) (lo' := [some (.ref 31), some (.int 0)]) (st' := []) (I' := I) (L' := L) (R' := zw_RC h sp la) rfl ?_
  exact lp1_X8_clear_31 6 0 I (by omega)
theorem ct_X8_becomeLike_28_24 {d : Nat} {I : zx_I} {L : zx_L} {h sp : Nat} {la : Option Nat}   : zx_M0 mm_X8_becomeLike (d + 1) 0 0 [.ref 28, .ref 24] zw_SC I L (zw_RC h sp la) (zw_ret (none) zw_SC (fw_like I 28 24) (zx_uL L 28 2 (L 24 2)) (zw_RC h sp la)) := by
  refine zv_entry gd_X8_becomeLike (Nat.le_of_ble_eq_true rfl) ?_
  refine zv_run 9 (pc' := 15) (lo' := [some (.ref 28), some (.ref 24)]) (st' := [.int 6, .int 0, .ref 29, .int 0, .ref 25]) (I' := I) (L' := L) (R' := zw_RC h sp la) rfl ?_
  refine zv_copy (a0 := 25) (a := 29) rfl zm_8_29 rfl rfl (by decide) (by decide) (by decide) (Nat.le_of_ble_eq_true rfl) ?_
  refine zv_run 0 (pc' := 18) (lo' := [some (.ref 28), some (.ref 24)]) (st' := []) (I' := (zcp I 25 29 6)) (L' := L) (R' := zw_RC h sp la) rfl ?_
  refine zv_run 17 (pc' := 49) (lo' := [some (.ref 28), some (.ref 24)]) (st' := [.int 6, .int 0, .ref 30, .int 0, .ref 26]) (I' := (zx_uI (zcp I 25 29 6) 28 1 (I 24 1))) (L' := (zx_uL L 28 2 (L 24 2))) (R' := zw_RC h sp la) rfl ?_
  refine zv_copy (a0 := 26) (a := 30) rfl zm_8_29 rfl rfl (by decide) (by decide) (by decide) (Nat.le_of_ble_eq_true rfl) ?_
  refine zv_run 0 (pc' := 52) (lo' := [some (.ref 28), some (.ref 24)]) (st' := []) (I' := (zcp (zx_uI (zcp I 25 29 6) 28 1 (I 24 1)) 26 30 6)) (L' := (zx_uL L 28 2 (L 24 2))) (R' := zw_RC h sp la) rfl ?_
  exact zv_vret (zs_at rfl) rfl ⟨Nat.le_refl _, Nat.le_refl _⟩ (zw_to rfl rfl rfl rfl)
theorem ct_X8_becomeLike_31_24 {d : Nat} {I : zx_I} {L : zx_L} {h sp : Nat} {la : Option Nat}   : zx_M0 mm_X8_becomeLike (d + 1) 0 0 [.ref 31, .ref 24] zw_SC I L (zw_RC h sp la) (zw_ret (none) zw_SC (fw_like I 31 24) (zx_uL L 31 2 (L 24 2)) (zw_RC h sp la)) := by
  refine zv_entry gd_X8_becomeLike (Nat.le_of_ble_eq_true rfl) ?_
  refine zv_run 9 (pc' := 15) (lo' := [some (.ref 31), some (.ref 24)]) (st' := [.int 6, .int 0, .ref 32, .int 0, .ref 25]) (I' := I) (L' := L) (R' := zw_RC h sp la) rfl ?_
  refine zv_copy (a0 := 25) (a := 32) rfl zm_8_29 rfl rfl (by decide) (by decide) (by decide) (Nat.le_of_ble_eq_true rfl) ?_
  refine zv_run 0 (pc' := 18) (lo' := [some (.ref 31), some (.ref 24)]) (st' := []) (I' := (zcp I 25 32 6)) (L' := L) (R' := zw_RC h sp la) rfl ?_
  refine zv_run 17 (pc' := 49) (lo' := [some (.ref 31), some (.ref 24)]) (st' := [.int 6, .int 0, .ref 33, .int 0, .ref 26]) (I' := (zx_uI (zcp I 25 32 6) 31 1 (I 24 1))) (L' := (zx_uL L 31 2 (L 24 2))) (R' := zw_RC h sp la) rfl ?_
  refine zv_copy (a0 := 26) (a := 33) rfl zm_8_29 rfl rfl (by decide) (by decide) (by decide) (Nat.le_of_ble_eq_true rfl) ?_
  refine zv_run 0 (pc' := 52) (lo' := [some (.ref 31), some (.ref 24)]) (st' := []) (I' := (zcp (zx_uI (zcp I 25 32 6) 31 1 (I 24 1)) 26 33 6)) (L' := (zx_uL L 31 2 (L 24 2))) (R' := zw_RC h sp la) rfl ?_
  exact zv_vret (zs_at rfl) rfl ⟨Nat.le_refl _, Nat.le_refl _⟩ (zw_to rfl rfl rfl rfl)
theorem ct_X8_becomeLike_24_28 {d : Nat} {I : zx_I} {L : zx_L} {h sp : Nat} {la : Option Nat}   : zx_M0 mm_X8_becomeLike (d + 1) 0 0 [.ref 24, .ref 28] zw_SC I L (zw_RC h sp la) (zw_ret (none) zw_SC (fw_like I 24 28) (zx_uL L 24 2 (L 28 2)) (zw_RC h sp la)) := by
  refine zv_entry gd_X8_becomeLike (Nat.le_of_ble_eq_true rfl) ?_
  refine zv_run 9 (pc' := 15) (lo' := [some (.ref 24), some (.ref 28)]) (st' := [.int 6, .int 0, .ref 25, .int 0, .ref 29]) (I' := I) (L' := L) (R' := zw_RC h sp la) rfl ?_
  refine zv_copy (a0 := 29) (a := 25) rfl zm_8_29 rfl rfl (by decide) (by decide) (by decide) (Nat.le_of_ble_eq_true rfl) ?_
  refine zv_run 0 (pc' := 18) (lo' := [some (.ref 24), some (.ref 28)]) (st' := []) (I' := (zcp I 29 25 6)) (L' := L) (R' := zw_RC h sp la) rfl ?_
  refine zv_run 17 (pc' := 49) (lo' := [some (.ref 24), some (.ref 28)]) (st' := [.int 6, .int 0, .ref 26, .int 0, .ref 30]) (I' := (zx_uI (zcp I 29 25 6) 24 1 (I 28 1))) (L' := (zx_uL L 24 2 (L 28 2))) (R' := zw_RC h sp la) rfl ?_
  refine zv_copy (a0 := 30) (a := 26) rfl zm_8_29 rfl rfl (by decide) (by decide) (by decide) (Nat.le_of_ble_eq_true rfl) ?_
  refine zv_run 0 (pc' := 52) (lo' := [some (.ref 24), some (.ref 28)]) (st' := []) (I' := (zcp (zx_uI (zcp I 29 25 6) 24 1 (I 28 1)) 30 26 6)) (L' := (zx_uL L 24 2 (L 28 2))) (R' := zw_RC h sp la) rfl ?_
  exact zv_vret (zs_at rfl) rfl ⟨Nat.le_refl _, Nat.le_refl _⟩ (zw_to rfl rfl rfl rfl)
theorem ct_X8_becomeLike_24_31 {d : Nat} {I : zx_I} {L : zx_L} {h sp : Nat} {la : Option Nat}   : zx_M0 mm_X8_becomeLike (d + 1) 0 0 [.ref 24, .ref 31] zw_SC I L (zw_RC h sp la) (zw_ret (none) zw_SC (fw_like I 24 31) (zx_uL L 24 2 (L 31 2)) (zw_RC h sp la)) := by
  refine zv_entry gd_X8_becomeLike (Nat.le_of_ble_eq_true rfl) ?_
  refine zv_run 9 (pc' := 15) (lo' := [some (.ref 24), some (.ref 31)]) (st' := [.int 6, .int 0, .ref 25, .int 0, .ref 32]) (I' := I) (L' := L) (R' := zw_RC h sp la) rfl ?_
  refine zv_copy (a0 := 32) (a := 25) rfl zm_8_29 rfl rfl (by decide) (by decide) (by decide) (Nat.le_of_ble_eq_true rfl) ?_
  refine zv_run 0 (pc' := 18) (lo' := [some (.ref 24), some (.ref 31)]) (st' := []) (I' := (zcp I 32 25 6)) (L' := L) (R' := zw_RC h sp la) rfl ?_
  refine zv_run 17 (pc' := 49) (lo' := [some (.ref 24), some (.ref 31)]) (st' := [.int 6, .int 0, .ref 26, .int 0, .ref 33]) (I' := (zx_uI (zcp I 32 25 6) 24 1 (I 31 1))) (L' := (zx_uL L 24 2 (L 31 2))) (R' := zw_RC h sp la) rfl ?_
  refine zv_copy (a0 := 33) (a := 26) rfl zm_8_29 rfl rfl (by decide) (by decide) (by decide) (Nat.le_of_ble_eq_true rfl) ?_
  refine zv_run 0 (pc' := 52) (lo' := [some (.ref 24), some (.ref 31)]) (st' := []) (I' := (zcp (zx_uI (zcp I 32 25 6) 24 1 (I 31 1)) 33 26 6)) (L' := (zx_uL L 24 2 (L 31 2))) (R' := zw_RC h sp la) rfl ?_
  exact zv_vret (zs_at rfl) rfl ⟨Nat.le_refl _, Nat.le_refl _⟩ (zw_to rfl rfl rfl rfl)
theorem lp_X8_sumOfTenths {d : Nat} {I : zx_I} {L : zx_L} {h sp : Nat} {la : Option Nat} : ∀ (n j : Nat) (x5 : Option Value), j + n = 6 → zx_V mm_X8_sumOfTenths d z0 (zw_ret (some (.int (ut_sum (I 26) 6))) zw_SC I L (zw_RC h sp la)) zw_SC 13 [some (.ref 24), some (.int (ut_sum (I 26) j)), some (.ref 26), some (.int 6), some (.int (nI j)), x5] [] I L (zw_RC h sp la) := by
  intro n
  induction n with
  | zero =>
    intro j x5 hm
    refine zv_run 2 (pc' := 16) (lo' := [some (.ref 24), some (.int (ut_sum (I 26) j)), some (.ref 26), some (.int 6), some (.int (nI j)), x5]) (st' := [.int 6, .int (nI j)]) (I' := I) (L' := L) (R' := zw_RC h sp la) rfl ?_
    refine zv_icmp_ge (tgt := 36) (zs_at rfl) (by decide) (fun c16 => ?_) (fun c16 => ?_)
    · have _c := c16
      refine zv_run 1 (pc' := 37) (lo' := [some (.ref 24), some (.int (ut_sum (I 26) j)), some (.ref 26), some (.int 6), some (.int (nI j)), x5]) (st' := [.int (ut_sum (I 26) j)]) (I' := I) (L' := L) (R' := zw_RC h sp la) rfl ?_
      exact zv_iret (zs_at rfl) rfl ⟨Nat.le_refl _, Nat.le_refl _⟩ (zw_to (by rw [show j = 6 by omega]) rfl rfl rfl)
    · exact absurd (by rw [show j = 6 by omega]; exact (by decide)) c16
  | succ n ih =>
    intro j x5 hm
    refine zv_run 2 (pc' := 16) (lo' := [some (.ref 24), some (.int (ut_sum (I 26) j)), some (.ref 26), some (.int 6), some (.int (nI j)), x5]) (st' := [.int 6, .int (nI j)]) (I' := I) (L' := L) (R' := zw_RC h sp la) rfl ?_
    refine zv_icmp_ge (tgt := 36) (zs_at rfl) (by decide) (fun c16 => ?_) (fun c16 => ?_)
    · exact absurd c16 (by exact nI_ge (a := j) (b := 6) (by omega) (by decide))
    · have _c := c16
      refine zv_run 2 (pc' := 22) (lo' := [some (.ref 24), some (.int (ut_sum (I 26) j)), some (.ref 26), some (.int 6), some (.int (nI j)), x5]) (st' := [.int (nI j), .ref 26]) (I' := I) (L' := L) (R' := zw_RC h sp la) rfl ?_
      refine zv_iald (zs_at rfl) rfl (vp_in_nI (by omega) (by decide)) ?_
      refine zv_run 7 (pc' := 13) (lo' := [some (.ref 24), some (.int ((ut_sum (I 26) j) + (I 26 ((nI j).toNatClampNeg)))), some (.ref 26), some (.int 6), some (.int ((nI j) + 1)), some (.int (I 26 ((nI j).toNatClampNeg)))]) (st' := []) (I' := I) (L' := L) (R' := zw_RC h sp la) rfl ?_
      rw [nI_clamp (by omega), ← nI_succ]
      exact ih (j + 1) _ (by omega)
theorem ct_X8_sumOfTenths {d : Nat} {I : zx_I} {L : zx_L} {h sp : Nat} {la : Option Nat}   : zx_M0 mm_X8_sumOfTenths (d + 0) 0 0 [.ref 24] zw_SC I L (zw_RC h sp la) (zw_ret (some (.int (ut_sum (I 26) 6))) zw_SC I L (zw_RC h sp la)) := by
  refine zv_entry gd_X8_sumOfTenths (Nat.le_of_ble_eq_true rfl) ?_
  refine zv_run 10 (pc' := 13) (lo' := [some (.ref 24), some (.int 0), some (.ref 26), some (.int 6), some (.int 0), none]) (st' := []) (I' := I) (L' := L) (R' := zw_RC h sp la) rfl ?_
  exact lp_X8_sumOfTenths 6 0 none (by omega)
def fi_num (I : zx_I) (k : Int32) : Int32 := if k < 0 then -4 else if k ≥ I 2 2 then -4 else if k < 6 then I 3 k.toNatClampNeg else -4
def fi_in (I : zx_I) (k l m : Int32) : Int32 := if fi_num I k < l then 0 else if fi_num I k > m then 0 else 1
def fi_one (I : zx_I) (l m : Int32) : Int32 := if I 2 2 ≠ 1 then 0 else if fi_in I 0 l m = 0 then 0 else 1
def fi_pair (I : zx_I) (n : Int32) : Int32 := if I 2 2 ≠ 2 then 0 else if fi_in I 0 0 (n - 1) = 0 then 0 else if fi_in I 1 0 (n - 1) = 0 then 0 else if fi_num I 0 = fi_num I 1 then 0 else 1
theorem ct_X6_number {d : Nat} {I : zx_I} {L : zx_L} {h sp : Nat} {la : Option Nat} {k : Int32}  : zx_M0 mm_X6_number (d + 0) 0 0 [.ref 2, .int k] zw_SC I L (zw_RC h sp la) (zw_ret (some (.int (fi_num I k))) zw_SC I L (zw_RC h sp la)) := by
  refine zv_entry gd_X6_number (Nat.le_of_ble_eq_true rfl) ?_
  refine zv_run 1 (pc' := 1) (lo' := [some (.ref 2), some (.int k)]) (st' := [.int k]) (I' := I) (L' := L) (R' := zw_RC h sp la) rfl ?_
  refine zv_if_lt (tgt := 21) (zs_at rfl) (by decide) (fun c1 => ?_) (fun c1 => ?_)
  · have _c := c1
    refine zv_run 2 (pc' := 32) (lo' := [some (.ref 2), some (.int k)]) (st' := [.int (-4)]) (I' := I) (L' := L) (R' := zw_RC h sp la) rfl ?_
    exact zv_iret (zs_at rfl) rfl ⟨Nat.le_refl _, Nat.le_refl _⟩ (zw_to (by simp [fi_num, *]) rfl rfl rfl)
  · have _c := c1
    refine zv_run 3 (pc' := 9) (lo' := [some (.ref 2), some (.int k)]) (st' := [.int (I 2 2), .int k]) (I' := I) (L' := L) (R' := zw_RC h sp la) rfl ?_
    refine zv_icmp_ge (tgt := 21) (zs_at rfl) (by decide) (fun c9 => ?_) (fun c9 => ?_)
    · have _c := c9
      refine zv_run 2 (pc' := 32) (lo' := [some (.ref 2), some (.int k)]) (st' := [.int (-4)]) (I' := I) (L' := L) (R' := zw_RC h sp la) rfl ?_
      exact zv_iret (zs_at rfl) rfl ⟨Nat.le_refl _, Nat.le_refl _⟩ (zw_to (by simp [fi_num, *]) rfl rfl rfl)
    · have _c := c9
      refine zv_run 4 (pc' := 18) (lo' := [some (.ref 2), some (.int k)]) (st' := [.int 6, .int k]) (I' := I) (L' := L) (R' := zw_RC h sp la) rfl ?_
      refine zv_icmp_lt (tgt := 26) (zs_at rfl) (by decide) (fun c18 => ?_) (fun c18 => ?_)
      · have _c := c18
        refine zv_run 3 (pc' := 31) (lo' := [some (.ref 2), some (.int k)]) (st' := [.int k, .ref 3]) (I' := I) (L' := L) (R' := zw_RC h sp la) rfl ?_
        refine zv_iald (zs_at rfl) rfl (zin c1 c18 (by decide)) ?_
        exact zv_iret (zs_at rfl) rfl ⟨Nat.le_refl _, Nat.le_refl _⟩ (zw_to (by simp [fi_num, *]) rfl rfl rfl)
      · have _c := c18
        refine zv_run 2 (pc' := 32) (lo' := [some (.ref 2), some (.int k)]) (st' := [.int (-4)]) (I' := I) (L' := L) (R' := zw_RC h sp la) rfl ?_
        exact zv_iret (zs_at rfl) rfl ⟨Nat.le_refl _, Nat.le_refl _⟩ (zw_to (by simp [fi_num, *]) rfl rfl rfl)
theorem ct_X6_isWithin {d : Nat} {I : zx_I} {L : zx_L} {h sp : Nat} {la : Option Nat} {k l m : Int32}  : zx_M0 mm_X6_isWithin (d + 1) 0 0 [.ref 2, .int k, .int l, .int m] zw_SC I L (zw_RC h sp la) (zw_ret (some (.int (fi_in I k l m))) zw_SC I L (zw_RC h sp la)) := by
  refine zv_entry gd_X6_isWithin (Nat.le_of_ble_eq_true rfl) ?_
  refine zv_run 2 (pc' := 2) (lo' := [some (.ref 2), some (.int k), some (.int l), some (.int m), none]) (st' := [.int k, .ref 2]) (I' := I) (L' := L) (R' := zw_RC h sp la) rfl ?_
  refine zv_cV (M' := mm_X6_number) (ci := 6) (a := 2) (av := [.int k]) (st := []) (r := some (.int (fi_num I k))) (I' := I) (L' := L) (R' := zw_RC h sp la) rfl zc_6_22 gd_X6_number rfl rfl rfl (Nat.le_of_ble_eq_true rfl) (ct_X6_number (d := d) (I := I)) ⟨Nat.le_refl _, Nat.le_refl _⟩ ?_
  refine zv_run 0 (pc' := 5) (lo' := [some (.ref 2), some (.int k), some (.int l), some (.int m), none]) (st' := [.int (fi_num I k)]) (I' := I) (L' := L) (R' := zw_RC h sp la) rfl ?_
  refine zv_run 3 (pc' := 10) (lo' := [some (.ref 2), some (.int k), some (.int l), some (.int m), some (.int (fi_num I k))]) (st' := [.int l, .int (fi_num I k)]) (I' := I) (L' := L) (R' := zw_RC h sp la) rfl ?_
  refine zv_icmp_lt (tgt := 23) (zs_at rfl) (by decide) (fun c10 => ?_) (fun c10 => ?_)
  · have _c := c10
    refine zv_run 1 (pc' := 24) (lo' := [some (.ref 2), some (.int k), some (.int l), some (.int m), some (.int (fi_num I k))]) (st' := [.int 0]) (I' := I) (L' := L) (R' := zw_RC h sp la) rfl ?_
    exact zv_zret (zs_at rfl) rfl (Or.inl rfl) ⟨Nat.le_refl _, Nat.le_refl _⟩ (zw_to (by simp [fi_in, *]) rfl rfl rfl)
  · have _c := c10
    refine zv_run 2 (pc' := 16) (lo' := [some (.ref 2), some (.int k), some (.int l), some (.int m), some (.int (fi_num I k))]) (st' := [.int m, .int (fi_num I k)]) (I' := I) (L' := L) (R' := zw_RC h sp la) rfl ?_
    refine zv_icmp_gt (tgt := 23) (zs_at rfl) (by decide) (fun c16 => ?_) (fun c16 => ?_)
    · have _c := c16
      refine zv_run 1 (pc' := 24) (lo' := [some (.ref 2), some (.int k), some (.int l), some (.int m), some (.int (fi_num I k))]) (st' := [.int 0]) (I' := I) (L' := L) (R' := zw_RC h sp la) rfl ?_
      exact zv_zret (zs_at rfl) rfl (Or.inl rfl) ⟨Nat.le_refl _, Nat.le_refl _⟩ (zw_to (by simp [fi_in, *]) rfl rfl rfl)
    · have _c := c16
      refine zv_run 2 (pc' := 24) (lo' := [some (.ref 2), some (.int k), some (.int l), some (.int m), some (.int (fi_num I k))]) (st' := [.int 1]) (I' := I) (L' := L) (R' := zw_RC h sp la) rfl ?_
      exact zv_zret (zs_at rfl) rfl (Or.inr rfl) ⟨Nat.le_refl _, Nat.le_refl _⟩ (zw_to (by simp [fi_in, *]) rfl rfl rfl)
theorem ct_X6_isOneWithin {d : Nat} {I : zx_I} {L : zx_L} {h sp : Nat} {la : Option Nat} {l m : Int32}  : zx_M0 mm_X6_isOneWithin (d + 2) 0 0 [.ref 2, .int l, .int m] zw_SC I L (zw_RC h sp la) (zw_ret (some (.int (fi_one I l m))) zw_SC I L (zw_RC h sp la)) := by
  refine zv_entry gd_X6_isOneWithin (Nat.le_of_ble_eq_true rfl) ?_
  refine zv_run 3 (pc' := 5) (lo' := [some (.ref 2), some (.int l), some (.int m)]) (st' := [.int 1, .int (I 2 2)]) (I' := I) (L' := L) (R' := zw_RC h sp la) rfl ?_
  refine zv_icmp_ne (tgt := 22) (zs_at rfl) (by decide) (fun c5 => ?_) (fun c5 => ?_)
  · have _c := c5
    refine zv_run 1 (pc' := 23) (lo' := [some (.ref 2), some (.int l), some (.int m)]) (st' := [.int 0]) (I' := I) (L' := L) (R' := zw_RC h sp la) rfl ?_
    exact zv_zret (zs_at rfl) rfl (Or.inl rfl) ⟨Nat.le_refl _, Nat.le_refl _⟩ (zw_to (by simp [fi_one, *]) rfl rfl rfl)
  · have _c := c5
    refine zv_run 4 (pc' := 12) (lo' := [some (.ref 2), some (.int l), some (.int m)]) (st' := [.int m, .int l, .int 0, .ref 2]) (I' := I) (L' := L) (R' := zw_RC h sp la) rfl ?_
    refine zv_cV (M' := mm_X6_isWithin) (ci := 6) (a := 2) (av := [.int 0, .int l, .int m]) (st := []) (r := some (.int (fi_in I 0 l m))) (I' := I) (L' := L) (R' := zw_RC h sp la) rfl zc_6_26 gd_X6_isWithin rfl rfl rfl (Nat.le_of_ble_eq_true rfl) (ct_X6_isWithin (d := d)) ⟨Nat.le_refl _, Nat.le_refl _⟩ ?_
    refine zv_run 0 (pc' := 15) (lo' := [some (.ref 2), some (.int l), some (.int m)]) (st' := [.int (fi_in I 0 l m)]) (I' := I) (L' := L) (R' := zw_RC h sp la) rfl ?_
    refine zv_if_eq (tgt := 22) (zs_at rfl) (by decide) (fun c15 => ?_) (fun c15 => ?_)
    · have _c := c15
      refine zv_run 1 (pc' := 23) (lo' := [some (.ref 2), some (.int l), some (.int m)]) (st' := [.int 0]) (I' := I) (L' := L) (R' := zw_RC h sp la) rfl ?_
      exact zv_zret (zs_at rfl) rfl (Or.inl rfl) ⟨Nat.le_refl _, Nat.le_refl _⟩ (zw_to (by simp [fi_one, *]) rfl rfl rfl)
    · have _c := c15
      refine zv_run 2 (pc' := 23) (lo' := [some (.ref 2), some (.int l), some (.int m)]) (st' := [.int 1]) (I' := I) (L' := L) (R' := zw_RC h sp la) rfl ?_
      exact zv_zret (zs_at rfl) rfl (Or.inr rfl) ⟨Nat.le_refl _, Nat.le_refl _⟩ (zw_to (by simp [fi_one, *]) rfl rfl rfl)
theorem ct_X6_isPairOf {d : Nat} {I : zx_I} {L : zx_L} {h sp : Nat} {la : Option Nat} {n : Int32}  : zx_M0 mm_X6_isPairOf (d + 2) 0 0 [.ref 2, .int n] zw_SC I L (zw_RC h sp la) (zw_ret (some (.int (fi_pair I n))) zw_SC I L (zw_RC h sp la)) := by
  refine zv_entry gd_X6_isPairOf (Nat.le_of_ble_eq_true rfl) ?_
  refine zv_run 3 (pc' := 5) (lo' := [some (.ref 2), some (.int n)]) (st' := [.int 2, .int (I 2 2)]) (I' := I) (L' := L) (R' := zw_RC h sp la) rfl ?_
  refine zv_icmp_ne (tgt := 49) (zs_at rfl) (by decide) (fun c5 => ?_) (fun c5 => ?_)
  · have _c := c5
    refine zv_run 1 (pc' := 50) (lo' := [some (.ref 2), some (.int n)]) (st' := [.int 0]) (I' := I) (L' := L) (R' := zw_RC h sp la) rfl ?_
    exact zv_zret (zs_at rfl) rfl (Or.inl rfl) ⟨Nat.le_refl _, Nat.le_refl _⟩ (zw_to (by simp [fi_pair, *]) rfl rfl rfl)
  · have _c := c5
    refine zv_run 6 (pc' := 14) (lo' := [some (.ref 2), some (.int n)]) (st' := [.int (n - 1), .int 0, .int 0, .ref 2]) (I' := I) (L' := L) (R' := zw_RC h sp la) rfl ?_
    refine zv_cV (M' := mm_X6_isWithin) (ci := 6) (a := 2) (av := [.int 0, .int 0, .int (n - 1)]) (st := []) (r := some (.int (fi_in I 0 0 (n - 1)))) (I' := I) (L' := L) (R' := zw_RC h sp la) rfl zc_6_26 gd_X6_isWithin rfl rfl rfl (Nat.le_of_ble_eq_true rfl) (ct_X6_isWithin (d := d)) ⟨Nat.le_refl _, Nat.le_refl _⟩ ?_
    refine zv_run 0 (pc' := 17) (lo' := [some (.ref 2), some (.int n)]) (st' := [.int (fi_in I 0 0 (n - 1))]) (I' := I) (L' := L) (R' := zw_RC h sp la) rfl ?_
    refine zv_if_eq (tgt := 49) (zs_at rfl) (by decide) (fun c17 => ?_) (fun c17 => ?_)
    · have _c := c17
      refine zv_run 1 (pc' := 50) (lo' := [some (.ref 2), some (.int n)]) (st' := [.int 0]) (I' := I) (L' := L) (R' := zw_RC h sp la) rfl ?_
      exact zv_zret (zs_at rfl) rfl (Or.inl rfl) ⟨Nat.le_refl _, Nat.le_refl _⟩ (zw_to (by simp [fi_pair, *]) rfl rfl rfl)
    · have _c := c17
      refine zv_run 6 (pc' := 26) (lo' := [some (.ref 2), some (.int n)]) (st' := [.int (n - 1), .int 0, .int 1, .ref 2]) (I' := I) (L' := L) (R' := zw_RC h sp la) rfl ?_
      refine zv_cV (M' := mm_X6_isWithin) (ci := 6) (a := 2) (av := [.int 1, .int 0, .int (n - 1)]) (st := []) (r := some (.int (fi_in I 1 0 (n - 1)))) (I' := I) (L' := L) (R' := zw_RC h sp la) rfl zc_6_26 gd_X6_isWithin rfl rfl rfl (Nat.le_of_ble_eq_true rfl) (ct_X6_isWithin (d := d)) ⟨Nat.le_refl _, Nat.le_refl _⟩ ?_
      refine zv_run 0 (pc' := 29) (lo' := [some (.ref 2), some (.int n)]) (st' := [.int (fi_in I 1 0 (n - 1))]) (I' := I) (L' := L) (R' := zw_RC h sp la) rfl ?_
      refine zv_if_eq (tgt := 49) (zs_at rfl) (by decide) (fun c29 => ?_) (fun c29 => ?_)
      · have _c := c29
        refine zv_run 1 (pc' := 50) (lo' := [some (.ref 2), some (.int n)]) (st' := [.int 0]) (I' := I) (L' := L) (R' := zw_RC h sp la) rfl ?_
        exact zv_zret (zs_at rfl) rfl (Or.inl rfl) ⟨Nat.le_refl _, Nat.le_refl _⟩ (zw_to (by simp [fi_pair, *]) rfl rfl rfl)
      · have _c := c29
        refine zv_run 2 (pc' := 34) (lo' := [some (.ref 2), some (.int n)]) (st' := [.int 0, .ref 2]) (I' := I) (L' := L) (R' := zw_RC h sp la) rfl ?_
        refine zv_cV (M' := mm_X6_number) (ci := 6) (a := 2) (av := [.int 0]) (st := []) (r := some (.int (fi_num I 0))) (I' := I) (L' := L) (R' := zw_RC h sp la) rfl zc_6_22 gd_X6_number rfl rfl rfl (Nat.le_of_ble_eq_true rfl) (ct_X6_number (d := _) (I := I)) ⟨Nat.le_refl _, Nat.le_refl _⟩ ?_
        refine zv_run 0 (pc' := 37) (lo' := [some (.ref 2), some (.int n)]) (st' := [.int (fi_num I 0)]) (I' := I) (L' := L) (R' := zw_RC h sp la) rfl ?_
        refine zv_run 2 (pc' := 39) (lo' := [some (.ref 2), some (.int n)]) (st' := [.int 1, .ref 2, .int (fi_num I 0)]) (I' := I) (L' := L) (R' := zw_RC h sp la) rfl ?_
        refine zv_cV (M' := mm_X6_number) (ci := 6) (a := 2) (av := [.int 1]) (st := [.int (fi_num I 0)]) (r := some (.int (fi_num I 1))) (I' := I) (L' := L) (R' := zw_RC h sp la) rfl zc_6_22 gd_X6_number rfl rfl rfl (Nat.le_of_ble_eq_true rfl) (ct_X6_number (d := _) (I := I)) ⟨Nat.le_refl _, Nat.le_refl _⟩ ?_
        refine zv_run 0 (pc' := 42) (lo' := [some (.ref 2), some (.int n)]) (st' := [.int (fi_num I 1), .int (fi_num I 0)]) (I' := I) (L' := L) (R' := zw_RC h sp la) rfl ?_
        refine zv_icmp_eq (tgt := 49) (zs_at rfl) (by decide) (fun c42 => ?_) (fun c42 => ?_)
        · have _c := c42
          refine zv_run 1 (pc' := 50) (lo' := [some (.ref 2), some (.int n)]) (st' := [.int 0]) (I' := I) (L' := L) (R' := zw_RC h sp la) rfl ?_
          exact zv_zret (zs_at rfl) rfl (Or.inl rfl) ⟨Nat.le_refl _, Nat.le_refl _⟩ (zw_to (by simp [fi_pair, *]) rfl rfl rfl)
        · have _c := c42
          refine zv_run 2 (pc' := 50) (lo' := [some (.ref 2), some (.int n)]) (st' := [.int 1]) (I' := I) (L' := L) (R' := zw_RC h sp la) rfl ?_
          exact zv_zret (zs_at rfl) rfl (Or.inr rfl) ⟨Nat.le_refl _, Nat.le_refl _⟩ (zw_to (by simp [fi_pair, *]) rfl rfl rfl)
end
section
/-! the houses -/
theorem rc_7 {h sp : Nat} {la : Option Nat} {j : Nat} (hj : j < 6) : zw_RC h sp la 7 j = some (8 + j) := by
  match j, hj with
  | 0, _ => rfl
  | 1, _ => rfl
  | 2, _ => rfl
  | 3, _ => rfl
  | 4, _ => rfl
  | 5, _ => rfl
  | n + 6, h => exact absurd h (by omega)
theorem rc_17 {h sp : Nat} {la : Option Nat} {j : Nat} (hj : j < 6) : zw_RC h sp la 17 j = some (18 + j) := by
  match j, hj with
  | 0, _ => rfl
  | 1, _ => rfl
  | 2, _ => rfl
  | 3, _ => rfl
  | 4, _ => rfl
  | 5, _ => rfl
  | n + 6, h => exact absurd h (by omega)
theorem zcl {x : Int32} {n : Nat} (h0 : ¬ x < 0) (h1 : x < nI n) (hn : n < 2 ^ 31) : x.toNatClampNeg < n := by
  obtain ⟨j, hj, rfl⟩ := nI_of h0
  rw [nI_clamp hj]
  exact (nI_ltI hj hn).mp h1
def fh_who (I : zx_I) (a : Nat) (i : Int32) : Option Nat := if i < 0 then none else if i ≥ I a 13 then none else if i < 6 then some (a + 4 + i.toNatClampNeg) else none
theorem fh_who_bt {I : zx_I} {a w : Nat} {i : Int32} (ha : a = 4 ∨ a = 14) (h : fh_who I a i = some w) : bt w ∧ ¬ i < 0 ∧ i < I a 13 ∧ i < 6 ∧ w = a + 4 + i.toNatClampNeg := by
  unfold fh_who at h
  split at h
  · cases h
  · rename_i h0
    split at h
    · cases h
    · rename_i h1
      split at h
      · rename_i h2
        cases h
        have := zcl h0 (show i < nI 6 from h2) (by decide)
        refine ⟨?_, h0, zge h1, h2, rfl⟩
        unfold bt
        rcases ha with rfl | rfl <;> omega
      · cases h
def hc_loop (b : Nat) : Nat → Nat → zx_I → zx_I
  | 0, _, J => J
  | n + 1, j, J => hc_loop b n (j + 1) (zx_uI J (b + j) 9 (J (b + j) 5))
def fh_told (I : zx_I) (a : Nat) : zx_I := hc_loop (a + 4) 6 0 I
def hsc_loop (I : zx_I) (b : Nat) : Nat → Nat → Int32 → Int32 → Int32
  | 0, _, l, m => 100 * l + m
  | n + 1, j, l, m => hsc_loop I b n (j + 1) (if I (b + j) 11 = -4 then l + 1 else if I (b + j) 11 ≤ I (b + j) 6 then l else l + 1) (if m < (if I (b + j) 11 = -4 then 99 else I (b + j) 11) then (if I (b + j) 11 = -4 then 99 else I (b + j) 11) else m)
def fh_score (I : zx_I) (a : Nat) : Int32 := hsc_loop I (a + 4) (I a 13).toInt.toNat 0 0 0
theorem ct_X5_who {d : Nat} {I : zx_I} {L : zx_L} {h sp : Nat} {la : Option Nat} {a : Nat} {i : Int32} (ha : a = 4 ∨ a = 14) : zx_M0 mm_X5_who (d + 0) 0 0 [.ref a, .int i] zw_SC I L (zw_RC h sp la) (zw_ret (some (va_rf (fh_who I a i))) zw_SC I L (zw_RC h sp la)) := by
  rcases ha with rfl | rfl
  · refine zv_entry gd_X5_who (Nat.le_of_ble_eq_true rfl) ?_
    refine zv_run 1 (pc' := 1) (lo' := [some (.ref 4), some (.int i)]) (st' := [.int i]) (I' := I) (L' := L) (R' := zw_RC h sp la) rfl ?_
    refine zv_if_lt (tgt := 21) (zs_at rfl) (by decide) (fun c1 => ?_) (fun c1 => ?_)
    · have _c := c1
      refine zv_run 2 (pc' := 31) (lo' := [some (.ref 4), some (.int i)]) (st' := [.null]) (I' := I) (L' := L) (R' := zw_RC h sp la) rfl ?_
      exact zv_aret (r := none) (zs_at rfl) rfl ⟨Nat.le_refl _, Nat.le_refl _⟩ (zw_to (by simp [fh_who, va_rf, *]) rfl rfl rfl)
    · have _c := c1
      refine zv_run 3 (pc' := 9) (lo' := [some (.ref 4), some (.int i)]) (st' := [.int (I 4 13), .int i]) (I' := I) (L' := L) (R' := zw_RC h sp la) rfl ?_
      refine zv_icmp_ge (tgt := 21) (zs_at rfl) (by decide) (fun c9 => ?_) (fun c9 => ?_)
      · have _c := c9
        refine zv_run 2 (pc' := 31) (lo' := [some (.ref 4), some (.int i)]) (st' := [.null]) (I' := I) (L' := L) (R' := zw_RC h sp la) rfl ?_
        exact zv_aret (r := none) (zs_at rfl) rfl ⟨Nat.le_refl _, Nat.le_refl _⟩ (zw_to (by simp [fh_who, va_rf, *]) rfl rfl rfl)
      · have _c := c9
        refine zv_run 4 (pc' := 18) (lo' := [some (.ref 4), some (.int i)]) (st' := [.int 6, .int i]) (I' := I) (L' := L) (R' := zw_RC h sp la) rfl ?_
        refine zv_icmp_lt (tgt := 25) (zs_at rfl) (by decide) (fun c18 => ?_) (fun c18 => ?_)
        · have _c := c18
          refine zv_run 3 (pc' := 30) (lo' := [some (.ref 4), some (.int i)]) (st' := [.int i, .ref 7]) (I' := I) (L' := L) (R' := zw_RC h sp la) rfl ?_
          refine zv_aald (zs_at rfl) rfl (Or.inl rfl) (zin c1 c18 (by decide)) ?_
          exact zv_aret (r := zw_RC h sp la 7 i.toNatClampNeg) (zs_at rfl) rfl ⟨Nat.le_refl _, Nat.le_refl _⟩ (zw_to (by rw [rc_7 (zcl c1 (show i < nI 6 from c18) (by decide))]; unfold fh_who; rw [if_neg c1, if_neg c9, if_pos c18]) rfl rfl rfl)
        · have _c := c18
          refine zv_run 2 (pc' := 31) (lo' := [some (.ref 4), some (.int i)]) (st' := [.null]) (I' := I) (L' := L) (R' := zw_RC h sp la) rfl ?_
          exact zv_aret (r := none) (zs_at rfl) rfl ⟨Nat.le_refl _, Nat.le_refl _⟩ (zw_to (by simp [fh_who, va_rf, *]) rfl rfl rfl)
  · refine zv_entry gd_X5_who (Nat.le_of_ble_eq_true rfl) ?_
    refine zv_run 1 (pc' := 1) (lo' := [some (.ref 14), some (.int i)]) (st' := [.int i]) (I' := I) (L' := L) (R' := zw_RC h sp la) rfl ?_
    refine zv_if_lt (tgt := 21) (zs_at rfl) (by decide) (fun c1 => ?_) (fun c1 => ?_)
    · have _c := c1
      refine zv_run 2 (pc' := 31) (lo' := [some (.ref 14), some (.int i)]) (st' := [.null]) (I' := I) (L' := L) (R' := zw_RC h sp la) rfl ?_
      exact zv_aret (r := none) (zs_at rfl) rfl ⟨Nat.le_refl _, Nat.le_refl _⟩ (zw_to (by simp [fh_who, va_rf, *]) rfl rfl rfl)
    · have _c := c1
      refine zv_run 3 (pc' := 9) (lo' := [some (.ref 14), some (.int i)]) (st' := [.int (I 14 13), .int i]) (I' := I) (L' := L) (R' := zw_RC h sp la) rfl ?_
      refine zv_icmp_ge (tgt := 21) (zs_at rfl) (by decide) (fun c9 => ?_) (fun c9 => ?_)
      · have _c := c9
        refine zv_run 2 (pc' := 31) (lo' := [some (.ref 14), some (.int i)]) (st' := [.null]) (I' := I) (L' := L) (R' := zw_RC h sp la) rfl ?_
        exact zv_aret (r := none) (zs_at rfl) rfl ⟨Nat.le_refl _, Nat.le_refl _⟩ (zw_to (by simp [fh_who, va_rf, *]) rfl rfl rfl)
      · have _c := c9
        refine zv_run 4 (pc' := 18) (lo' := [some (.ref 14), some (.int i)]) (st' := [.int 6, .int i]) (I' := I) (L' := L) (R' := zw_RC h sp la) rfl ?_
        refine zv_icmp_lt (tgt := 25) (zs_at rfl) (by decide) (fun c18 => ?_) (fun c18 => ?_)
        · have _c := c18
          refine zv_run 3 (pc' := 30) (lo' := [some (.ref 14), some (.int i)]) (st' := [.int i, .ref 17]) (I' := I) (L' := L) (R' := zw_RC h sp la) rfl ?_
          refine zv_aald (zs_at rfl) rfl (Or.inl rfl) (zin c1 c18 (by decide)) ?_
          exact zv_aret (r := zw_RC h sp la 17 i.toNatClampNeg) (zs_at rfl) rfl ⟨Nat.le_refl _, Nat.le_refl _⟩ (zw_to (by rw [rc_17 (zcl c1 (show i < nI 6 from c18) (by decide))]; unfold fh_who; rw [if_neg c1, if_neg c9, if_pos c18]) rfl rfl rfl)
        · have _c := c18
          refine zv_run 2 (pc' := 31) (lo' := [some (.ref 14), some (.int i)]) (st' := [.null]) (I' := I) (L' := L) (R' := zw_RC h sp la) rfl ?_
          exact zv_aret (r := none) (zs_at rfl) rfl ⟨Nat.le_refl _, Nat.le_refl _⟩ (zw_to (by simp [fh_who, va_rf, *]) rfl rfl rfl)
theorem lp_X5_told_4 {d : Nat} {L : zx_L} {h sp : Nat} {la : Option Nat}  : ∀ (n j : Nat) (J : zx_I) (x4 : Option Value), j + n = 6 → zx_V mm_X5_allComeAsTold (d + 0) z0 (zw_ret none zw_SC (hc_loop 8 n j J) L (zw_RC h sp la)) zw_SC 10 [some (.ref 4), some (.ref 7), some (.int 6), some (.int (nI j)), x4] [] J L (zw_RC h sp la) := by
  intro n
  induction n with
  | zero =>
    intro j J x4 hm
    refine zv_run 2 (pc' := 12) (lo' := [some (.ref 4), some (.ref 7), some (.int 6), some (.int (nI j)), x4]) (st' := [.int 6, .int (nI j)]) (I' := J) (L' := L) (R' := zw_RC h sp la) rfl ?_
    refine zv_icmp_ge (tgt := 36) (zs_at rfl) (by decide) (fun c12 => ?_) (fun c12 => ?_)
    · have _c := c12
      exact zv_vret (zs_at rfl) rfl ⟨Nat.le_refl _, Nat.le_refl _⟩ (zw_to rfl rfl rfl rfl)
    · exact absurd (by rw [show j = 6 by omega]; exact (by decide)) c12
  | succ n ih =>
    intro j J x4 hm
    refine zv_run 2 (pc' := 12) (lo' := [some (.ref 4), some (.ref 7), some (.int 6), some (.int (nI j)), x4]) (st' := [.int 6, .int (nI j)]) (I' := J) (L' := L) (R' := zw_RC h sp la) rfl ?_
    refine zv_icmp_ge (tgt := 36) (zs_at rfl) (by decide) (fun c12 => ?_) (fun c12 => ?_)
    · exact absurd c12 (by exact nI_ge (a := j) (b := 6) (by omega) (by decide))
    · have _c := c12
      refine zv_run 2 (pc' := 17) (lo' := [some (.ref 4), some (.ref 7), some (.int 6), some (.int (nI j)), x4]) (st' := [.int (nI j), .ref 7]) (I' := J) (L' := L) (R' := zw_RC h sp la) rfl ?_
      refine zv_aald (zs_at rfl) rfl (Or.inl rfl) (vp_in_nI (by omega) (by decide)) ?_
      refine zv_run 0 (pc' := 18) (lo' := [some (.ref 4), some (.ref 7), some (.int 6), some (.int (nI j)), x4]) (st' := [.ref (8 + j)]) (I' := J) (L' := L) (R' := zw_RC h sp la) (by rw [nI_clamp (by omega), rc_7 (by omega)]; rfl) ?_
      refine zv_run 3 (pc' := 24) (lo' := [some (.ref 4), some (.ref 7), some (.int 6), some (.int (nI j)), some (.ref (8 + j))]) (st' := [.ref (8 + j), .ref (8 + j)]) (I' := J) (L' := L) (R' := zw_RC h sp la) rfl ?_
      refine zv_get (ci := 2) (k := 5) (t := 0) (zs_at rfl) (zf_ok rfl) (bt_S (by unfold bt; omega)) rfl ?_
      refine zv_run 0 (pc' := 27) (lo' := [some (.ref 4), some (.ref 7), some (.int 6), some (.int (nI j)), some (.ref (8 + j))]) (st' := [.int (J (8 + j) 5), .ref (8 + j)]) (I' := J) (L' := L) (R' := zw_RC h sp la) rfl ?_
      refine zs_putI (ci := 2) (k := 9) (zs_at rfl) (zf_ok rfl) (bt_S (by unfold bt; omega)) (Or.inl rfl) rfl (fun q => absurd q (by decide)) ?_
      refine zv_run 2 (pc' := 10) (lo' := [some (.ref 4), some (.ref 7), some (.int 6), some (.int ((nI j) + 1)), some (.ref (8 + j))]) (st' := []) (I' := (zx_uI J (8 + j) 9 (J (8 + j) 5))) (L' := L) (R' := zw_RC h sp la) rfl ?_
      rw [← nI_succ]
      exact ih (j + 1) _ _ (by omega)
theorem lp_X5_told_14 {d : Nat} {L : zx_L} {h sp : Nat} {la : Option Nat}  : ∀ (n j : Nat) (J : zx_I) (x4 : Option Value), j + n = 6 → zx_V mm_X5_allComeAsTold (d + 0) z0 (zw_ret none zw_SC (hc_loop 18 n j J) L (zw_RC h sp la)) zw_SC 10 [some (.ref 14), some (.ref 17), some (.int 6), some (.int (nI j)), x4] [] J L (zw_RC h sp la) := by
  intro n
  induction n with
  | zero =>
    intro j J x4 hm
    refine zv_run 2 (pc' := 12) (lo' := [some (.ref 14), some (.ref 17), some (.int 6), some (.int (nI j)), x4]) (st' := [.int 6, .int (nI j)]) (I' := J) (L' := L) (R' := zw_RC h sp la) rfl ?_
    refine zv_icmp_ge (tgt := 36) (zs_at rfl) (by decide) (fun c12 => ?_) (fun c12 => ?_)
    · have _c := c12
      exact zv_vret (zs_at rfl) rfl ⟨Nat.le_refl _, Nat.le_refl _⟩ (zw_to rfl rfl rfl rfl)
    · exact absurd (by rw [show j = 6 by omega]; exact (by decide)) c12
  | succ n ih =>
    intro j J x4 hm
    refine zv_run 2 (pc' := 12) (lo' := [some (.ref 14), some (.ref 17), some (.int 6), some (.int (nI j)), x4]) (st' := [.int 6, .int (nI j)]) (I' := J) (L' := L) (R' := zw_RC h sp la) rfl ?_
    refine zv_icmp_ge (tgt := 36) (zs_at rfl) (by decide) (fun c12 => ?_) (fun c12 => ?_)
    · exact absurd c12 (by exact nI_ge (a := j) (b := 6) (by omega) (by decide))
    · have _c := c12
      refine zv_run 2 (pc' := 17) (lo' := [some (.ref 14), some (.ref 17), some (.int 6), some (.int (nI j)), x4]) (st' := [.int (nI j), .ref 17]) (I' := J) (L' := L) (R' := zw_RC h sp la) rfl ?_
      refine zv_aald (zs_at rfl) rfl (Or.inl rfl) (vp_in_nI (by omega) (by decide)) ?_
      refine zv_run 0 (pc' := 18) (lo' := [some (.ref 14), some (.ref 17), some (.int 6), some (.int (nI j)), x4]) (st' := [.ref (18 + j)]) (I' := J) (L' := L) (R' := zw_RC h sp la) (by rw [nI_clamp (by omega), rc_17 (by omega)]; rfl) ?_
      refine zv_run 3 (pc' := 24) (lo' := [some (.ref 14), some (.ref 17), some (.int 6), some (.int (nI j)), some (.ref (18 + j))]) (st' := [.ref (18 + j), .ref (18 + j)]) (I' := J) (L' := L) (R' := zw_RC h sp la) rfl ?_
      refine zv_get (ci := 2) (k := 5) (t := 0) (zs_at rfl) (zf_ok rfl) (bt_S (by unfold bt; omega)) rfl ?_
      refine zv_run 0 (pc' := 27) (lo' := [some (.ref 14), some (.ref 17), some (.int 6), some (.int (nI j)), some (.ref (18 + j))]) (st' := [.int (J (18 + j) 5), .ref (18 + j)]) (I' := J) (L' := L) (R' := zw_RC h sp la) rfl ?_
      refine zs_putI (ci := 2) (k := 9) (zs_at rfl) (zf_ok rfl) (bt_S (by unfold bt; omega)) (Or.inl rfl) rfl (fun q => absurd q (by decide)) ?_
      refine zv_run 2 (pc' := 10) (lo' := [some (.ref 14), some (.ref 17), some (.int 6), some (.int ((nI j) + 1)), some (.ref (18 + j))]) (st' := []) (I' := (zx_uI J (18 + j) 9 (J (18 + j) 5))) (L' := L) (R' := zw_RC h sp la) rfl ?_
      rw [← nI_succ]
      exact ih (j + 1) _ _ (by omega)
theorem ct_X5_allComeAsTold {d : Nat} {I : zx_I} {L : zx_L} {h sp : Nat} {la : Option Nat} {a : Nat}  (ha : a = 4 ∨ a = 14)  : zx_M0 mm_X5_allComeAsTold (d + 0) 0 0 [.ref a] zw_SC I L (zw_RC h sp la) (zw_ret (none) zw_SC (fh_told I a) L (zw_RC h sp la)) := by
  rcases ha with rfl | rfl
  · refine zv_entry gd_X5_allComeAsTold (Nat.le_of_ble_eq_true rfl) ?_
    refine zv_run 8 (pc' := 10) (lo' := [some (.ref 4), some (.ref 7), some (.int 6), some (.int 0), none]) (st' := []) (I' := I) (L' := L) (R' := zw_RC h sp la) rfl ?_
    exact lp_X5_told_4 6 0 I none (by omega)
  · refine zv_entry gd_X5_allComeAsTold (Nat.le_of_ble_eq_true rfl) ?_
    refine zv_run 8 (pc' := 10) (lo' := [some (.ref 14), some (.ref 17), some (.int 6), some (.int 0), none]) (st' := []) (I' := I) (L' := L) (R' := zw_RC h sp la) rfl ?_
    exact lp_X5_told_14 6 0 I none (by omega)
theorem lp_X5_score_4 {d : Nat} {I : zx_I} {L : zx_L} {h sp : Nat} {la : Option Nat} {m : Nat} (hm : I 4 13 = nI m) (hm6 : m ≤ 6) : ∀ (n j : Nat) (l mx : Int32) (x4 : Option Value), j + n = m → zx_V mm_X5_scoreOfEvening (d + 1) z0 (zw_ret (some (.int (hsc_loop I 8 n j l mx))) zw_SC I L (zw_RC h sp la)) zw_SC 6 [some (.ref 4), some (.int l), some (.int mx), some (.int (nI j)), x4] [] I L (zw_RC h sp la) := by
  intro n
  induction n with
  | zero =>
    intro j l mx x4 hj
    refine zv_run 3 (pc' := 11) (lo' := [some (.ref 4), some (.int l), some (.int mx), some (.int (nI j)), x4]) (st' := [.int (I 4 13), .int (nI j)]) (I' := I) (L' := L) (R' := zw_RC h sp la) rfl ?_
    refine zv_icmp_ge (tgt := 83) (zs_at rfl) (by decide) (fun c11 => ?_) (fun c11 => ?_)
    · have _c := c11
      refine zv_run 5 (pc' := 89) (lo' := [some (.ref 4), some (.int l), some (.int mx), some (.int (nI j)), x4]) (st' := [.int ((100 * l) + mx)]) (I' := I) (L' := L) (R' := zw_RC h sp la) rfl ?_
      exact zv_iret (zs_at rfl) rfl ⟨Nat.le_refl _, Nat.le_refl _⟩ (zw_to rfl rfl rfl rfl)
    · exact absurd (by rw [hm]; exact nI_le (by omega) (by omega)) c11
  | succ n ih =>
    intro j l mx x4 hj
    refine zv_run 3 (pc' := 11) (lo' := [some (.ref 4), some (.int l), some (.int mx), some (.int (nI j)), x4]) (st' := [.int (I 4 13), .int (nI j)]) (I' := I) (L' := L) (R' := zw_RC h sp la) rfl ?_
    refine zv_icmp_ge (tgt := 83) (zs_at rfl) (by decide) (fun c11 => ?_) (fun c11 => ?_)
    · exact absurd c11 (by rw [hm]; exact nI_ge (by omega) (by omega))
    · have _c := c11
      refine zv_run 4 (pc' := 20) (lo' := [some (.ref 4), some (.int l), some (.int mx), some (.int (nI j)), x4]) (st' := [.int 6, .int (nI j)]) (I' := I) (L' := L) (R' := zw_RC h sp la) rfl ?_
      refine zv_icmp_ge (tgt := 83) (zs_at rfl) (by decide) (fun c20 => ?_) (fun c20 => ?_)
      · exact absurd c20 (by exact nI_ge (a := j) (b := 6) (by omega) (by decide))
      · have _c := c20
        refine zv_run 3 (pc' := 28) (lo' := [some (.ref 4), some (.int l), some (.int mx), some (.int (nI j)), x4]) (st' := [.int (nI j), .ref 7]) (I' := I) (L' := L) (R' := zw_RC h sp la) rfl ?_
        refine zv_aald (zs_at rfl) rfl (Or.inl rfl) (vp_in_nI (by omega) (by decide)) ?_
        refine zv_run 0 (pc' := 29) (lo' := [some (.ref 4), some (.int l), some (.int mx), some (.int (nI j)), x4]) (st' := [.ref (8 + j)]) (I' := I) (L' := L) (R' := zw_RC h sp la) (by rw [nI_clamp (by omega), rc_7 (by omega)]; rfl) ?_
        refine zv_get (ci := 2) (k := 11) (t := 0) (zs_at rfl) (zf_ok rfl) (bt_S (by unfold bt; omega)) rfl ?_
        refine zv_run 0 (pc' := 32) (lo' := [some (.ref 4), some (.int l), some (.int mx), some (.int (nI j)), x4]) (st' := [.int (I (8 + j) 11)]) (I' := I) (L' := L) (R' := zw_RC h sp la) rfl ?_
        refine zv_run 3 (pc' := 38) (lo' := [some (.ref 4), some (.int l), some (.int mx), some (.int (nI j)), some (.int (I (8 + j) 11))]) (st' := [.int (-4), .int (I (8 + j) 11)]) (I' := I) (L' := L) (R' := zw_RC h sp la) rfl ?_
        refine zv_icmp_eq (tgt := 55) (zs_at rfl) (by decide) (fun c38 => ?_) (fun c38 => ?_)
        · have _c := c38
          refine zv_run 4 (pc' := 63) (lo' := [some (.ref 4), some (.int (l + 1)), some (.int mx), some (.int (nI j)), some (.int (I (8 + j) 11))]) (st' := [.int (-4), .int (I (8 + j) 11), .int mx]) (I' := I) (L' := L) (R' := zw_RC h sp la) rfl ?_
          refine zv_icmp_ne (tgt := 71) (zs_at rfl) (by decide) (fun c63 => ?_) (fun c63 => ?_)
          · have _c := c63
            refine zv_run 1 (pc' := 73) (lo' := [some (.ref 4), some (.int (l + 1)), some (.int mx), some (.int (nI j)), some (.int (I (8 + j) 11))]) (st' := [.int (I (8 + j) 11), .int mx]) (I' := I) (L' := L) (R' := zw_RC h sp la) rfl ?_
            refine zv_max rfl zm_5_156 (Nat.le_of_ble_eq_true rfl) ⟨Nat.le_refl _, Nat.le_refl _⟩ ?_
            refine zv_run 3 (pc' := 6) (lo' := [some (.ref 4), some (.int (l + 1)), some (.int (if mx < (I (8 + j) 11) then (I (8 + j) 11) else mx)), some (.int ((nI j) + 1)), some (.int (I (8 + j) 11))]) (st' := []) (I' := I) (L' := L) (R' := zw_RC h sp la) rfl ?_
            rw [show hsc_loop I 8 (n + 1) j l mx = hsc_loop I 8 n (j + 1) (l + 1) (if mx < (I (8 + j) 11) then (I (8 + j) 11) else mx) from by first | exact absurd c38 c63 | exact absurd c63 c38 | (simp only [hsc_loop]; simp [*]), ← nI_succ]
            exact ih (j + 1) _ _ _ (by omega)
          · have _c := c63
            refine zv_run 2 (pc' := 73) (lo' := [some (.ref 4), some (.int (l + 1)), some (.int mx), some (.int (nI j)), some (.int (I (8 + j) 11))]) (st' := [.int 99, .int mx]) (I' := I) (L' := L) (R' := zw_RC h sp la) rfl ?_
            refine zv_max rfl zm_5_156 (Nat.le_of_ble_eq_true rfl) ⟨Nat.le_refl _, Nat.le_refl _⟩ ?_
            refine zv_run 3 (pc' := 6) (lo' := [some (.ref 4), some (.int (l + 1)), some (.int (if mx < 99 then 99 else mx)), some (.int ((nI j) + 1)), some (.int (I (8 + j) 11))]) (st' := []) (I' := I) (L' := L) (R' := zw_RC h sp la) rfl ?_
            rw [show hsc_loop I 8 (n + 1) j l mx = hsc_loop I 8 n (j + 1) (l + 1) (if mx < 99 then 99 else mx) from by first | exact absurd c38 c63 | exact absurd c63 c38 | (simp only [hsc_loop]; simp [*]), ← nI_succ]
            exact ih (j + 1) _ _ _ (by omega)
        · have _c := c38
          refine zv_run 4 (pc' := 48) (lo' := [some (.ref 4), some (.int l), some (.int mx), some (.int (nI j)), some (.int (I (8 + j) 11))]) (st' := [.int (nI j), .ref 7, .int (I (8 + j) 11)]) (I' := I) (L' := L) (R' := zw_RC h sp la) rfl ?_
          refine zv_aald (zs_at rfl) rfl (Or.inl rfl) (vp_in_nI (by omega) (by decide)) ?_
          refine zv_run 0 (pc' := 49) (lo' := [some (.ref 4), some (.int l), some (.int mx), some (.int (nI j)), some (.int (I (8 + j) 11))]) (st' := [.ref (8 + j), .int (I (8 + j) 11)]) (I' := I) (L' := L) (R' := zw_RC h sp la) (by rw [nI_clamp (by omega), rc_7 (by omega)]; rfl) ?_
          refine zv_get (ci := 2) (k := 6) (t := 0) (zs_at rfl) (zf_ok rfl) (bt_S (by unfold bt; omega)) rfl ?_
          refine zv_run 0 (pc' := 52) (lo' := [some (.ref 4), some (.int l), some (.int mx), some (.int (nI j)), some (.int (I (8 + j) 11))]) (st' := [.int (I (8 + j) 6), .int (I (8 + j) 11)]) (I' := I) (L' := L) (R' := zw_RC h sp la) rfl ?_
          refine zv_icmp_le (tgt := 58) (zs_at rfl) (by decide) (fun c52 => ?_) (fun c52 => ?_)
          · have _c := c52
            refine zv_run 3 (pc' := 63) (lo' := [some (.ref 4), some (.int l), some (.int mx), some (.int (nI j)), some (.int (I (8 + j) 11))]) (st' := [.int (-4), .int (I (8 + j) 11), .int mx]) (I' := I) (L' := L) (R' := zw_RC h sp la) rfl ?_
            refine zv_icmp_ne (tgt := 71) (zs_at rfl) (by decide) (fun c63 => ?_) (fun c63 => ?_)
            · have _c := c63
              refine zv_run 1 (pc' := 73) (lo' := [some (.ref 4), some (.int l), some (.int mx), some (.int (nI j)), some (.int (I (8 + j) 11))]) (st' := [.int (I (8 + j) 11), .int mx]) (I' := I) (L' := L) (R' := zw_RC h sp la) rfl ?_
              refine zv_max rfl zm_5_156 (Nat.le_of_ble_eq_true rfl) ⟨Nat.le_refl _, Nat.le_refl _⟩ ?_
              refine zv_run 3 (pc' := 6) (lo' := [some (.ref 4), some (.int l), some (.int (if mx < (I (8 + j) 11) then (I (8 + j) 11) else mx)), some (.int ((nI j) + 1)), some (.int (I (8 + j) 11))]) (st' := []) (I' := I) (L' := L) (R' := zw_RC h sp la) rfl ?_
              rw [show hsc_loop I 8 (n + 1) j l mx = hsc_loop I 8 n (j + 1) (l) (if mx < (I (8 + j) 11) then (I (8 + j) 11) else mx) from by first | exact absurd c38 c63 | exact absurd c63 c38 | (simp only [hsc_loop]; simp [*]), ← nI_succ]
              exact ih (j + 1) _ _ _ (by omega)
            · have _c := c63
              refine zv_run 2 (pc' := 73) (lo' := [some (.ref 4), some (.int l), some (.int mx), some (.int (nI j)), some (.int (I (8 + j) 11))]) (st' := [.int 99, .int mx]) (I' := I) (L' := L) (R' := zw_RC h sp la) rfl ?_
              refine zv_max rfl zm_5_156 (Nat.le_of_ble_eq_true rfl) ⟨Nat.le_refl _, Nat.le_refl _⟩ ?_
              refine zv_run 3 (pc' := 6) (lo' := [some (.ref 4), some (.int l), some (.int (if mx < 99 then 99 else mx)), some (.int ((nI j) + 1)), some (.int (I (8 + j) 11))]) (st' := []) (I' := I) (L' := L) (R' := zw_RC h sp la) rfl ?_
              rw [show hsc_loop I 8 (n + 1) j l mx = hsc_loop I 8 n (j + 1) (l) (if mx < 99 then 99 else mx) from by first | exact absurd c38 c63 | exact absurd c63 c38 | (simp only [hsc_loop]; simp [*]), ← nI_succ]
              exact ih (j + 1) _ _ _ (by omega)
          · have _c := c52
            refine zv_run 4 (pc' := 63) (lo' := [some (.ref 4), some (.int (l + 1)), some (.int mx), some (.int (nI j)), some (.int (I (8 + j) 11))]) (st' := [.int (-4), .int (I (8 + j) 11), .int mx]) (I' := I) (L' := L) (R' := zw_RC h sp la) rfl ?_
            refine zv_icmp_ne (tgt := 71) (zs_at rfl) (by decide) (fun c63 => ?_) (fun c63 => ?_)
            · have _c := c63
              refine zv_run 1 (pc' := 73) (lo' := [some (.ref 4), some (.int (l + 1)), some (.int mx), some (.int (nI j)), some (.int (I (8 + j) 11))]) (st' := [.int (I (8 + j) 11), .int mx]) (I' := I) (L' := L) (R' := zw_RC h sp la) rfl ?_
              refine zv_max rfl zm_5_156 (Nat.le_of_ble_eq_true rfl) ⟨Nat.le_refl _, Nat.le_refl _⟩ ?_
              refine zv_run 3 (pc' := 6) (lo' := [some (.ref 4), some (.int (l + 1)), some (.int (if mx < (I (8 + j) 11) then (I (8 + j) 11) else mx)), some (.int ((nI j) + 1)), some (.int (I (8 + j) 11))]) (st' := []) (I' := I) (L' := L) (R' := zw_RC h sp la) rfl ?_
              rw [show hsc_loop I 8 (n + 1) j l mx = hsc_loop I 8 n (j + 1) (l + 1) (if mx < (I (8 + j) 11) then (I (8 + j) 11) else mx) from by first | exact absurd c38 c63 | exact absurd c63 c38 | (simp only [hsc_loop]; simp [*]), ← nI_succ]
              exact ih (j + 1) _ _ _ (by omega)
            · have _c := c63
              refine zv_run 2 (pc' := 73) (lo' := [some (.ref 4), some (.int (l + 1)), some (.int mx), some (.int (nI j)), some (.int (I (8 + j) 11))]) (st' := [.int 99, .int mx]) (I' := I) (L' := L) (R' := zw_RC h sp la) rfl ?_
              refine zv_max rfl zm_5_156 (Nat.le_of_ble_eq_true rfl) ⟨Nat.le_refl _, Nat.le_refl _⟩ ?_
              refine zv_run 3 (pc' := 6) (lo' := [some (.ref 4), some (.int (l + 1)), some (.int (if mx < 99 then 99 else mx)), some (.int ((nI j) + 1)), some (.int (I (8 + j) 11))]) (st' := []) (I' := I) (L' := L) (R' := zw_RC h sp la) rfl ?_
              rw [show hsc_loop I 8 (n + 1) j l mx = hsc_loop I 8 n (j + 1) (l + 1) (if mx < 99 then 99 else mx) from by first | exact absurd c38 c63 | exact absurd c63 c38 | (simp only [hsc_loop]; simp [*]), ← nI_succ]
              exact ih (j + 1) _ _ _ (by omega)
theorem lp_X5_score_14 {d : Nat} {I : zx_I} {L : zx_L} {h sp : Nat} {la : Option Nat} {m : Nat} (hm : I 14 13 = nI m) (hm6 : m ≤ 6) : ∀ (n j : Nat) (l mx : Int32) (x4 : Option Value), j + n = m → zx_V mm_X5_scoreOfEvening (d + 1) z0 (zw_ret (some (.int (hsc_loop I 18 n j l mx))) zw_SC I L (zw_RC h sp la)) zw_SC 6 [some (.ref 14), some (.int l), some (.int mx), some (.int (nI j)), x4] [] I L (zw_RC h sp la) := by
  intro n
  induction n with
  | zero =>
    intro j l mx x4 hj
    refine zv_run 3 (pc' := 11) (lo' := [some (.ref 14), some (.int l), some (.int mx), some (.int (nI j)), x4]) (st' := [.int (I 14 13), .int (nI j)]) (I' := I) (L' := L) (R' := zw_RC h sp la) rfl ?_
    refine zv_icmp_ge (tgt := 83) (zs_at rfl) (by decide) (fun c11 => ?_) (fun c11 => ?_)
    · have _c := c11
      refine zv_run 5 (pc' := 89) (lo' := [some (.ref 14), some (.int l), some (.int mx), some (.int (nI j)), x4]) (st' := [.int ((100 * l) + mx)]) (I' := I) (L' := L) (R' := zw_RC h sp la) rfl ?_
      exact zv_iret (zs_at rfl) rfl ⟨Nat.le_refl _, Nat.le_refl _⟩ (zw_to rfl rfl rfl rfl)
    · exact absurd (by rw [hm]; exact nI_le (by omega) (by omega)) c11
  | succ n ih =>
    intro j l mx x4 hj
    refine zv_run 3 (pc' := 11) (lo' := [some (.ref 14), some (.int l), some (.int mx), some (.int (nI j)), x4]) (st' := [.int (I 14 13), .int (nI j)]) (I' := I) (L' := L) (R' := zw_RC h sp la) rfl ?_
    refine zv_icmp_ge (tgt := 83) (zs_at rfl) (by decide) (fun c11 => ?_) (fun c11 => ?_)
    · exact absurd c11 (by rw [hm]; exact nI_ge (by omega) (by omega))
    · have _c := c11
      refine zv_run 4 (pc' := 20) (lo' := [some (.ref 14), some (.int l), some (.int mx), some (.int (nI j)), x4]) (st' := [.int 6, .int (nI j)]) (I' := I) (L' := L) (R' := zw_RC h sp la) rfl ?_
      refine zv_icmp_ge (tgt := 83) (zs_at rfl) (by decide) (fun c20 => ?_) (fun c20 => ?_)
      · exact absurd c20 (by exact nI_ge (a := j) (b := 6) (by omega) (by decide))
      · have _c := c20
        refine zv_run 3 (pc' := 28) (lo' := [some (.ref 14), some (.int l), some (.int mx), some (.int (nI j)), x4]) (st' := [.int (nI j), .ref 17]) (I' := I) (L' := L) (R' := zw_RC h sp la) rfl ?_
        refine zv_aald (zs_at rfl) rfl (Or.inl rfl) (vp_in_nI (by omega) (by decide)) ?_
        refine zv_run 0 (pc' := 29) (lo' := [some (.ref 14), some (.int l), some (.int mx), some (.int (nI j)), x4]) (st' := [.ref (18 + j)]) (I' := I) (L' := L) (R' := zw_RC h sp la) (by rw [nI_clamp (by omega), rc_17 (by omega)]; rfl) ?_
        refine zv_get (ci := 2) (k := 11) (t := 0) (zs_at rfl) (zf_ok rfl) (bt_S (by unfold bt; omega)) rfl ?_
        refine zv_run 0 (pc' := 32) (lo' := [some (.ref 14), some (.int l), some (.int mx), some (.int (nI j)), x4]) (st' := [.int (I (18 + j) 11)]) (I' := I) (L' := L) (R' := zw_RC h sp la) rfl ?_
        refine zv_run 3 (pc' := 38) (lo' := [some (.ref 14), some (.int l), some (.int mx), some (.int (nI j)), some (.int (I (18 + j) 11))]) (st' := [.int (-4), .int (I (18 + j) 11)]) (I' := I) (L' := L) (R' := zw_RC h sp la) rfl ?_
        refine zv_icmp_eq (tgt := 55) (zs_at rfl) (by decide) (fun c38 => ?_) (fun c38 => ?_)
        · have _c := c38
          refine zv_run 4 (pc' := 63) (lo' := [some (.ref 14), some (.int (l + 1)), some (.int mx), some (.int (nI j)), some (.int (I (18 + j) 11))]) (st' := [.int (-4), .int (I (18 + j) 11), .int mx]) (I' := I) (L' := L) (R' := zw_RC h sp la) rfl ?_
          refine zv_icmp_ne (tgt := 71) (zs_at rfl) (by decide) (fun c63 => ?_) (fun c63 => ?_)
          · have _c := c63
            refine zv_run 1 (pc' := 73) (lo' := [some (.ref 14), some (.int (l + 1)), some (.int mx), some (.int (nI j)), some (.int (I (18 + j) 11))]) (st' := [.int (I (18 + j) 11), .int mx]) (I' := I) (L' := L) (R' := zw_RC h sp la) rfl ?_
            refine zv_max rfl zm_5_156 (Nat.le_of_ble_eq_true rfl) ⟨Nat.le_refl _, Nat.le_refl _⟩ ?_
            refine zv_run 3 (pc' := 6) (lo' := [some (.ref 14), some (.int (l + 1)), some (.int (if mx < (I (18 + j) 11) then (I (18 + j) 11) else mx)), some (.int ((nI j) + 1)), some (.int (I (18 + j) 11))]) (st' := []) (I' := I) (L' := L) (R' := zw_RC h sp la) rfl ?_
            rw [show hsc_loop I 18 (n + 1) j l mx = hsc_loop I 18 n (j + 1) (l + 1) (if mx < (I (18 + j) 11) then (I (18 + j) 11) else mx) from by first | exact absurd c38 c63 | exact absurd c63 c38 | (simp only [hsc_loop]; simp [*]), ← nI_succ]
            exact ih (j + 1) _ _ _ (by omega)
          · have _c := c63
            refine zv_run 2 (pc' := 73) (lo' := [some (.ref 14), some (.int (l + 1)), some (.int mx), some (.int (nI j)), some (.int (I (18 + j) 11))]) (st' := [.int 99, .int mx]) (I' := I) (L' := L) (R' := zw_RC h sp la) rfl ?_
            refine zv_max rfl zm_5_156 (Nat.le_of_ble_eq_true rfl) ⟨Nat.le_refl _, Nat.le_refl _⟩ ?_
            refine zv_run 3 (pc' := 6) (lo' := [some (.ref 14), some (.int (l + 1)), some (.int (if mx < 99 then 99 else mx)), some (.int ((nI j) + 1)), some (.int (I (18 + j) 11))]) (st' := []) (I' := I) (L' := L) (R' := zw_RC h sp la) rfl ?_
            rw [show hsc_loop I 18 (n + 1) j l mx = hsc_loop I 18 n (j + 1) (l + 1) (if mx < 99 then 99 else mx) from by first | exact absurd c38 c63 | exact absurd c63 c38 | (simp only [hsc_loop]; simp [*]), ← nI_succ]
            exact ih (j + 1) _ _ _ (by omega)
        · have _c := c38
          refine zv_run 4 (pc' := 48) (lo' := [some (.ref 14), some (.int l), some (.int mx), some (.int (nI j)), some (.int (I (18 + j) 11))]) (st' := [.int (nI j), .ref 17, .int (I (18 + j) 11)]) (I' := I) (L' := L) (R' := zw_RC h sp la) rfl ?_
          refine zv_aald (zs_at rfl) rfl (Or.inl rfl) (vp_in_nI (by omega) (by decide)) ?_
          refine zv_run 0 (pc' := 49) (lo' := [some (.ref 14), some (.int l), some (.int mx), some (.int (nI j)), some (.int (I (18 + j) 11))]) (st' := [.ref (18 + j), .int (I (18 + j) 11)]) (I' := I) (L' := L) (R' := zw_RC h sp la) (by rw [nI_clamp (by omega), rc_17 (by omega)]; rfl) ?_
          refine zv_get (ci := 2) (k := 6) (t := 0) (zs_at rfl) (zf_ok rfl) (bt_S (by unfold bt; omega)) rfl ?_
          refine zv_run 0 (pc' := 52) (lo' := [some (.ref 14), some (.int l), some (.int mx), some (.int (nI j)), some (.int (I (18 + j) 11))]) (st' := [.int (I (18 + j) 6), .int (I (18 + j) 11)]) (I' := I) (L' := L) (R' := zw_RC h sp la) rfl ?_
          refine zv_icmp_le (tgt := 58) (zs_at rfl) (by decide) (fun c52 => ?_) (fun c52 => ?_)
          · have _c := c52
            refine zv_run 3 (pc' := 63) (lo' := [some (.ref 14), some (.int l), some (.int mx), some (.int (nI j)), some (.int (I (18 + j) 11))]) (st' := [.int (-4), .int (I (18 + j) 11), .int mx]) (I' := I) (L' := L) (R' := zw_RC h sp la) rfl ?_
            refine zv_icmp_ne (tgt := 71) (zs_at rfl) (by decide) (fun c63 => ?_) (fun c63 => ?_)
            · have _c := c63
              refine zv_run 1 (pc' := 73) (lo' := [some (.ref 14), some (.int l), some (.int mx), some (.int (nI j)), some (.int (I (18 + j) 11))]) (st' := [.int (I (18 + j) 11), .int mx]) (I' := I) (L' := L) (R' := zw_RC h sp la) rfl ?_
              refine zv_max rfl zm_5_156 (Nat.le_of_ble_eq_true rfl) ⟨Nat.le_refl _, Nat.le_refl _⟩ ?_
              refine zv_run 3 (pc' := 6) (lo' := [some (.ref 14), some (.int l), some (.int (if mx < (I (18 + j) 11) then (I (18 + j) 11) else mx)), some (.int ((nI j) + 1)), some (.int (I (18 + j) 11))]) (st' := []) (I' := I) (L' := L) (R' := zw_RC h sp la) rfl ?_
              rw [show hsc_loop I 18 (n + 1) j l mx = hsc_loop I 18 n (j + 1) (l) (if mx < (I (18 + j) 11) then (I (18 + j) 11) else mx) from by first | exact absurd c38 c63 | exact absurd c63 c38 | (simp only [hsc_loop]; simp [*]), ← nI_succ]
              exact ih (j + 1) _ _ _ (by omega)
            · have _c := c63
              refine zv_run 2 (pc' := 73) (lo' := [some (.ref 14), some (.int l), some (.int mx), some (.int (nI j)), some (.int (I (18 + j) 11))]) (st' := [.int 99, .int mx]) (I' := I) (L' := L) (R' := zw_RC h sp la) rfl ?_
              refine zv_max rfl zm_5_156 (Nat.le_of_ble_eq_true rfl) ⟨Nat.le_refl _, Nat.le_refl _⟩ ?_
              refine zv_run 3 (pc' := 6) (lo' := [some (.ref 14), some (.int l), some (.int (if mx < 99 then 99 else mx)), some (.int ((nI j) + 1)), some (.int (I (18 + j) 11))]) (st' := []) (I' := I) (L' := L) (R' := zw_RC h sp la) rfl ?_
              rw [show hsc_loop I 18 (n + 1) j l mx = hsc_loop I 18 n (j + 1) (l) (if mx < 99 then 99 else mx) from by first | exact absurd c38 c63 | exact absurd c63 c38 | (simp only [hsc_loop]; simp [*]), ← nI_succ]
              exact ih (j + 1) _ _ _ (by omega)
          · have _c := c52
            refine zv_run 4 (pc' := 63) (lo' := [some (.ref 14), some (.int (l + 1)), some (.int mx), some (.int (nI j)), some (.int (I (18 + j) 11))]) (st' := [.int (-4), .int (I (18 + j) 11), .int mx]) (I' := I) (L' := L) (R' := zw_RC h sp la) rfl ?_
            refine zv_icmp_ne (tgt := 71) (zs_at rfl) (by decide) (fun c63 => ?_) (fun c63 => ?_)
            · have _c := c63
              refine zv_run 1 (pc' := 73) (lo' := [some (.ref 14), some (.int (l + 1)), some (.int mx), some (.int (nI j)), some (.int (I (18 + j) 11))]) (st' := [.int (I (18 + j) 11), .int mx]) (I' := I) (L' := L) (R' := zw_RC h sp la) rfl ?_
              refine zv_max rfl zm_5_156 (Nat.le_of_ble_eq_true rfl) ⟨Nat.le_refl _, Nat.le_refl _⟩ ?_
              refine zv_run 3 (pc' := 6) (lo' := [some (.ref 14), some (.int (l + 1)), some (.int (if mx < (I (18 + j) 11) then (I (18 + j) 11) else mx)), some (.int ((nI j) + 1)), some (.int (I (18 + j) 11))]) (st' := []) (I' := I) (L' := L) (R' := zw_RC h sp la) rfl ?_
              rw [show hsc_loop I 18 (n + 1) j l mx = hsc_loop I 18 n (j + 1) (l + 1) (if mx < (I (18 + j) 11) then (I (18 + j) 11) else mx) from by first | exact absurd c38 c63 | exact absurd c63 c38 | (simp only [hsc_loop]; simp [*]), ← nI_succ]
              exact ih (j + 1) _ _ _ (by omega)
            · have _c := c63
              refine zv_run 2 (pc' := 73) (lo' := [some (.ref 14), some (.int (l + 1)), some (.int mx), some (.int (nI j)), some (.int (I (18 + j) 11))]) (st' := [.int 99, .int mx]) (I' := I) (L' := L) (R' := zw_RC h sp la) rfl ?_
              refine zv_max rfl zm_5_156 (Nat.le_of_ble_eq_true rfl) ⟨Nat.le_refl _, Nat.le_refl _⟩ ?_
              refine zv_run 3 (pc' := 6) (lo' := [some (.ref 14), some (.int (l + 1)), some (.int (if mx < 99 then 99 else mx)), some (.int ((nI j) + 1)), some (.int (I (18 + j) 11))]) (st' := []) (I' := I) (L' := L) (R' := zw_RC h sp la) rfl ?_
              rw [show hsc_loop I 18 (n + 1) j l mx = hsc_loop I 18 n (j + 1) (l + 1) (if mx < 99 then 99 else mx) from by first | exact absurd c38 c63 | exact absurd c63 c38 | (simp only [hsc_loop]; simp [*]), ← nI_succ]
              exact ih (j + 1) _ _ _ (by omega)
theorem hs_c {I : zx_I} {a : Nat} (h0 : 0 ≤ (I a 13).toInt) (h6 : (I a 13).toInt ≤ 6) : ∃ m, m ≤ 6 ∧ I a 13 = nI m ∧ (I a 13).toInt.toNat = m := by
  refine ⟨(I a 13).toInt.toNat, by omega, ?_, rfl⟩
  apply Int32.toInt_inj.mp
  rw [nI_toInt (by omega)]
  omega
def hs_ct (I : zx_I) (a : Nat) : Prop := 0 ≤ (I a 13).toInt ∧ (I a 13).toInt ≤ 6
theorem ct_X5_scoreOfEvening {d : Nat} {I : zx_I} {L : zx_L} {h sp : Nat} {la : Option Nat} {a : Nat}  (ha : a = 4 ∨ a = 14) (hc : hs_ct I a) : zx_M0 mm_X5_scoreOfEvening (d + 1) 0 0 [.ref a] zw_SC I L (zw_RC h sp la) (zw_ret (some (.int (fh_score I a))) zw_SC I L (zw_RC h sp la)) := by
  obtain ⟨m, hm6, hm, hmt⟩ := hs_c hc.1 hc.2
  unfold fh_score
  rw [hmt]
  rcases ha with rfl | rfl
  · refine zv_entry gd_X5_scoreOfEvening (Nat.le_of_ble_eq_true rfl) ?_
    refine zv_run 6 (pc' := 6) (lo' := [some (.ref 4), some (.int 0), some (.int 0), some (.int 0), none]) (st' := []) (I' := I) (L' := L) (R' := zw_RC h sp la) rfl ?_
    exact lp_X5_score_4 hm hm6 m 0 0 0 none (Nat.zero_add m)
  · refine zv_entry gd_X5_scoreOfEvening (Nat.le_of_ble_eq_true rfl) ?_
    refine zv_run 6 (pc' := 6) (lo' := [some (.ref 14), some (.int 0), some (.int 0), some (.int 0), none]) (st' := []) (I' := I) (L' := L) (R' := zw_RC h sp la) rfl ?_
    exact lp_X5_score_14 hm hm6 m 0 0 0 none (Nat.zero_add m)
end
section
/-! the evening -/
theorem rc_last {h sp : Nat} {la x : Option Nat} : zx_uR (zw_RC h sp la) 36 4 x = zw_RC h sp x := by
  funext a k
  unfold zx_uR
  by_cases ha : a = 36
  · subst ha
    rw [if_pos rfl]
    match k with
    | 0 => rfl
    | 1 => rfl
    | 2 => rfl
    | 3 => rfl
    | 4 => rfl
    | k + 5 => rfl
  · rw [if_neg ha]
    unfold zw_RC
    by_cases hl : a < 42
    · match a, hl, ha with
      | 0, _, _ => rfl
      | 1, _, _ => rfl
      | 2, _, _ => rfl
      | 3, _, _ => rfl
      | 4, _, _ => rfl
      | 5, _, _ => rfl
      | 6, _, _ => rfl
      | 7, _, _ => rfl
      | 8, _, _ => rfl
      | 9, _, _ => rfl
      | 10, _, _ => rfl
      | 11, _, _ => rfl
      | 12, _, _ => rfl
      | 13, _, _ => rfl
      | 14, _, _ => rfl
      | 15, _, _ => rfl
      | 16, _, _ => rfl
      | 17, _, _ => rfl
      | 18, _, _ => rfl
      | 19, _, _ => rfl
      | 20, _, _ => rfl
      | 21, _, _ => rfl
      | 22, _, _ => rfl
      | 23, _, _ => rfl
      | 24, _, _ => rfl
      | 25, _, _ => rfl
      | 26, _, _ => rfl
      | 27, _, _ => rfl
      | 28, _, _ => rfl
      | 29, _, _ => rfl
      | 30, _, _ => rfl
      | 31, _, _ => rfl
      | 32, _, _ => rfl
      | 33, _, _ => rfl
      | 34, _, _ => rfl
      | 35, _, _ => rfl
      | 36, _, h9 => exact absurd rfl h9
      | 37, _, _ => rfl
      | 38, _, _ => rfl
      | 39, _, _ => rfl
      | 40, _, _ => rfl
      | 41, _, _ => rfl
      | n + 42, h9, _ => exact absurd h9 (by omega)
    · have e1 : ∀ z : Option Nat, (zw_RT h sp z).getD a [] = [] := fun z => by
        rw [List.getD_eq_getElem?_getD, List.getElem?_eq_none (show (zw_RT h sp z).length ≤ a by show 38 ≤ a; omega)]; rfl
      rw [e1, e1]
def rs_loop (b : Nat) : Nat → Nat → zx_I → zx_I
  | 0, _, J => J
  | n + 1, j, J => rs_loop b n (j + 1) (fb_reset J (b + j))
def fe_own (I : zx_I) : zx_I := zx_uI (zx_uI (zx_uI (zx_uI I 36 3 0) 36 5 0) 36 6 0) 36 7 0
def fe_begin (I : zx_I) (a : Nat) (f : Int32) : zx_I := rs_loop (a + 4) 6 0 (fe_own (ff_begin (ft_fill I a) f))
theorem lp_X3_begin_4 {d : Nat} {L : zx_L} {h sp : Nat} {f : Int32} : ∀ (n j : Nat) (J : zx_I) (x6 : Option Value), j + n = 6 → zx_V mm_X3_begin (d + 2) z0 (zw_ret none zw_SC (rs_loop 8 n j J) L (zw_RC h sp none)) zw_SC 53 [some (.ref 36), some (.ref 4), some (.int f), some (.ref 7), some (.int 6), some (.int (nI j)), x6] [] J L (zw_RC h sp none) := by
  intro n
  induction n with
  | zero =>
    intro j J x6 hm
    refine zv_run 2 (pc' := 57) (lo' := [some (.ref 36), some (.ref 4), some (.int f), some (.ref 7), some (.int 6), some (.int (nI j)), x6]) (st' := [.int 6, .int (nI j)]) (I' := J) (L' := L) (R' := zw_RC h sp none) rfl ?_
    refine zv_icmp_ge (tgt := 77) (zs_at rfl) (by decide) (fun c57 => ?_) (fun c57 => ?_)
    · have _c := c57
      exact zv_vret (zs_at rfl) rfl ⟨Nat.le_refl _, Nat.le_refl _⟩ (zw_to rfl rfl rfl rfl)
    · exact absurd (by rw [show j = 6 by omega]; exact (by decide)) c57
  | succ n ih =>
    intro j J x6 hm
    refine zv_run 2 (pc' := 57) (lo' := [some (.ref 36), some (.ref 4), some (.int f), some (.ref 7), some (.int 6), some (.int (nI j)), x6]) (st' := [.int 6, .int (nI j)]) (I' := J) (L' := L) (R' := zw_RC h sp none) rfl ?_
    refine zv_icmp_ge (tgt := 77) (zs_at rfl) (by decide) (fun c57 => ?_) (fun c57 => ?_)
    · exact absurd c57 (by exact nI_ge (a := j) (b := 6) (by omega) (by decide))
    · have _c := c57
      refine zv_run 2 (pc' := 63) (lo' := [some (.ref 36), some (.ref 4), some (.int f), some (.ref 7), some (.int 6), some (.int (nI j)), x6]) (st' := [.int (nI j), .ref 7]) (I' := J) (L' := L) (R' := zw_RC h sp none) rfl ?_
      refine zv_aald (zs_at rfl) rfl (Or.inl rfl) (vp_in_nI (by omega) (by decide)) ?_
      refine zv_run 0 (pc' := 64) (lo' := [some (.ref 36), some (.ref 4), some (.int f), some (.ref 7), some (.int 6), some (.int (nI j)), x6]) (st' := [.ref (8 + j)]) (I' := J) (L' := L) (R' := zw_RC h sp none) (by rw [nI_clamp (by omega), rc_7 (by omega)]; rfl) ?_
      refine zv_run 2 (pc' := 68) (lo' := [some (.ref 36), some (.ref 4), some (.int f), some (.ref 7), some (.int 6), some (.int (nI j)), some (.ref (8 + j))]) (st' := [.ref (8 + j)]) (I' := J) (L' := L) (R' := zw_RC h sp none) rfl ?_
      refine zv_cV (M' := mm_X2_isNotInYet) (ci := 2) (a := (8 + j)) (av := []) (st := []) (r := none) (I' := (fb_reset J (8 + j))) (L' := L) (R' := zw_RC h sp none) rfl zc_3_127 gd_X2_isNotInYet (bt_S (by unfold bt; omega)) rfl rfl (Nat.le_of_ble_eq_true rfl) (ct_X2_isNotInYet (d := _) (by unfold bt; omega)) ⟨Nat.le_refl _, Nat.le_refl _⟩ ?_
      refine zv_run 0 (pc' := 71) (lo' := [some (.ref 36), some (.ref 4), some (.int f), some (.ref 7), some (.int 6), some (.int (nI j)), some (.ref (8 + j))]) (st' := []) (I' := (fb_reset J (8 + j))) (L' := L) (R' := zw_RC h sp none) rfl ?_
      refine zv_run 2 (pc' := 53) (lo' := [some (.ref 36), some (.ref 4), some (.int f), some (.ref 7), some (.int 6), some (.int ((nI j) + 1)), some (.ref (8 + j))]) (st' := []) (I' := (fb_reset J (8 + j))) (L' := L) (R' := zw_RC h sp none) rfl ?_
      rw [← nI_succ]
      exact ih (j + 1) _ _ (by omega)
theorem lp_X3_begin_14 {d : Nat} {L : zx_L} {h sp : Nat} {f : Int32} : ∀ (n j : Nat) (J : zx_I) (x6 : Option Value), j + n = 6 → zx_V mm_X3_begin (d + 2) z0 (zw_ret none zw_SC (rs_loop 18 n j J) L (zw_RC h sp none)) zw_SC 53 [some (.ref 36), some (.ref 14), some (.int f), some (.ref 17), some (.int 6), some (.int (nI j)), x6] [] J L (zw_RC h sp none) := by
  intro n
  induction n with
  | zero =>
    intro j J x6 hm
    refine zv_run 2 (pc' := 57) (lo' := [some (.ref 36), some (.ref 14), some (.int f), some (.ref 17), some (.int 6), some (.int (nI j)), x6]) (st' := [.int 6, .int (nI j)]) (I' := J) (L' := L) (R' := zw_RC h sp none) rfl ?_
    refine zv_icmp_ge (tgt := 77) (zs_at rfl) (by decide) (fun c57 => ?_) (fun c57 => ?_)
    · have _c := c57
      exact zv_vret (zs_at rfl) rfl ⟨Nat.le_refl _, Nat.le_refl _⟩ (zw_to rfl rfl rfl rfl)
    · exact absurd (by rw [show j = 6 by omega]; exact (by decide)) c57
  | succ n ih =>
    intro j J x6 hm
    refine zv_run 2 (pc' := 57) (lo' := [some (.ref 36), some (.ref 14), some (.int f), some (.ref 17), some (.int 6), some (.int (nI j)), x6]) (st' := [.int 6, .int (nI j)]) (I' := J) (L' := L) (R' := zw_RC h sp none) rfl ?_
    refine zv_icmp_ge (tgt := 77) (zs_at rfl) (by decide) (fun c57 => ?_) (fun c57 => ?_)
    · exact absurd c57 (by exact nI_ge (a := j) (b := 6) (by omega) (by decide))
    · have _c := c57
      refine zv_run 2 (pc' := 63) (lo' := [some (.ref 36), some (.ref 14), some (.int f), some (.ref 17), some (.int 6), some (.int (nI j)), x6]) (st' := [.int (nI j), .ref 17]) (I' := J) (L' := L) (R' := zw_RC h sp none) rfl ?_
      refine zv_aald (zs_at rfl) rfl (Or.inl rfl) (vp_in_nI (by omega) (by decide)) ?_
      refine zv_run 0 (pc' := 64) (lo' := [some (.ref 36), some (.ref 14), some (.int f), some (.ref 17), some (.int 6), some (.int (nI j)), x6]) (st' := [.ref (18 + j)]) (I' := J) (L' := L) (R' := zw_RC h sp none) (by rw [nI_clamp (by omega), rc_17 (by omega)]; rfl) ?_
      refine zv_run 2 (pc' := 68) (lo' := [some (.ref 36), some (.ref 14), some (.int f), some (.ref 17), some (.int 6), some (.int (nI j)), some (.ref (18 + j))]) (st' := [.ref (18 + j)]) (I' := J) (L' := L) (R' := zw_RC h sp none) rfl ?_
      refine zv_cV (M' := mm_X2_isNotInYet) (ci := 2) (a := (18 + j)) (av := []) (st := []) (r := none) (I' := (fb_reset J (18 + j))) (L' := L) (R' := zw_RC h sp none) rfl zc_3_127 gd_X2_isNotInYet (bt_S (by unfold bt; omega)) rfl rfl (Nat.le_of_ble_eq_true rfl) (ct_X2_isNotInYet (d := _) (by unfold bt; omega)) ⟨Nat.le_refl _, Nat.le_refl _⟩ ?_
      refine zv_run 0 (pc' := 71) (lo' := [some (.ref 36), some (.ref 14), some (.int f), some (.ref 17), some (.int 6), some (.int (nI j)), some (.ref (18 + j))]) (st' := []) (I' := (fb_reset J (18 + j))) (L' := L) (R' := zw_RC h sp none) rfl ?_
      refine zv_run 2 (pc' := 53) (lo' := [some (.ref 36), some (.ref 14), some (.int f), some (.ref 17), some (.int 6), some (.int ((nI j) + 1)), some (.ref (18 + j))]) (st' := []) (I' := (fb_reset J (18 + j))) (L' := L) (R' := zw_RC h sp none) rfl ?_
      rw [← nI_succ]
      exact ih (j + 1) _ _ (by omega)
theorem ct_X3_begin {d : Nat} {I : zx_I} {L : zx_L} {h sp : Nat} {la : Option Nat} {a : Nat} {f : Int32} (ha : a = 4 ∨ a = 14) (hH : hs_tk I a) : zx_M0 mm_X3_begin (d + 2) 0 0 [.ref 36, .ref a, .int f] zw_SC I L (zw_RC h sp la) (zw_ret none zw_SC (fe_begin I a f) L (zw_RC h sp none)) := by
  rcases ha with rfl | rfl
  · refine zv_entry gd_X3_begin (Nat.le_of_ble_eq_true rfl) ?_
    refine zv_run 3 (pc' := 5) (lo' := [some (.ref 36), some (.ref 4), some (.int f), none, none, none, none]) (st' := [.ref 4, .ref 37]) (I' := I) (L' := L) (R' := zw_RC h sp la) rfl ?_
    refine zv_cV (M' := mm_X7_fill) (ci := 7) (a := 37) (av := [.ref 4]) (st := []) (r := none) (I' := (ft_fill I 4)) (L' := L) (R' := zw_RC h sp la) rfl zc_3_108 gd_X7_fill rfl rfl rfl (Nat.le_of_ble_eq_true rfl) (ct_X7_fill (d := _) (Or.inl rfl) hH) ⟨Nat.le_refl _, Nat.le_refl _⟩ ?_
    refine zv_run 0 (pc' := 8) (lo' := [some (.ref 36), some (.ref 4), some (.int f), none, none, none, none]) (st' := []) (I' := (ft_fill I 4)) (L' := L) (R' := zw_RC h sp la) rfl ?_
    refine zv_run 3 (pc' := 13) (lo' := [some (.ref 36), some (.ref 4), some (.int f), none, none, none, none]) (st' := [.int f, .ref 39]) (I' := (ft_fill I 4)) (L' := L) (R' := zw_RC h sp la) rfl ?_
    refine zv_cV (M' := mm_X4_begin) (ci := 4) (a := 39) (av := [.int f]) (st := []) (r := none) (I' := (ff_begin (ft_fill I 4) f)) (L' := L) (R' := zw_RC h sp la) rfl zc_3_111 gd_X4_begin rfl rfl rfl (Nat.le_of_ble_eq_true rfl) (ct_X4_begin (d := _)) ⟨Nat.le_refl _, Nat.le_refl _⟩ ?_
    refine zv_run 0 (pc' := 16) (lo' := [some (.ref 36), some (.ref 4), some (.int f), none, none, none, none]) (st' := []) (I' := (ff_begin (ft_fill I 4) f)) (L' := L) (R' := zw_RC h sp la) rfl ?_
    refine zv_run 23 (pc' := 53) (lo' := [some (.ref 36), some (.ref 4), some (.int f), some (.ref 7), some (.int 6), some (.int 0), none]) (st' := []) (I' := (zx_uI (zx_uI (zx_uI (zx_uI (ff_begin (ft_fill I 4) f) 36 3 0) 36 5 0) 36 6 0) 36 7 0)) (L' := L) (R' := (zx_uR (zw_RC h sp la) 36 4 none)) rfl ?_
    rw [rc_last]
    exact lp_X3_begin_4 6 0 _ none (by omega)
  · refine zv_entry gd_X3_begin (Nat.le_of_ble_eq_true rfl) ?_
    refine zv_run 3 (pc' := 5) (lo' := [some (.ref 36), some (.ref 14), some (.int f), none, none, none, none]) (st' := [.ref 14, .ref 37]) (I' := I) (L' := L) (R' := zw_RC h sp la) rfl ?_
    refine zv_cV (M' := mm_X7_fill) (ci := 7) (a := 37) (av := [.ref 14]) (st := []) (r := none) (I' := (ft_fill I 14)) (L' := L) (R' := zw_RC h sp la) rfl zc_3_108 gd_X7_fill rfl rfl rfl (Nat.le_of_ble_eq_true rfl) (ct_X7_fill (d := _) (Or.inr rfl) hH) ⟨Nat.le_refl _, Nat.le_refl _⟩ ?_
    refine zv_run 0 (pc' := 8) (lo' := [some (.ref 36), some (.ref 14), some (.int f), none, none, none, none]) (st' := []) (I' := (ft_fill I 14)) (L' := L) (R' := zw_RC h sp la) rfl ?_
    refine zv_run 3 (pc' := 13) (lo' := [some (.ref 36), some (.ref 14), some (.int f), none, none, none, none]) (st' := [.int f, .ref 39]) (I' := (ft_fill I 14)) (L' := L) (R' := zw_RC h sp la) rfl ?_
    refine zv_cV (M' := mm_X4_begin) (ci := 4) (a := 39) (av := [.int f]) (st := []) (r := none) (I' := (ff_begin (ft_fill I 14) f)) (L' := L) (R' := zw_RC h sp la) rfl zc_3_111 gd_X4_begin rfl rfl rfl (Nat.le_of_ble_eq_true rfl) (ct_X4_begin (d := _)) ⟨Nat.le_refl _, Nat.le_refl _⟩ ?_
    refine zv_run 0 (pc' := 16) (lo' := [some (.ref 36), some (.ref 14), some (.int f), none, none, none, none]) (st' := []) (I' := (ff_begin (ft_fill I 14) f)) (L' := L) (R' := zw_RC h sp la) rfl ?_
    refine zv_run 23 (pc' := 53) (lo' := [some (.ref 36), some (.ref 14), some (.int f), some (.ref 17), some (.int 6), some (.int 0), none]) (st' := []) (I' := (zx_uI (zx_uI (zx_uI (zx_uI (ff_begin (ft_fill I 14) f) 36 3 0) 36 5 0) 36 6 0) 36 7 0)) (L' := L) (R' := (zx_uR (zw_RC h sp la) 36 4 none)) rfl ?_
    rw [rc_last]
    exact lp_X3_begin_14 6 0 _ none (by omega)
def fe_g (I : zx_I) (a : Nat) : Int32 := if I 36 3 < I a 10 then 0 else I a 9
def fe_lf (I : zx_I) (la : Option Nat) (a ww : Nat) (t : Int32) : Int32 := match la with
  | none => 0
  | some wl => if I wl 11 = t then fb_left I wl ww (I a 11) else 0
def fe_J (I : zx_I) (la : Option Nat) (a : Nat) (t : Int32) : zx_I := match la with
  | none => I
  | some wl => if I wl 11 = t then fb_leftm I wl (I a 11) else I
def fe_can (I : zx_I) (la : Option Nat) (a ww : Nat) (t : Int32) : Int32 := if I ww 9 > t then 0 else if I 36 6 &&& I ww 0 = 0 then (if I ww 7 &&& (I 36 6 ^^^ (-1)) = 0 then (if fe_lf I la a ww t = 0 then fc_is I ww (fe_g I a) else 1) else 0) else 0
def fe_canm (I : zx_I) (la : Option Nat) (a ww : Nat) (t : Int32) : zx_I := if I ww 9 > t then I else if I 36 6 &&& I ww 0 = 0 then (if I ww 7 &&& (I 36 6 ^^^ (-1)) = 0 then (if fe_lf I la a ww t = 0 then fc_m (fe_J I la a t) ww (fe_g I a) else fe_J I la a t) else I) else I
theorem fc_is_01 (I : zx_I) (ww : Nat) (g : Int32) : fc_is I ww g = 0 ∨ fc_is I ww g = 1 := by
  unfold fc_is
  split
  · exact Or.inl rfl
  · split
    · exact Or.inl rfl
    · exact Or.inr rfl
theorem fc_cg {I J : zx_I} {ww : Nat} {g : Int32} (h37 : J 37 = I 37) (h38 : J 38 = I 38) (hw : J ww = I ww) : fc_p J ww g = fc_p I ww g ∧ fc_is J ww g = fc_is I ww g := by
  have hk : fc_k J ww g = fc_k I ww g := by unfold fc_k; rw [hw]
  have hn : fc_nd J ww g = fc_nd I ww g := by unfold fc_nd; rw [hk, hw, h37]
  have hp : fc_p J ww g = fc_p I ww g := by unfold fc_p ft_pints; rw [hn, hk, hw, h37, h38]
  have hh : fc_h J ww g = fc_h I ww g := by unfold fc_h ft_topc ft_top; rw [hn, hp, hw, h37, h38]
  exact ⟨hp, by unfold fc_is; rw [hp, hh, hw]⟩
/-- what a bather must be for its bath to be reckoned without harm -/
def ok_w (I : zx_I) (a w : Nat) : Prop := 1 ≤ (I w 1).toInt ∧ (¬ fc_p I w (fe_g I a) = -4 → ¬ fc_p I w (fe_g I a) / I 37 2 < 0) ∧ (¬ fc_p I w (fe_g I a) = -4 → fc_p I w (fe_g I a) / I 37 2 ≤ I 37 1)
theorem ok_w_g {I : zx_I} {a w : Nat} (h : ok_w I a w) {g : Int32} (hg : g = fe_g I a) : 1 ≤ (I w 1).toInt ∧ (¬ fc_p I w g = -4 → ¬ fc_p I w g / I 37 2 < 0) ∧ (¬ fc_p I w g = -4 → fc_p I w g / I 37 2 ≤ I 37 1) := by subst hg; exact h
theorem zx_uI4_ne {I : zx_I} {wl ww : Nat} {c : Int32} (hb : bt ww) : fb_leftm I wl c ww = I ww := by
  have h : ww ≠ 40 := by unfold bt at hb; omega
  unfold fb_leftm
  rw [zx_uI_ne h, zx_uI_ne h, zx_uI_ne h, zx_uI_ne h]
theorem ct_X3_can_n {d : Nat} {I : zx_I} {L : zx_L} {h sp : Nat} {ww : Nat} {t : Int32} {a : Nat} (ha : a = 4 ∨ a = 14) (hT : tk_ok I) (hb : bt ww)  (hw : ok_w I a ww) : zx_M0 mm_X3_can (d + 2) 0 0 [.ref 36, .ref a, .ref ww, .int t] zw_SC I L (zw_RC h sp none) (zw_ret (some (.int (fe_can I none a ww t))) zw_SC (fe_canm I none a ww t) L (zw_RC h sp none)) := by
  rcases ha with rfl | rfl
  · refine zv_entry gd_X3_can (Nat.le_of_ble_eq_true rfl) ?_
    refine zv_run 1 (pc' := 1) (lo' := [some (.ref 36), some (.ref 4), some (.ref ww), some (.int t)]) (st' := [.ref ww]) (I' := I) (L' := L) (R' := zw_RC h sp none) rfl ?_
    refine zv_get (ci := 2) (k := 9) (t := 0) (zs_at rfl) (zf_ok rfl) (bt_S hb) rfl ?_
    refine zv_run 0 (pc' := 4) (lo' := [some (.ref 36), some (.ref 4), some (.ref ww), some (.int t)]) (st' := [.int (I ww 9)]) (I' := I) (L' := L) (R' := zw_RC h sp none) rfl ?_
    refine zv_run 1 (pc' := 5) (lo' := [some (.ref 36), some (.ref 4), some (.ref ww), some (.int t)]) (st' := [.int t, .int (I ww 9)]) (I' := I) (L' := L) (R' := zw_RC h sp none) rfl ?_
    refine zv_icmp_gt (tgt := 34) (zs_at rfl) (by decide) (fun c5 => ?_) (fun c5 => ?_)
    · have _c := c5
      refine zv_run 1 (pc' := 35) (lo' := [some (.ref 36), some (.ref 4), some (.ref ww), some (.int t)]) (st' := [.int 0]) (I' := I) (L' := L) (R' := zw_RC h sp none) rfl ?_
      exact zv_zret (zs_at rfl) rfl (Or.inl rfl) ⟨Nat.le_refl _, Nat.le_refl _⟩ (zw_to (by unfold fe_can; rw [if_pos c5]) (by unfold fe_canm; rw [if_pos c5]) rfl rfl)
    · have _c := c5
      refine zv_run 3 (pc' := 13) (lo' := [some (.ref 36), some (.ref 4), some (.ref ww), some (.int t)]) (st' := [.ref ww, .int (I 36 6)]) (I' := I) (L' := L) (R' := zw_RC h sp none) rfl ?_
      refine zv_get (ci := 2) (k := 0) (t := 0) (zs_at rfl) (zf_ok rfl) (bt_S hb) rfl ?_
      refine zv_run 0 (pc' := 16) (lo' := [some (.ref 36), some (.ref 4), some (.ref ww), some (.int t)]) (st' := [.int (I ww 0), .int (I 36 6)]) (I' := I) (L' := L) (R' := zw_RC h sp none) rfl ?_
      refine zv_run 1 (pc' := 17) (lo' := [some (.ref 36), some (.ref 4), some (.ref ww), some (.int t)]) (st' := [.int ((I 36 6) &&& (I ww 0))]) (I' := I) (L' := L) (R' := zw_RC h sp none) rfl ?_
      refine zv_if_ne (tgt := 34) (zs_at rfl) (by decide) (fun c17 => ?_) (fun c17 => ?_)
      · have _c := c17
        refine zv_run 1 (pc' := 35) (lo' := [some (.ref 36), some (.ref 4), some (.ref ww), some (.int t)]) (st' := [.int 0]) (I' := I) (L' := L) (R' := zw_RC h sp none) rfl ?_
        exact zv_zret (zs_at rfl) rfl (Or.inl rfl) ⟨Nat.le_refl _, Nat.le_refl _⟩ (zw_to (by unfold fe_can; rw [if_neg c5, if_neg c17]) (by unfold fe_canm; rw [if_neg c5, if_neg c17]) rfl rfl)
      · have _c := c17
        refine zv_run 1 (pc' := 21) (lo' := [some (.ref 36), some (.ref 4), some (.ref ww), some (.int t)]) (st' := [.ref ww]) (I' := I) (L' := L) (R' := zw_RC h sp none) rfl ?_
        refine zv_get (ci := 2) (k := 7) (t := 0) (zs_at rfl) (zf_ok rfl) (bt_S hb) rfl ?_
        refine zv_run 0 (pc' := 24) (lo' := [some (.ref 36), some (.ref 4), some (.ref ww), some (.int t)]) (st' := [.int (I ww 7)]) (I' := I) (L' := L) (R' := zw_RC h sp none) rfl ?_
        refine zv_run 5 (pc' := 31) (lo' := [some (.ref 36), some (.ref 4), some (.ref ww), some (.int t)]) (st' := [.int ((I ww 7) &&& ((I 36 6) ^^^ (-1)))]) (I' := I) (L' := L) (R' := zw_RC h sp none) rfl ?_
        refine zv_if_eq (tgt := 36) (zs_at rfl) (by decide) (fun c31 => ?_) (fun c31 => ?_)
        · have _c := c31
          refine zv_run 2 (pc' := 40) (lo' := [some (.ref 36), some (.ref 4), some (.ref ww), some (.int t)]) (st' := [.null]) (I' := I) (L' := L) (R' := zw_RC h sp none) rfl ?_
          refine zv_ifnullN (tgt := 75) (zs_at rfl) (by decide) ?_
          refine zv_run 9 (pc' := 92) (lo' := [some (.ref 36), some (.ref 4), some (.ref ww), some (.int t)]) (st' := [.int (I 4 10), .int (I 36 3), .ref ww, .ref 37, .ref 40]) (I' := I) (L' := L) (R' := zw_RC h sp none) rfl ?_
          refine zv_icmp_lt (tgt := 102) (zs_at rfl) (by decide) (fun c92 => ?_) (fun c92 => ?_)
          · have _c := c92
            refine zv_run 1 (pc' := 103) (lo' := [some (.ref 36), some (.ref 4), some (.ref ww), some (.int t)]) (st' := [.int 0, .ref ww, .ref 37, .ref 40]) (I' := I) (L' := L) (R' := zw_RC h sp none) rfl ?_
            refine zv_cV (M' := mm_X1_comesFrom) (ci := 1) (a := 40) (av := [.ref 37, .ref ww, .int 0]) (st := []) (r := some (.int (fc_is I ww 0))) (I' := (fc_m I ww 0)) (L' := L) (R' := zw_RC h sp none) rfl zc_3_189 gd_X1_comesFrom rfl rfl rfl (Nat.le_of_ble_eq_true rfl) (ct_X1_comesFrom (d := _) (I := I) (g := 0) hT hb hw.1 (ok_w_g hw (by unfold fe_g; first | rw [if_pos c92] | rw [if_neg c92])).2.1 (ok_w_g hw (by unfold fe_g; first | rw [if_pos c92] | rw [if_neg c92])).2.2) ⟨Nat.le_refl _, Nat.le_refl _⟩ ?_
            refine zv_run 0 (pc' := 106) (lo' := [some (.ref 36), some (.ref 4), some (.ref ww), some (.int t)]) (st' := [.int (fc_is I ww 0)]) (I' := (fc_m I ww 0)) (L' := L) (R' := zw_RC h sp none) rfl ?_
            exact zv_zret (zs_at rfl) rfl (fc_is_01 _ _ _) ⟨Nat.le_refl _, Nat.le_refl _⟩ (zw_to (by unfold fe_can; rw [if_neg c5, if_pos c17, if_pos c31, if_pos (show fe_lf I none _ ww t = 0 from rfl), (show fe_g I 4 = 0 from by unfold fe_g; rw [if_pos c92])]) (by unfold fe_canm; rw [if_neg c5, if_pos c17, if_pos c31, if_pos (show fe_lf I none _ ww t = 0 from rfl), (show fe_g I 4 = 0 from by unfold fe_g; rw [if_pos c92])]; rfl) rfl rfl)
          · have _c := c92
            refine zv_run 3 (pc' := 103) (lo' := [some (.ref 36), some (.ref 4), some (.ref ww), some (.int t)]) (st' := [.int (I 4 9), .ref ww, .ref 37, .ref 40]) (I' := I) (L' := L) (R' := zw_RC h sp none) rfl ?_
            refine zv_cV (M' := mm_X1_comesFrom) (ci := 1) (a := 40) (av := [.ref 37, .ref ww, .int (I 4 9)]) (st := []) (r := some (.int (fc_is I ww (I 4 9)))) (I' := (fc_m I ww (I 4 9))) (L' := L) (R' := zw_RC h sp none) rfl zc_3_189 gd_X1_comesFrom rfl rfl rfl (Nat.le_of_ble_eq_true rfl) (ct_X1_comesFrom (d := _) (I := I) (g := (I 4 9)) hT hb hw.1 (ok_w_g hw (by unfold fe_g; first | rw [if_pos c92] | rw [if_neg c92])).2.1 (ok_w_g hw (by unfold fe_g; first | rw [if_pos c92] | rw [if_neg c92])).2.2) ⟨Nat.le_refl _, Nat.le_refl _⟩ ?_
            refine zv_run 0 (pc' := 106) (lo' := [some (.ref 36), some (.ref 4), some (.ref ww), some (.int t)]) (st' := [.int (fc_is I ww (I 4 9))]) (I' := (fc_m I ww (I 4 9))) (L' := L) (R' := zw_RC h sp none) rfl ?_
            exact zv_zret (zs_at rfl) rfl (fc_is_01 _ _ _) ⟨Nat.le_refl _, Nat.le_refl _⟩ (zw_to (by unfold fe_can; rw [if_neg c5, if_pos c17, if_pos c31, if_pos (show fe_lf I none _ ww t = 0 from rfl), (show fe_g I 4 = I 4 9 from by unfold fe_g; rw [if_neg c92])]) (by unfold fe_canm; rw [if_neg c5, if_pos c17, if_pos c31, if_pos (show fe_lf I none _ ww t = 0 from rfl), (show fe_g I 4 = I 4 9 from by unfold fe_g; rw [if_neg c92])]; rfl) rfl rfl)
        · have _c := c31
          refine zv_run 1 (pc' := 35) (lo' := [some (.ref 36), some (.ref 4), some (.ref ww), some (.int t)]) (st' := [.int 0]) (I' := I) (L' := L) (R' := zw_RC h sp none) rfl ?_
          exact zv_zret (zs_at rfl) rfl (Or.inl rfl) ⟨Nat.le_refl _, Nat.le_refl _⟩ (zw_to (by unfold fe_can; rw [if_neg c5, if_pos c17, if_neg c31]) (by unfold fe_canm; rw [if_neg c5, if_pos c17, if_neg c31]) rfl rfl)
  · refine zv_entry gd_X3_can (Nat.le_of_ble_eq_true rfl) ?_
    refine zv_run 1 (pc' := 1) (lo' := [some (.ref 36), some (.ref 14), some (.ref ww), some (.int t)]) (st' := [.ref ww]) (I' := I) (L' := L) (R' := zw_RC h sp none) rfl ?_
    refine zv_get (ci := 2) (k := 9) (t := 0) (zs_at rfl) (zf_ok rfl) (bt_S hb) rfl ?_
    refine zv_run 0 (pc' := 4) (lo' := [some (.ref 36), some (.ref 14), some (.ref ww), some (.int t)]) (st' := [.int (I ww 9)]) (I' := I) (L' := L) (R' := zw_RC h sp none) rfl ?_
    refine zv_run 1 (pc' := 5) (lo' := [some (.ref 36), some (.ref 14), some (.ref ww), some (.int t)]) (st' := [.int t, .int (I ww 9)]) (I' := I) (L' := L) (R' := zw_RC h sp none) rfl ?_
    refine zv_icmp_gt (tgt := 34) (zs_at rfl) (by decide) (fun c5 => ?_) (fun c5 => ?_)
    · have _c := c5
      refine zv_run 1 (pc' := 35) (lo' := [some (.ref 36), some (.ref 14), some (.ref ww), some (.int t)]) (st' := [.int 0]) (I' := I) (L' := L) (R' := zw_RC h sp none) rfl ?_
      exact zv_zret (zs_at rfl) rfl (Or.inl rfl) ⟨Nat.le_refl _, Nat.le_refl _⟩ (zw_to (by unfold fe_can; rw [if_pos c5]) (by unfold fe_canm; rw [if_pos c5]) rfl rfl)
    · have _c := c5
      refine zv_run 3 (pc' := 13) (lo' := [some (.ref 36), some (.ref 14), some (.ref ww), some (.int t)]) (st' := [.ref ww, .int (I 36 6)]) (I' := I) (L' := L) (R' := zw_RC h sp none) rfl ?_
      refine zv_get (ci := 2) (k := 0) (t := 0) (zs_at rfl) (zf_ok rfl) (bt_S hb) rfl ?_
      refine zv_run 0 (pc' := 16) (lo' := [some (.ref 36), some (.ref 14), some (.ref ww), some (.int t)]) (st' := [.int (I ww 0), .int (I 36 6)]) (I' := I) (L' := L) (R' := zw_RC h sp none) rfl ?_
      refine zv_run 1 (pc' := 17) (lo' := [some (.ref 36), some (.ref 14), some (.ref ww), some (.int t)]) (st' := [.int ((I 36 6) &&& (I ww 0))]) (I' := I) (L' := L) (R' := zw_RC h sp none) rfl ?_
      refine zv_if_ne (tgt := 34) (zs_at rfl) (by decide) (fun c17 => ?_) (fun c17 => ?_)
      · have _c := c17
        refine zv_run 1 (pc' := 35) (lo' := [some (.ref 36), some (.ref 14), some (.ref ww), some (.int t)]) (st' := [.int 0]) (I' := I) (L' := L) (R' := zw_RC h sp none) rfl ?_
        exact zv_zret (zs_at rfl) rfl (Or.inl rfl) ⟨Nat.le_refl _, Nat.le_refl _⟩ (zw_to (by unfold fe_can; rw [if_neg c5, if_neg c17]) (by unfold fe_canm; rw [if_neg c5, if_neg c17]) rfl rfl)
      · have _c := c17
        refine zv_run 1 (pc' := 21) (lo' := [some (.ref 36), some (.ref 14), some (.ref ww), some (.int t)]) (st' := [.ref ww]) (I' := I) (L' := L) (R' := zw_RC h sp none) rfl ?_
        refine zv_get (ci := 2) (k := 7) (t := 0) (zs_at rfl) (zf_ok rfl) (bt_S hb) rfl ?_
        refine zv_run 0 (pc' := 24) (lo' := [some (.ref 36), some (.ref 14), some (.ref ww), some (.int t)]) (st' := [.int (I ww 7)]) (I' := I) (L' := L) (R' := zw_RC h sp none) rfl ?_
        refine zv_run 5 (pc' := 31) (lo' := [some (.ref 36), some (.ref 14), some (.ref ww), some (.int t)]) (st' := [.int ((I ww 7) &&& ((I 36 6) ^^^ (-1)))]) (I' := I) (L' := L) (R' := zw_RC h sp none) rfl ?_
        refine zv_if_eq (tgt := 36) (zs_at rfl) (by decide) (fun c31 => ?_) (fun c31 => ?_)
        · have _c := c31
          refine zv_run 2 (pc' := 40) (lo' := [some (.ref 36), some (.ref 14), some (.ref ww), some (.int t)]) (st' := [.null]) (I' := I) (L' := L) (R' := zw_RC h sp none) rfl ?_
          refine zv_ifnullN (tgt := 75) (zs_at rfl) (by decide) ?_
          refine zv_run 9 (pc' := 92) (lo' := [some (.ref 36), some (.ref 14), some (.ref ww), some (.int t)]) (st' := [.int (I 14 10), .int (I 36 3), .ref ww, .ref 37, .ref 40]) (I' := I) (L' := L) (R' := zw_RC h sp none) rfl ?_
          refine zv_icmp_lt (tgt := 102) (zs_at rfl) (by decide) (fun c92 => ?_) (fun c92 => ?_)
          · have _c := c92
            refine zv_run 1 (pc' := 103) (lo' := [some (.ref 36), some (.ref 14), some (.ref ww), some (.int t)]) (st' := [.int 0, .ref ww, .ref 37, .ref 40]) (I' := I) (L' := L) (R' := zw_RC h sp none) rfl ?_
            refine zv_cV (M' := mm_X1_comesFrom) (ci := 1) (a := 40) (av := [.ref 37, .ref ww, .int 0]) (st := []) (r := some (.int (fc_is I ww 0))) (I' := (fc_m I ww 0)) (L' := L) (R' := zw_RC h sp none) rfl zc_3_189 gd_X1_comesFrom rfl rfl rfl (Nat.le_of_ble_eq_true rfl) (ct_X1_comesFrom (d := _) (I := I) (g := 0) hT hb hw.1 (ok_w_g hw (by unfold fe_g; first | rw [if_pos c92] | rw [if_neg c92])).2.1 (ok_w_g hw (by unfold fe_g; first | rw [if_pos c92] | rw [if_neg c92])).2.2) ⟨Nat.le_refl _, Nat.le_refl _⟩ ?_
            refine zv_run 0 (pc' := 106) (lo' := [some (.ref 36), some (.ref 14), some (.ref ww), some (.int t)]) (st' := [.int (fc_is I ww 0)]) (I' := (fc_m I ww 0)) (L' := L) (R' := zw_RC h sp none) rfl ?_
            exact zv_zret (zs_at rfl) rfl (fc_is_01 _ _ _) ⟨Nat.le_refl _, Nat.le_refl _⟩ (zw_to (by unfold fe_can; rw [if_neg c5, if_pos c17, if_pos c31, if_pos (show fe_lf I none _ ww t = 0 from rfl), (show fe_g I 14 = 0 from by unfold fe_g; rw [if_pos c92])]) (by unfold fe_canm; rw [if_neg c5, if_pos c17, if_pos c31, if_pos (show fe_lf I none _ ww t = 0 from rfl), (show fe_g I 14 = 0 from by unfold fe_g; rw [if_pos c92])]; rfl) rfl rfl)
          · have _c := c92
            refine zv_run 3 (pc' := 103) (lo' := [some (.ref 36), some (.ref 14), some (.ref ww), some (.int t)]) (st' := [.int (I 14 9), .ref ww, .ref 37, .ref 40]) (I' := I) (L' := L) (R' := zw_RC h sp none) rfl ?_
            refine zv_cV (M' := mm_X1_comesFrom) (ci := 1) (a := 40) (av := [.ref 37, .ref ww, .int (I 14 9)]) (st := []) (r := some (.int (fc_is I ww (I 14 9)))) (I' := (fc_m I ww (I 14 9))) (L' := L) (R' := zw_RC h sp none) rfl zc_3_189 gd_X1_comesFrom rfl rfl rfl (Nat.le_of_ble_eq_true rfl) (ct_X1_comesFrom (d := _) (I := I) (g := (I 14 9)) hT hb hw.1 (ok_w_g hw (by unfold fe_g; first | rw [if_pos c92] | rw [if_neg c92])).2.1 (ok_w_g hw (by unfold fe_g; first | rw [if_pos c92] | rw [if_neg c92])).2.2) ⟨Nat.le_refl _, Nat.le_refl _⟩ ?_
            refine zv_run 0 (pc' := 106) (lo' := [some (.ref 36), some (.ref 14), some (.ref ww), some (.int t)]) (st' := [.int (fc_is I ww (I 14 9))]) (I' := (fc_m I ww (I 14 9))) (L' := L) (R' := zw_RC h sp none) rfl ?_
            exact zv_zret (zs_at rfl) rfl (fc_is_01 _ _ _) ⟨Nat.le_refl _, Nat.le_refl _⟩ (zw_to (by unfold fe_can; rw [if_neg c5, if_pos c17, if_pos c31, if_pos (show fe_lf I none _ ww t = 0 from rfl), (show fe_g I 14 = I 14 9 from by unfold fe_g; rw [if_neg c92])]) (by unfold fe_canm; rw [if_neg c5, if_pos c17, if_pos c31, if_pos (show fe_lf I none _ ww t = 0 from rfl), (show fe_g I 14 = I 14 9 from by unfold fe_g; rw [if_neg c92])]; rfl) rfl rfl)
        · have _c := c31
          refine zv_run 1 (pc' := 35) (lo' := [some (.ref 36), some (.ref 14), some (.ref ww), some (.int t)]) (st' := [.int 0]) (I' := I) (L' := L) (R' := zw_RC h sp none) rfl ?_
          exact zv_zret (zs_at rfl) rfl (Or.inl rfl) ⟨Nat.le_refl _, Nat.le_refl _⟩ (zw_to (by unfold fe_can; rw [if_neg c5, if_pos c17, if_neg c31]) (by unfold fe_canm; rw [if_neg c5, if_pos c17, if_neg c31]) rfl rfl)
theorem ct_X3_can_s {d : Nat} {I : zx_I} {L : zx_L} {h sp : Nat} {ww : Nat} {t : Int32} {wl : Nat} {a : Nat} (ha : a = 4 ∨ a = 14) (hT : tk_ok I) (hb : bt ww) (hl : bt wl) (hw : ok_w I a ww) : zx_M0 mm_X3_can (d + 2) 0 0 [.ref 36, .ref a, .ref ww, .int t] zw_SC I L (zw_RC h sp (some wl)) (zw_ret (some (.int (fe_can I (some wl) a ww t))) zw_SC (fe_canm I (some wl) a ww t) L (zw_RC h sp (some wl))) := by
  rcases ha with rfl | rfl
  · refine zv_entry gd_X3_can (Nat.le_of_ble_eq_true rfl) ?_
    refine zv_run 1 (pc' := 1) (lo' := [some (.ref 36), some (.ref 4), some (.ref ww), some (.int t)]) (st' := [.ref ww]) (I' := I) (L' := L) (R' := zw_RC h sp (some wl)) rfl ?_
    refine zv_get (ci := 2) (k := 9) (t := 0) (zs_at rfl) (zf_ok rfl) (bt_S hb) rfl ?_
    refine zv_run 0 (pc' := 4) (lo' := [some (.ref 36), some (.ref 4), some (.ref ww), some (.int t)]) (st' := [.int (I ww 9)]) (I' := I) (L' := L) (R' := zw_RC h sp (some wl)) rfl ?_
    refine zv_run 1 (pc' := 5) (lo' := [some (.ref 36), some (.ref 4), some (.ref ww), some (.int t)]) (st' := [.int t, .int (I ww 9)]) (I' := I) (L' := L) (R' := zw_RC h sp (some wl)) rfl ?_
    refine zv_icmp_gt (tgt := 34) (zs_at rfl) (by decide) (fun c5 => ?_) (fun c5 => ?_)
    · have _c := c5
      refine zv_run 1 (pc' := 35) (lo' := [some (.ref 36), some (.ref 4), some (.ref ww), some (.int t)]) (st' := [.int 0]) (I' := I) (L' := L) (R' := zw_RC h sp (some wl)) rfl ?_
      exact zv_zret (zs_at rfl) rfl (Or.inl rfl) ⟨Nat.le_refl _, Nat.le_refl _⟩ (zw_to (by unfold fe_can; rw [if_pos c5]) (by unfold fe_canm; rw [if_pos c5]) rfl rfl)
    · have _c := c5
      refine zv_run 3 (pc' := 13) (lo' := [some (.ref 36), some (.ref 4), some (.ref ww), some (.int t)]) (st' := [.ref ww, .int (I 36 6)]) (I' := I) (L' := L) (R' := zw_RC h sp (some wl)) rfl ?_
      refine zv_get (ci := 2) (k := 0) (t := 0) (zs_at rfl) (zf_ok rfl) (bt_S hb) rfl ?_
      refine zv_run 0 (pc' := 16) (lo' := [some (.ref 36), some (.ref 4), some (.ref ww), some (.int t)]) (st' := [.int (I ww 0), .int (I 36 6)]) (I' := I) (L' := L) (R' := zw_RC h sp (some wl)) rfl ?_
      refine zv_run 1 (pc' := 17) (lo' := [some (.ref 36), some (.ref 4), some (.ref ww), some (.int t)]) (st' := [.int ((I 36 6) &&& (I ww 0))]) (I' := I) (L' := L) (R' := zw_RC h sp (some wl)) rfl ?_
      refine zv_if_ne (tgt := 34) (zs_at rfl) (by decide) (fun c17 => ?_) (fun c17 => ?_)
      · have _c := c17
        refine zv_run 1 (pc' := 35) (lo' := [some (.ref 36), some (.ref 4), some (.ref ww), some (.int t)]) (st' := [.int 0]) (I' := I) (L' := L) (R' := zw_RC h sp (some wl)) rfl ?_
        exact zv_zret (zs_at rfl) rfl (Or.inl rfl) ⟨Nat.le_refl _, Nat.le_refl _⟩ (zw_to (by unfold fe_can; rw [if_neg c5, if_neg c17]) (by unfold fe_canm; rw [if_neg c5, if_neg c17]) rfl rfl)
      · have _c := c17
        refine zv_run 1 (pc' := 21) (lo' := [some (.ref 36), some (.ref 4), some (.ref ww), some (.int t)]) (st' := [.ref ww]) (I' := I) (L' := L) (R' := zw_RC h sp (some wl)) rfl ?_
        refine zv_get (ci := 2) (k := 7) (t := 0) (zs_at rfl) (zf_ok rfl) (bt_S hb) rfl ?_
        refine zv_run 0 (pc' := 24) (lo' := [some (.ref 36), some (.ref 4), some (.ref ww), some (.int t)]) (st' := [.int (I ww 7)]) (I' := I) (L' := L) (R' := zw_RC h sp (some wl)) rfl ?_
        refine zv_run 5 (pc' := 31) (lo' := [some (.ref 36), some (.ref 4), some (.ref ww), some (.int t)]) (st' := [.int ((I ww 7) &&& ((I 36 6) ^^^ (-1)))]) (I' := I) (L' := L) (R' := zw_RC h sp (some wl)) rfl ?_
        refine zv_if_eq (tgt := 36) (zs_at rfl) (by decide) (fun c31 => ?_) (fun c31 => ?_)
        · have _c := c31
          refine zv_run 2 (pc' := 40) (lo' := [some (.ref 36), some (.ref 4), some (.ref ww), some (.int t)]) (st' := [.ref wl]) (I' := I) (L' := L) (R' := zw_RC h sp (some wl)) rfl ?_
          refine zv_ifnull (zs_at rfl) ?_
          refine zv_run 2 (pc' := 47) (lo' := [some (.ref 36), some (.ref 4), some (.ref ww), some (.int t)]) (st' := [.ref wl]) (I' := I) (L' := L) (R' := zw_RC h sp (some wl)) rfl ?_
          refine zv_get (ci := 2) (k := 11) (t := 0) (zs_at rfl) (zf_ok rfl) (bt_S hl) rfl ?_
          refine zv_run 0 (pc' := 50) (lo' := [some (.ref 36), some (.ref 4), some (.ref ww), some (.int t)]) (st' := [.int (I wl 11)]) (I' := I) (L' := L) (R' := zw_RC h sp (some wl)) rfl ?_
          refine zv_run 1 (pc' := 51) (lo' := [some (.ref 36), some (.ref 4), some (.ref ww), some (.int t)]) (st' := [.int t, .int (I wl 11)]) (I' := I) (L' := L) (R' := zw_RC h sp (some wl)) rfl ?_
          refine zv_icmp_ne (tgt := 75) (zs_at rfl) (by decide) (fun c51 => ?_) (fun c51 => ?_)
          · have _c := c51
            refine zv_run 9 (pc' := 92) (lo' := [some (.ref 36), some (.ref 4), some (.ref ww), some (.int t)]) (st' := [.int (I 4 10), .int (I 36 3), .ref ww, .ref 37, .ref 40]) (I' := I) (L' := L) (R' := zw_RC h sp (some wl)) rfl ?_
            refine zv_icmp_lt (tgt := 102) (zs_at rfl) (by decide) (fun c92 => ?_) (fun c92 => ?_)
            · have _c := c92
              refine zv_run 1 (pc' := 103) (lo' := [some (.ref 36), some (.ref 4), some (.ref ww), some (.int t)]) (st' := [.int 0, .ref ww, .ref 37, .ref 40]) (I' := I) (L' := L) (R' := zw_RC h sp (some wl)) rfl ?_
              refine zv_cV (M' := mm_X1_comesFrom) (ci := 1) (a := 40) (av := [.ref 37, .ref ww, .int 0]) (st := []) (r := some (.int (fc_is I ww 0))) (I' := (fc_m I ww 0)) (L' := L) (R' := zw_RC h sp (some wl)) rfl zc_3_189 gd_X1_comesFrom rfl rfl rfl (Nat.le_of_ble_eq_true rfl) (ct_X1_comesFrom (d := _) (I := I) (g := 0) hT hb hw.1 (ok_w_g hw (by unfold fe_g; first | rw [if_pos c92] | rw [if_neg c92])).2.1 (ok_w_g hw (by unfold fe_g; first | rw [if_pos c92] | rw [if_neg c92])).2.2) ⟨Nat.le_refl _, Nat.le_refl _⟩ ?_
              refine zv_run 0 (pc' := 106) (lo' := [some (.ref 36), some (.ref 4), some (.ref ww), some (.int t)]) (st' := [.int (fc_is I ww 0)]) (I' := (fc_m I ww 0)) (L' := L) (R' := zw_RC h sp (some wl)) rfl ?_
              exact zv_zret (zs_at rfl) rfl (fc_is_01 _ _ _) ⟨Nat.le_refl _, Nat.le_refl _⟩ (zw_to (by unfold fe_can; rw [if_neg c5, if_pos c17, if_pos c31, if_pos (by unfold fe_lf; dsimp only; rw [if_neg c51]), (show fe_g I 4 = 0 from by unfold fe_g; rw [if_pos c92])]) (by unfold fe_canm; rw [if_neg c5, if_pos c17, if_pos c31, if_pos (by unfold fe_lf; dsimp only; rw [if_neg c51]), (show fe_g I 4 = 0 from by unfold fe_g; rw [if_pos c92])]; unfold fe_J; dsimp only; rw [if_neg c51]) rfl rfl)
            · have _c := c92
              refine zv_run 3 (pc' := 103) (lo' := [some (.ref 36), some (.ref 4), some (.ref ww), some (.int t)]) (st' := [.int (I 4 9), .ref ww, .ref 37, .ref 40]) (I' := I) (L' := L) (R' := zw_RC h sp (some wl)) rfl ?_
              refine zv_cV (M' := mm_X1_comesFrom) (ci := 1) (a := 40) (av := [.ref 37, .ref ww, .int (I 4 9)]) (st := []) (r := some (.int (fc_is I ww (I 4 9)))) (I' := (fc_m I ww (I 4 9))) (L' := L) (R' := zw_RC h sp (some wl)) rfl zc_3_189 gd_X1_comesFrom rfl rfl rfl (Nat.le_of_ble_eq_true rfl) (ct_X1_comesFrom (d := _) (I := I) (g := (I 4 9)) hT hb hw.1 (ok_w_g hw (by unfold fe_g; first | rw [if_pos c92] | rw [if_neg c92])).2.1 (ok_w_g hw (by unfold fe_g; first | rw [if_pos c92] | rw [if_neg c92])).2.2) ⟨Nat.le_refl _, Nat.le_refl _⟩ ?_
              refine zv_run 0 (pc' := 106) (lo' := [some (.ref 36), some (.ref 4), some (.ref ww), some (.int t)]) (st' := [.int (fc_is I ww (I 4 9))]) (I' := (fc_m I ww (I 4 9))) (L' := L) (R' := zw_RC h sp (some wl)) rfl ?_
              exact zv_zret (zs_at rfl) rfl (fc_is_01 _ _ _) ⟨Nat.le_refl _, Nat.le_refl _⟩ (zw_to (by unfold fe_can; rw [if_neg c5, if_pos c17, if_pos c31, if_pos (by unfold fe_lf; dsimp only; rw [if_neg c51]), (show fe_g I 4 = I 4 9 from by unfold fe_g; rw [if_neg c92])]) (by unfold fe_canm; rw [if_neg c5, if_pos c17, if_pos c31, if_pos (by unfold fe_lf; dsimp only; rw [if_neg c51]), (show fe_g I 4 = I 4 9 from by unfold fe_g; rw [if_neg c92])]; unfold fe_J; dsimp only; rw [if_neg c51]) rfl rfl)
          · have _c := c51
            refine zv_run 7 (pc' := 67) (lo' := [some (.ref 36), some (.ref 4), some (.ref ww), some (.int t)]) (st' := [.int (I 4 11), .ref ww, .ref wl, .ref 40]) (I' := I) (L' := L) (R' := zw_RC h sp (some wl)) rfl ?_
            refine zv_cV (M' := mm_X1_isLeftBy) (ci := 1) (a := 40) (av := [.ref wl, .ref ww, .int (I 4 11)]) (st := []) (r := some (.int (fb_left I wl ww (I 4 11)))) (I' := (fb_leftm I wl (I 4 11))) (L' := L) (R' := zw_RC h sp (some wl)) rfl zc_3_179 gd_X1_isLeftBy rfl rfl rfl (Nat.le_of_ble_eq_true rfl) (ct_X1_isLeftBy (d := _) hl hb) ⟨Nat.le_refl _, Nat.le_refl _⟩ ?_
            refine zv_run 0 (pc' := 70) (lo' := [some (.ref 36), some (.ref 4), some (.ref ww), some (.int t)]) (st' := [.int (fb_left I wl ww (I 4 11))]) (I' := (fb_leftm I wl (I 4 11))) (L' := L) (R' := zw_RC h sp (some wl)) rfl ?_
            refine zv_if_eq (tgt := 75) (zs_at rfl) (by decide) (fun c70 => ?_) (fun c70 => ?_)
            · have _c := c70
              refine zv_run 9 (pc' := 92) (lo' := [some (.ref 36), some (.ref 4), some (.ref ww), some (.int t)]) (st' := [.int (I 4 10), .int (I 36 3), .ref ww, .ref 37, .ref 40]) (I' := (fb_leftm I wl (I 4 11))) (L' := L) (R' := zw_RC h sp (some wl)) rfl ?_
              refine zv_icmp_lt (tgt := 102) (zs_at rfl) (by decide) (fun c92 => ?_) (fun c92 => ?_)
              · have _c := c92
                refine zv_run 1 (pc' := 103) (lo' := [some (.ref 36), some (.ref 4), some (.ref ww), some (.int t)]) (st' := [.int 0, .ref ww, .ref 37, .ref 40]) (I' := (fb_leftm I wl (I 4 11))) (L' := L) (R' := zw_RC h sp (some wl)) rfl ?_
                refine zv_cV (M' := mm_X1_comesFrom) (ci := 1) (a := 40) (av := [.ref 37, .ref ww, .int 0]) (st := []) (r := some (.int (fc_is (fb_leftm I wl (I 4 11)) ww 0))) (I' := (fc_m (fb_leftm I wl (I 4 11)) ww 0)) (L' := L) (R' := zw_RC h sp (some wl)) rfl zc_3_189 gd_X1_comesFrom rfl rfl rfl (Nat.le_of_ble_eq_true rfl) (ct_X1_comesFrom (d := _) (I := (fb_leftm I wl (I 4 11))) (g := 0) hT hb (by rw [zx_uI4_ne hb]; exact hw.1) (by rw [(fc_cg (I := I) (J := (fb_leftm I wl (I 4 11))) (ww := ww) (g := 0) rfl rfl (zx_uI4_ne hb)).1]; exact (ok_w_g hw (by unfold fe_g; first | rw [if_pos c92] | rw [if_neg c92])).2.1) (by rw [(fc_cg (I := I) (J := (fb_leftm I wl (I 4 11))) (ww := ww) (g := 0) rfl rfl (zx_uI4_ne hb)).1]; exact (ok_w_g hw (by unfold fe_g; first | rw [if_pos c92] | rw [if_neg c92])).2.2)) ⟨Nat.le_refl _, Nat.le_refl _⟩ ?_
                refine zv_run 0 (pc' := 106) (lo' := [some (.ref 36), some (.ref 4), some (.ref ww), some (.int t)]) (st' := [.int (fc_is (fb_leftm I wl (I 4 11)) ww 0)]) (I' := (fc_m (fb_leftm I wl (I 4 11)) ww 0)) (L' := L) (R' := zw_RC h sp (some wl)) rfl ?_
                exact zv_zret (zs_at rfl) rfl (fc_is_01 _ _ _) ⟨Nat.le_refl _, Nat.le_refl _⟩ (zw_to (by rw [(fc_cg (I := I) (J := fb_leftm I wl (I 4 11)) (ww := ww) (g := 0) rfl rfl (zx_uI4_ne hb)).2]; unfold fe_can; rw [if_neg c5, if_pos c17, if_pos c31, if_pos (by unfold fe_lf; dsimp only; rw [if_pos c51]; exact c70), (show fe_g I 4 = 0 from by unfold fe_g; rw [if_pos c92])]) (by unfold fe_canm; rw [if_neg c5, if_pos c17, if_pos c31, if_pos (by unfold fe_lf; dsimp only; rw [if_pos c51]; exact c70), (show fe_g I 4 = 0 from by unfold fe_g; rw [if_pos c92])]; unfold fe_J; dsimp only; rw [if_pos c51]) rfl rfl)
              · have _c := c92
                refine zv_run 3 (pc' := 103) (lo' := [some (.ref 36), some (.ref 4), some (.ref ww), some (.int t)]) (st' := [.int (I 4 9), .ref ww, .ref 37, .ref 40]) (I' := (fb_leftm I wl (I 4 11))) (L' := L) (R' := zw_RC h sp (some wl)) rfl ?_
                refine zv_cV (M' := mm_X1_comesFrom) (ci := 1) (a := 40) (av := [.ref 37, .ref ww, .int (I 4 9)]) (st := []) (r := some (.int (fc_is (fb_leftm I wl (I 4 11)) ww (I 4 9)))) (I' := (fc_m (fb_leftm I wl (I 4 11)) ww (I 4 9))) (L' := L) (R' := zw_RC h sp (some wl)) rfl zc_3_189 gd_X1_comesFrom rfl rfl rfl (Nat.le_of_ble_eq_true rfl) (ct_X1_comesFrom (d := _) (I := (fb_leftm I wl (I 4 11))) (g := (I 4 9)) hT hb (by rw [zx_uI4_ne hb]; exact hw.1) (by rw [(fc_cg (I := I) (J := (fb_leftm I wl (I 4 11))) (ww := ww) (g := (I 4 9)) rfl rfl (zx_uI4_ne hb)).1]; exact (ok_w_g hw (by unfold fe_g; first | rw [if_pos c92] | rw [if_neg c92])).2.1) (by rw [(fc_cg (I := I) (J := (fb_leftm I wl (I 4 11))) (ww := ww) (g := (I 4 9)) rfl rfl (zx_uI4_ne hb)).1]; exact (ok_w_g hw (by unfold fe_g; first | rw [if_pos c92] | rw [if_neg c92])).2.2)) ⟨Nat.le_refl _, Nat.le_refl _⟩ ?_
                refine zv_run 0 (pc' := 106) (lo' := [some (.ref 36), some (.ref 4), some (.ref ww), some (.int t)]) (st' := [.int (fc_is (fb_leftm I wl (I 4 11)) ww (I 4 9))]) (I' := (fc_m (fb_leftm I wl (I 4 11)) ww (I 4 9))) (L' := L) (R' := zw_RC h sp (some wl)) rfl ?_
                exact zv_zret (zs_at rfl) rfl (fc_is_01 _ _ _) ⟨Nat.le_refl _, Nat.le_refl _⟩ (zw_to (by rw [(fc_cg (I := I) (J := fb_leftm I wl (I 4 11)) (ww := ww) (g := I 4 9) rfl rfl (zx_uI4_ne hb)).2]; unfold fe_can; rw [if_neg c5, if_pos c17, if_pos c31, if_pos (by unfold fe_lf; dsimp only; rw [if_pos c51]; exact c70), (show fe_g I 4 = I 4 9 from by unfold fe_g; rw [if_neg c92])]) (by unfold fe_canm; rw [if_neg c5, if_pos c17, if_pos c31, if_pos (by unfold fe_lf; dsimp only; rw [if_pos c51]; exact c70), (show fe_g I 4 = I 4 9 from by unfold fe_g; rw [if_neg c92])]; unfold fe_J; dsimp only; rw [if_pos c51]) rfl rfl)
            · have _c := c70
              refine zv_run 1 (pc' := 74) (lo' := [some (.ref 36), some (.ref 4), some (.ref ww), some (.int t)]) (st' := [.int 1]) (I' := (fb_leftm I wl (I 4 11))) (L' := L) (R' := zw_RC h sp (some wl)) rfl ?_
              exact zv_zret (zs_at rfl) rfl (Or.inr rfl) ⟨Nat.le_refl _, Nat.le_refl _⟩ (zw_to (by unfold fe_can; rw [if_neg c5, if_pos c17, if_pos c31, if_neg (by unfold fe_lf; dsimp only; rw [if_pos c51]; exact c70)]) (by unfold fe_canm; rw [if_neg c5, if_pos c17, if_pos c31, if_neg (by unfold fe_lf; dsimp only; rw [if_pos c51]; exact c70)]; unfold fe_J; dsimp only; rw [if_pos c51]) rfl rfl)
        · have _c := c31
          refine zv_run 1 (pc' := 35) (lo' := [some (.ref 36), some (.ref 4), some (.ref ww), some (.int t)]) (st' := [.int 0]) (I' := I) (L' := L) (R' := zw_RC h sp (some wl)) rfl ?_
          exact zv_zret (zs_at rfl) rfl (Or.inl rfl) ⟨Nat.le_refl _, Nat.le_refl _⟩ (zw_to (by unfold fe_can; rw [if_neg c5, if_pos c17, if_neg c31]) (by unfold fe_canm; rw [if_neg c5, if_pos c17, if_neg c31]) rfl rfl)
  · refine zv_entry gd_X3_can (Nat.le_of_ble_eq_true rfl) ?_
    refine zv_run 1 (pc' := 1) (lo' := [some (.ref 36), some (.ref 14), some (.ref ww), some (.int t)]) (st' := [.ref ww]) (I' := I) (L' := L) (R' := zw_RC h sp (some wl)) rfl ?_
    refine zv_get (ci := 2) (k := 9) (t := 0) (zs_at rfl) (zf_ok rfl) (bt_S hb) rfl ?_
    refine zv_run 0 (pc' := 4) (lo' := [some (.ref 36), some (.ref 14), some (.ref ww), some (.int t)]) (st' := [.int (I ww 9)]) (I' := I) (L' := L) (R' := zw_RC h sp (some wl)) rfl ?_
    refine zv_run 1 (pc' := 5) (lo' := [some (.ref 36), some (.ref 14), some (.ref ww), some (.int t)]) (st' := [.int t, .int (I ww 9)]) (I' := I) (L' := L) (R' := zw_RC h sp (some wl)) rfl ?_
    refine zv_icmp_gt (tgt := 34) (zs_at rfl) (by decide) (fun c5 => ?_) (fun c5 => ?_)
    · have _c := c5
      refine zv_run 1 (pc' := 35) (lo' := [some (.ref 36), some (.ref 14), some (.ref ww), some (.int t)]) (st' := [.int 0]) (I' := I) (L' := L) (R' := zw_RC h sp (some wl)) rfl ?_
      exact zv_zret (zs_at rfl) rfl (Or.inl rfl) ⟨Nat.le_refl _, Nat.le_refl _⟩ (zw_to (by unfold fe_can; rw [if_pos c5]) (by unfold fe_canm; rw [if_pos c5]) rfl rfl)
    · have _c := c5
      refine zv_run 3 (pc' := 13) (lo' := [some (.ref 36), some (.ref 14), some (.ref ww), some (.int t)]) (st' := [.ref ww, .int (I 36 6)]) (I' := I) (L' := L) (R' := zw_RC h sp (some wl)) rfl ?_
      refine zv_get (ci := 2) (k := 0) (t := 0) (zs_at rfl) (zf_ok rfl) (bt_S hb) rfl ?_
      refine zv_run 0 (pc' := 16) (lo' := [some (.ref 36), some (.ref 14), some (.ref ww), some (.int t)]) (st' := [.int (I ww 0), .int (I 36 6)]) (I' := I) (L' := L) (R' := zw_RC h sp (some wl)) rfl ?_
      refine zv_run 1 (pc' := 17) (lo' := [some (.ref 36), some (.ref 14), some (.ref ww), some (.int t)]) (st' := [.int ((I 36 6) &&& (I ww 0))]) (I' := I) (L' := L) (R' := zw_RC h sp (some wl)) rfl ?_
      refine zv_if_ne (tgt := 34) (zs_at rfl) (by decide) (fun c17 => ?_) (fun c17 => ?_)
      · have _c := c17
        refine zv_run 1 (pc' := 35) (lo' := [some (.ref 36), some (.ref 14), some (.ref ww), some (.int t)]) (st' := [.int 0]) (I' := I) (L' := L) (R' := zw_RC h sp (some wl)) rfl ?_
        exact zv_zret (zs_at rfl) rfl (Or.inl rfl) ⟨Nat.le_refl _, Nat.le_refl _⟩ (zw_to (by unfold fe_can; rw [if_neg c5, if_neg c17]) (by unfold fe_canm; rw [if_neg c5, if_neg c17]) rfl rfl)
      · have _c := c17
        refine zv_run 1 (pc' := 21) (lo' := [some (.ref 36), some (.ref 14), some (.ref ww), some (.int t)]) (st' := [.ref ww]) (I' := I) (L' := L) (R' := zw_RC h sp (some wl)) rfl ?_
        refine zv_get (ci := 2) (k := 7) (t := 0) (zs_at rfl) (zf_ok rfl) (bt_S hb) rfl ?_
        refine zv_run 0 (pc' := 24) (lo' := [some (.ref 36), some (.ref 14), some (.ref ww), some (.int t)]) (st' := [.int (I ww 7)]) (I' := I) (L' := L) (R' := zw_RC h sp (some wl)) rfl ?_
        refine zv_run 5 (pc' := 31) (lo' := [some (.ref 36), some (.ref 14), some (.ref ww), some (.int t)]) (st' := [.int ((I ww 7) &&& ((I 36 6) ^^^ (-1)))]) (I' := I) (L' := L) (R' := zw_RC h sp (some wl)) rfl ?_
        refine zv_if_eq (tgt := 36) (zs_at rfl) (by decide) (fun c31 => ?_) (fun c31 => ?_)
        · have _c := c31
          refine zv_run 2 (pc' := 40) (lo' := [some (.ref 36), some (.ref 14), some (.ref ww), some (.int t)]) (st' := [.ref wl]) (I' := I) (L' := L) (R' := zw_RC h sp (some wl)) rfl ?_
          refine zv_ifnull (zs_at rfl) ?_
          refine zv_run 2 (pc' := 47) (lo' := [some (.ref 36), some (.ref 14), some (.ref ww), some (.int t)]) (st' := [.ref wl]) (I' := I) (L' := L) (R' := zw_RC h sp (some wl)) rfl ?_
          refine zv_get (ci := 2) (k := 11) (t := 0) (zs_at rfl) (zf_ok rfl) (bt_S hl) rfl ?_
          refine zv_run 0 (pc' := 50) (lo' := [some (.ref 36), some (.ref 14), some (.ref ww), some (.int t)]) (st' := [.int (I wl 11)]) (I' := I) (L' := L) (R' := zw_RC h sp (some wl)) rfl ?_
          refine zv_run 1 (pc' := 51) (lo' := [some (.ref 36), some (.ref 14), some (.ref ww), some (.int t)]) (st' := [.int t, .int (I wl 11)]) (I' := I) (L' := L) (R' := zw_RC h sp (some wl)) rfl ?_
          refine zv_icmp_ne (tgt := 75) (zs_at rfl) (by decide) (fun c51 => ?_) (fun c51 => ?_)
          · have _c := c51
            refine zv_run 9 (pc' := 92) (lo' := [some (.ref 36), some (.ref 14), some (.ref ww), some (.int t)]) (st' := [.int (I 14 10), .int (I 36 3), .ref ww, .ref 37, .ref 40]) (I' := I) (L' := L) (R' := zw_RC h sp (some wl)) rfl ?_
            refine zv_icmp_lt (tgt := 102) (zs_at rfl) (by decide) (fun c92 => ?_) (fun c92 => ?_)
            · have _c := c92
              refine zv_run 1 (pc' := 103) (lo' := [some (.ref 36), some (.ref 14), some (.ref ww), some (.int t)]) (st' := [.int 0, .ref ww, .ref 37, .ref 40]) (I' := I) (L' := L) (R' := zw_RC h sp (some wl)) rfl ?_
              refine zv_cV (M' := mm_X1_comesFrom) (ci := 1) (a := 40) (av := [.ref 37, .ref ww, .int 0]) (st := []) (r := some (.int (fc_is I ww 0))) (I' := (fc_m I ww 0)) (L' := L) (R' := zw_RC h sp (some wl)) rfl zc_3_189 gd_X1_comesFrom rfl rfl rfl (Nat.le_of_ble_eq_true rfl) (ct_X1_comesFrom (d := _) (I := I) (g := 0) hT hb hw.1 (ok_w_g hw (by unfold fe_g; first | rw [if_pos c92] | rw [if_neg c92])).2.1 (ok_w_g hw (by unfold fe_g; first | rw [if_pos c92] | rw [if_neg c92])).2.2) ⟨Nat.le_refl _, Nat.le_refl _⟩ ?_
              refine zv_run 0 (pc' := 106) (lo' := [some (.ref 36), some (.ref 14), some (.ref ww), some (.int t)]) (st' := [.int (fc_is I ww 0)]) (I' := (fc_m I ww 0)) (L' := L) (R' := zw_RC h sp (some wl)) rfl ?_
              exact zv_zret (zs_at rfl) rfl (fc_is_01 _ _ _) ⟨Nat.le_refl _, Nat.le_refl _⟩ (zw_to (by unfold fe_can; rw [if_neg c5, if_pos c17, if_pos c31, if_pos (by unfold fe_lf; dsimp only; rw [if_neg c51]), (show fe_g I 14 = 0 from by unfold fe_g; rw [if_pos c92])]) (by unfold fe_canm; rw [if_neg c5, if_pos c17, if_pos c31, if_pos (by unfold fe_lf; dsimp only; rw [if_neg c51]), (show fe_g I 14 = 0 from by unfold fe_g; rw [if_pos c92])]; unfold fe_J; dsimp only; rw [if_neg c51]) rfl rfl)
            · have _c := c92
              refine zv_run 3 (pc' := 103) (lo' := [some (.ref 36), some (.ref 14), some (.ref ww), some (.int t)]) (st' := [.int (I 14 9), .ref ww, .ref 37, .ref 40]) (I' := I) (L' := L) (R' := zw_RC h sp (some wl)) rfl ?_
              refine zv_cV (M' := mm_X1_comesFrom) (ci := 1) (a := 40) (av := [.ref 37, .ref ww, .int (I 14 9)]) (st := []) (r := some (.int (fc_is I ww (I 14 9)))) (I' := (fc_m I ww (I 14 9))) (L' := L) (R' := zw_RC h sp (some wl)) rfl zc_3_189 gd_X1_comesFrom rfl rfl rfl (Nat.le_of_ble_eq_true rfl) (ct_X1_comesFrom (d := _) (I := I) (g := (I 14 9)) hT hb hw.1 (ok_w_g hw (by unfold fe_g; first | rw [if_pos c92] | rw [if_neg c92])).2.1 (ok_w_g hw (by unfold fe_g; first | rw [if_pos c92] | rw [if_neg c92])).2.2) ⟨Nat.le_refl _, Nat.le_refl _⟩ ?_
              refine zv_run 0 (pc' := 106) (lo' := [some (.ref 36), some (.ref 14), some (.ref ww), some (.int t)]) (st' := [.int (fc_is I ww (I 14 9))]) (I' := (fc_m I ww (I 14 9))) (L' := L) (R' := zw_RC h sp (some wl)) rfl ?_
              exact zv_zret (zs_at rfl) rfl (fc_is_01 _ _ _) ⟨Nat.le_refl _, Nat.le_refl _⟩ (zw_to (by unfold fe_can; rw [if_neg c5, if_pos c17, if_pos c31, if_pos (by unfold fe_lf; dsimp only; rw [if_neg c51]), (show fe_g I 14 = I 14 9 from by unfold fe_g; rw [if_neg c92])]) (by unfold fe_canm; rw [if_neg c5, if_pos c17, if_pos c31, if_pos (by unfold fe_lf; dsimp only; rw [if_neg c51]), (show fe_g I 14 = I 14 9 from by unfold fe_g; rw [if_neg c92])]; unfold fe_J; dsimp only; rw [if_neg c51]) rfl rfl)
          · have _c := c51
            refine zv_run 7 (pc' := 67) (lo' := [some (.ref 36), some (.ref 14), some (.ref ww), some (.int t)]) (st' := [.int (I 14 11), .ref ww, .ref wl, .ref 40]) (I' := I) (L' := L) (R' := zw_RC h sp (some wl)) rfl ?_
            refine zv_cV (M' := mm_X1_isLeftBy) (ci := 1) (a := 40) (av := [.ref wl, .ref ww, .int (I 14 11)]) (st := []) (r := some (.int (fb_left I wl ww (I 14 11)))) (I' := (fb_leftm I wl (I 14 11))) (L' := L) (R' := zw_RC h sp (some wl)) rfl zc_3_179 gd_X1_isLeftBy rfl rfl rfl (Nat.le_of_ble_eq_true rfl) (ct_X1_isLeftBy (d := _) hl hb) ⟨Nat.le_refl _, Nat.le_refl _⟩ ?_
            refine zv_run 0 (pc' := 70) (lo' := [some (.ref 36), some (.ref 14), some (.ref ww), some (.int t)]) (st' := [.int (fb_left I wl ww (I 14 11))]) (I' := (fb_leftm I wl (I 14 11))) (L' := L) (R' := zw_RC h sp (some wl)) rfl ?_
            refine zv_if_eq (tgt := 75) (zs_at rfl) (by decide) (fun c70 => ?_) (fun c70 => ?_)
            · have _c := c70
              refine zv_run 9 (pc' := 92) (lo' := [some (.ref 36), some (.ref 14), some (.ref ww), some (.int t)]) (st' := [.int (I 14 10), .int (I 36 3), .ref ww, .ref 37, .ref 40]) (I' := (fb_leftm I wl (I 14 11))) (L' := L) (R' := zw_RC h sp (some wl)) rfl ?_
              refine zv_icmp_lt (tgt := 102) (zs_at rfl) (by decide) (fun c92 => ?_) (fun c92 => ?_)
              · have _c := c92
                refine zv_run 1 (pc' := 103) (lo' := [some (.ref 36), some (.ref 14), some (.ref ww), some (.int t)]) (st' := [.int 0, .ref ww, .ref 37, .ref 40]) (I' := (fb_leftm I wl (I 14 11))) (L' := L) (R' := zw_RC h sp (some wl)) rfl ?_
                refine zv_cV (M' := mm_X1_comesFrom) (ci := 1) (a := 40) (av := [.ref 37, .ref ww, .int 0]) (st := []) (r := some (.int (fc_is (fb_leftm I wl (I 14 11)) ww 0))) (I' := (fc_m (fb_leftm I wl (I 14 11)) ww 0)) (L' := L) (R' := zw_RC h sp (some wl)) rfl zc_3_189 gd_X1_comesFrom rfl rfl rfl (Nat.le_of_ble_eq_true rfl) (ct_X1_comesFrom (d := _) (I := (fb_leftm I wl (I 14 11))) (g := 0) hT hb (by rw [zx_uI4_ne hb]; exact hw.1) (by rw [(fc_cg (I := I) (J := (fb_leftm I wl (I 14 11))) (ww := ww) (g := 0) rfl rfl (zx_uI4_ne hb)).1]; exact (ok_w_g hw (by unfold fe_g; first | rw [if_pos c92] | rw [if_neg c92])).2.1) (by rw [(fc_cg (I := I) (J := (fb_leftm I wl (I 14 11))) (ww := ww) (g := 0) rfl rfl (zx_uI4_ne hb)).1]; exact (ok_w_g hw (by unfold fe_g; first | rw [if_pos c92] | rw [if_neg c92])).2.2)) ⟨Nat.le_refl _, Nat.le_refl _⟩ ?_
                refine zv_run 0 (pc' := 106) (lo' := [some (.ref 36), some (.ref 14), some (.ref ww), some (.int t)]) (st' := [.int (fc_is (fb_leftm I wl (I 14 11)) ww 0)]) (I' := (fc_m (fb_leftm I wl (I 14 11)) ww 0)) (L' := L) (R' := zw_RC h sp (some wl)) rfl ?_
                exact zv_zret (zs_at rfl) rfl (fc_is_01 _ _ _) ⟨Nat.le_refl _, Nat.le_refl _⟩ (zw_to (by rw [(fc_cg (I := I) (J := fb_leftm I wl (I 14 11)) (ww := ww) (g := 0) rfl rfl (zx_uI4_ne hb)).2]; unfold fe_can; rw [if_neg c5, if_pos c17, if_pos c31, if_pos (by unfold fe_lf; dsimp only; rw [if_pos c51]; exact c70), (show fe_g I 14 = 0 from by unfold fe_g; rw [if_pos c92])]) (by unfold fe_canm; rw [if_neg c5, if_pos c17, if_pos c31, if_pos (by unfold fe_lf; dsimp only; rw [if_pos c51]; exact c70), (show fe_g I 14 = 0 from by unfold fe_g; rw [if_pos c92])]; unfold fe_J; dsimp only; rw [if_pos c51]) rfl rfl)
              · have _c := c92
                refine zv_run 3 (pc' := 103) (lo' := [some (.ref 36), some (.ref 14), some (.ref ww), some (.int t)]) (st' := [.int (I 14 9), .ref ww, .ref 37, .ref 40]) (I' := (fb_leftm I wl (I 14 11))) (L' := L) (R' := zw_RC h sp (some wl)) rfl ?_
                refine zv_cV (M' := mm_X1_comesFrom) (ci := 1) (a := 40) (av := [.ref 37, .ref ww, .int (I 14 9)]) (st := []) (r := some (.int (fc_is (fb_leftm I wl (I 14 11)) ww (I 14 9)))) (I' := (fc_m (fb_leftm I wl (I 14 11)) ww (I 14 9))) (L' := L) (R' := zw_RC h sp (some wl)) rfl zc_3_189 gd_X1_comesFrom rfl rfl rfl (Nat.le_of_ble_eq_true rfl) (ct_X1_comesFrom (d := _) (I := (fb_leftm I wl (I 14 11))) (g := (I 14 9)) hT hb (by rw [zx_uI4_ne hb]; exact hw.1) (by rw [(fc_cg (I := I) (J := (fb_leftm I wl (I 14 11))) (ww := ww) (g := (I 14 9)) rfl rfl (zx_uI4_ne hb)).1]; exact (ok_w_g hw (by unfold fe_g; first | rw [if_pos c92] | rw [if_neg c92])).2.1) (by rw [(fc_cg (I := I) (J := (fb_leftm I wl (I 14 11))) (ww := ww) (g := (I 14 9)) rfl rfl (zx_uI4_ne hb)).1]; exact (ok_w_g hw (by unfold fe_g; first | rw [if_pos c92] | rw [if_neg c92])).2.2)) ⟨Nat.le_refl _, Nat.le_refl _⟩ ?_
                refine zv_run 0 (pc' := 106) (lo' := [some (.ref 36), some (.ref 14), some (.ref ww), some (.int t)]) (st' := [.int (fc_is (fb_leftm I wl (I 14 11)) ww (I 14 9))]) (I' := (fc_m (fb_leftm I wl (I 14 11)) ww (I 14 9))) (L' := L) (R' := zw_RC h sp (some wl)) rfl ?_
                exact zv_zret (zs_at rfl) rfl (fc_is_01 _ _ _) ⟨Nat.le_refl _, Nat.le_refl _⟩ (zw_to (by rw [(fc_cg (I := I) (J := fb_leftm I wl (I 14 11)) (ww := ww) (g := I 14 9) rfl rfl (zx_uI4_ne hb)).2]; unfold fe_can; rw [if_neg c5, if_pos c17, if_pos c31, if_pos (by unfold fe_lf; dsimp only; rw [if_pos c51]; exact c70), (show fe_g I 14 = I 14 9 from by unfold fe_g; rw [if_neg c92])]) (by unfold fe_canm; rw [if_neg c5, if_pos c17, if_pos c31, if_pos (by unfold fe_lf; dsimp only; rw [if_pos c51]; exact c70), (show fe_g I 14 = I 14 9 from by unfold fe_g; rw [if_neg c92])]; unfold fe_J; dsimp only; rw [if_pos c51]) rfl rfl)
            · have _c := c70
              refine zv_run 1 (pc' := 74) (lo' := [some (.ref 36), some (.ref 14), some (.ref ww), some (.int t)]) (st' := [.int 1]) (I' := (fb_leftm I wl (I 14 11))) (L' := L) (R' := zw_RC h sp (some wl)) rfl ?_
              exact zv_zret (zs_at rfl) rfl (Or.inr rfl) ⟨Nat.le_refl _, Nat.le_refl _⟩ (zw_to (by unfold fe_can; rw [if_neg c5, if_pos c17, if_pos c31, if_neg (by unfold fe_lf; dsimp only; rw [if_pos c51]; exact c70)]) (by unfold fe_canm; rw [if_neg c5, if_pos c17, if_pos c31, if_neg (by unfold fe_lf; dsimp only; rw [if_pos c51]; exact c70)]; unfold fe_J; dsimp only; rw [if_pos c51]) rfl rfl)
        · have _c := c31
          refine zv_run 1 (pc' := 35) (lo' := [some (.ref 36), some (.ref 14), some (.ref ww), some (.int t)]) (st' := [.int 0]) (I' := I) (L' := L) (R' := zw_RC h sp (some wl)) rfl ?_
          exact zv_zret (zs_at rfl) rfl (Or.inl rfl) ⟨Nat.le_refl _, Nat.le_refl _⟩ (zw_to (by unfold fe_can; rw [if_neg c5, if_pos c17, if_neg c31]) (by unfold fe_canm; rw [if_neg c5, if_pos c17, if_neg c31]) rfl rfl)
theorem ct_X3_can {d : Nat} {I : zx_I} {L : zx_L} {h sp : Nat} {la : Option Nat} {ww a : Nat} {t : Int32} (ha : a = 4 ∨ a = 14) (hT : tk_ok I) (hb : bt ww) (hl : ∀ wl, la = some wl → bt wl) (hw : ok_w I a ww) : zx_M0 mm_X3_can (d + 2) 0 0 [.ref 36, .ref a, .ref ww, .int t] zw_SC I L (zw_RC h sp la) (zw_ret (some (.int (fe_can I la a ww t))) zw_SC (fe_canm I la a ww t) L (zw_RC h sp la)) := by
  cases la with
  | none => exact ct_X3_can_n ha hT hb hw
  | some wl => exact ct_X3_can_s ha hT hb (hl wl rfl) hw
end
section
/-! the evening: who goes in -/
theorem fb_leftm_ne {I : zx_I} {wl b : Nat} {c : Int32} (hb : b ≠ 40) : fb_leftm I wl c b = I b := by
  unfold fb_leftm
  rw [zx_uI_ne hb, zx_uI_ne hb, zx_uI_ne hb, zx_uI_ne hb]
theorem fe_J_ne {I : zx_I} {la : Option Nat} {a b : Nat} {t : Int32} (hb : b ≠ 40) : fe_J I la a t b = I b := by
  unfold fe_J
  cases la with
  | none => rfl
  | some wl =>
    dsimp only
    split
    · exact fb_leftm_ne hb
    · rfl
theorem fc_m_ne {I : zx_I} {ww b : Nat} {g : Int32} (hb : b ≠ 40) : fc_m I ww g b = I b := by
  unfold fc_m
  split
  · rw [zx_uI_ne hb, zx_uI_ne hb, zx_uI_ne hb]
  · rw [zx_uI_ne hb, zx_uI_ne hb, zx_uI_ne hb, zx_uI_ne hb]
theorem fe_canm_ne {I : zx_I} {la : Option Nat} {a ww b : Nat} {t : Int32} (hb : b ≠ 40) : fe_canm I la a ww t b = I b := by
  unfold fe_canm
  split
  · rfl
  · split
    · split
      · split
        · rw [fc_m_ne hb, fe_J_ne hb]
        · exact fe_J_ne hb
      · rfl
    · rfl
theorem tk_cg {I J : zx_I} (h : J 37 = I 37) (hT : tk_ok I) : tk_ok J := by
  unfold tk_ok at hT ⊢
  rw [h]
  exact hT
theorem bt_40 {w : Nat} (h : bt w) : w ≠ 40 := by unfold bt at h; omega
/-- the same but for the bath -/
def eq40 (J I : zx_I) : Prop := ∀ b, b ≠ 40 → J b = I b
theorem ok_w_cg {I J : zx_I} {a w : Nat} (h : eq40 J I) (ha : a = 4 ∨ a = 14) (hb : bt w) (hw : ok_w I a w) : ok_w J a w := by
  have h36 := h 36 (by decide)
  have h37 := h 37 (by decide)
  have h38 := h 38 (by decide)
  have hww := h w (bt_40 hb)
  have haa := h a (by omega)
  have hg : fe_g J a = fe_g I a := by unfold fe_g; rw [h36, haa]
  unfold ok_w at hw ⊢
  rw [hww, hg, (fc_cg h37 h38 hww).1, h37]
  exact hw
theorem fe_can_cg {I J : zx_I} {la : Option Nat} {a w : Nat} {t : Int32} (h : eq40 J I) (ha : a = 4 ∨ a = 14) (hb : bt w) (hl : ∀ wl, la = some wl → bt wl) : fe_can J la a w t = fe_can I la a w t := by
  have h36 := h 36 (by decide)
  have h37 := h 37 (by decide)
  have h38 := h 38 (by decide)
  have hww := h w (bt_40 hb)
  have haa := h a (by omega)
  have hg : fe_g J a = fe_g I a := by unfold fe_g; rw [h36, haa]
  have hlf : fe_lf J la a w t = fe_lf I la a w t := by
    unfold fe_lf
    cases la with
    | none => rfl
    | some wl =>
      have hwl := h wl (bt_40 (hl wl rfl))
      dsimp only
      unfold fb_left fb_heat
      rw [hwl, hww, haa]
  unfold fe_can
  rw [hww, h36, hlf, hg, (fc_cg h37 h38 hww).2]
def fe_w (E C : zx_I) (ww : Nat) (t : Int32) : zx_I := zx_uI (zx_uI (zx_uI (zx_uI (zx_uI (zx_uI (zx_uI E ww 10 t) ww 11 (t + C ww 4)) ww 12 (C 40 1)) ww 13 (C 40 0)) 36 5 (t + C ww 4)) 36 6 (C 36 6 ||| C ww 0)) 36 7 (C 36 7 + 1)
def fe_in (C : zx_I) (ww : Nat) (t : Int32) : zx_I := fe_w (if C 40 2 ≤ 0 then ft_draw C (C 40 0) else zx_uI (ft_draw C (C 40 0)) 36 3 0) C ww t
theorem ct_X3_goesIn {d : Nat} {I : zx_I} {L : zx_L} {h sp : Nat} {la : Option Nat} {ww a : Nat} {t : Int32} (ha : a = 4 ∨ a = 14) (hT : tk_ok I) (hb : bt ww) (hl : ∀ wl, la = some wl → bt wl) (hw : ok_w I a ww) (hcan : ¬ fe_can I la a ww t = 0) : zx_M0 mm_X3_goesIn (d + 3) 0 0 [.ref 36, .ref a, .ref ww, .int t] zw_SC I L (zw_RC h sp la) (zw_ret none zw_SC (fe_in (fe_canm I la a ww t) ww t) L (zw_RC h sp (some ww))) := by
  rcases ha with rfl | rfl
  · refine zv_entry gd_X3_goesIn (Nat.le_of_ble_eq_true rfl) ?_
    refine zv_run 4 (pc' := 4) (lo' := [some (.ref 36), some (.ref 4), some (.ref ww), some (.int t)]) (st' := [.int t, .ref ww, .ref 4, .ref 36]) (I' := I) (L' := L) (R' := zw_RC h sp la) rfl ?_
    refine zv_cV (M' := mm_X3_can) (ci := 3) (a := 36) (av := [.ref 4, .ref ww, .int t]) (st := []) (r := some (.int (fe_can I la 4 ww t))) (I' := (fe_canm I la 4 ww t)) (L' := L) (R' := zw_RC h sp la) rfl zc_3_143 gd_X3_can rfl rfl rfl (Nat.le_of_ble_eq_true rfl) (ct_X3_can (d := _) (Or.inl rfl) hT hb hl hw) ⟨Nat.le_refl _, Nat.le_refl _⟩ ?_
    refine zv_run 0 (pc' := 7) (lo' := [some (.ref 36), some (.ref 4), some (.ref ww), some (.int t)]) (st' := [.int (fe_can I la 4 ww t)]) (I' := (fe_canm I la 4 ww t)) (L' := L) (R' := zw_RC h sp la) rfl ?_
    refine zv_if_ne (tgt := 11) (zs_at rfl) (by decide) (fun c7 => ?_) (fun c7 => ?_)
    · have _c := c7
      refine zv_run 5 (pc' := 22) (lo' := [some (.ref 36), some (.ref 4), some (.ref ww), some (.int t)]) (st' := [.int ((fe_canm I la 4 ww t) 40 0), .ref 37]) (I' := (fe_canm I la 4 ww t)) (L' := L) (R' := zw_RC h sp la) rfl ?_
      refine zv_cV (M' := mm_X7_draw) (ci := 7) (a := 37) (av := [.int ((fe_canm I la 4 ww t) 40 0)]) (st := []) (r := none) (I' := (ft_draw (fe_canm I la 4 ww t) ((fe_canm I la 4 ww t) 40 0))) (L' := L) (R' := zw_RC h sp la) rfl zc_3_81 gd_X7_draw rfl rfl rfl (Nat.le_of_ble_eq_true rfl) (ct_X7_draw (d := _) (tk_cg (fe_canm_ne (by decide)) hT)) ⟨Nat.le_refl _, Nat.le_refl _⟩ ?_
      refine zv_run 0 (pc' := 25) (lo' := [some (.ref 36), some (.ref 4), some (.ref ww), some (.int t)]) (st' := []) (I' := (ft_draw (fe_canm I la 4 ww t) ((fe_canm I la 4 ww t) 40 0))) (L' := L) (R' := zw_RC h sp la) rfl ?_
      refine zv_run 3 (pc' := 32) (lo' := [some (.ref 36), some (.ref 4), some (.ref ww), some (.int t)]) (st' := [.int ((fe_canm I la 4 ww t) 40 2)]) (I' := (ft_draw (fe_canm I la 4 ww t) ((fe_canm I la 4 ww t) 40 0))) (L' := L) (R' := zw_RC h sp la) rfl ?_
      refine zv_if_le (tgt := 40) (zs_at rfl) (by decide) (fun c32 => ?_) (fun c32 => ?_)
      · have _c := c32
        refine zv_run 2 (pc' := 42) (lo' := [some (.ref 36), some (.ref 4), some (.ref ww), some (.int t)]) (st' := [.int t, .ref ww]) (I' := (ft_draw (fe_canm I la 4 ww t) ((fe_canm I la 4 ww t) 40 0))) (L' := L) (R' := zw_RC h sp la) rfl ?_
        refine zs_putI (ci := 2) (k := 10) (zs_at rfl) (zf_ok rfl) (bt_S hb) (Or.inl rfl) rfl (fun q => absurd q (by decide)) ?_
        refine zv_run 3 (pc' := 48) (lo' := [some (.ref 36), some (.ref 4), some (.ref ww), some (.int t)]) (st' := [.ref ww, .int t, .ref ww]) (I' := (zx_uI (ft_draw (fe_canm I la 4 ww t) ((fe_canm I la 4 ww t) 40 0)) ww 10 t)) (L' := L) (R' := zw_RC h sp la) rfl ?_
        refine zv_get (ci := 2) (k := 4) (t := 0) (zs_at rfl) (zf_ok rfl) (bt_S hb) rfl ?_
        refine zv_run 0 (pc' := 51) (lo' := [some (.ref 36), some (.ref 4), some (.ref ww), some (.int t)]) (st' := [.int ((fe_canm I la 4 ww t) ww 4), .int t, .ref ww]) (I' := (zx_uI (ft_draw (fe_canm I la 4 ww t) ((fe_canm I la 4 ww t) 40 0)) ww 10 t)) (L' := L) (R' := zw_RC h sp la) (by rw [show (zx_uI (ft_draw (fe_canm I la 4 ww t) ((fe_canm I la 4 ww t) 40 0)) ww 10 t) ww 4 = (fe_canm I la 4 ww t) ww 4 from by simp [zx_uI, zr, zmap, ft_draw, show ww ≠ 38 from by (unfold bt at hb; omega)]]; rfl) ?_
        refine zv_run 1 (pc' := 52) (lo' := [some (.ref 36), some (.ref 4), some (.ref ww), some (.int t)]) (st' := [.int (t + ((fe_canm I la 4 ww t) ww 4)), .ref ww]) (I' := (zx_uI (ft_draw (fe_canm I la 4 ww t) ((fe_canm I la 4 ww t) 40 0)) ww 10 t)) (L' := L) (R' := zw_RC h sp la) rfl ?_
        refine zs_putI (ci := 2) (k := 11) (zs_at rfl) (zf_ok rfl) (bt_S hb) (Or.inl rfl) rfl (fun q => absurd q (by decide)) ?_
        refine zv_run 3 (pc' := 60) (lo' := [some (.ref 36), some (.ref 4), some (.ref ww), some (.int t)]) (st' := [.ref 40, .ref ww]) (I' := (zx_uI (zx_uI (ft_draw (fe_canm I la 4 ww t) ((fe_canm I la 4 ww t) 40 0)) ww 10 t) ww 11 (t + ((fe_canm I la 4 ww t) ww 4)))) (L' := L) (R' := zw_RC h sp la) rfl ?_
        refine zv_get (ci := 1) (k := 1) (t := 0) (zs_at rfl) (zf_ok rfl) rfl rfl ?_
        refine zv_run 0 (pc' := 63) (lo' := [some (.ref 36), some (.ref 4), some (.ref ww), some (.int t)]) (st' := [.int ((fe_canm I la 4 ww t) 40 1), .ref ww]) (I' := (zx_uI (zx_uI (ft_draw (fe_canm I la 4 ww t) ((fe_canm I la 4 ww t) 40 0)) ww 10 t) ww 11 (t + ((fe_canm I la 4 ww t) ww 4)))) (L' := L) (R' := zw_RC h sp la) (by rw [show (zx_uI (zx_uI (ft_draw (fe_canm I la 4 ww t) ((fe_canm I la 4 ww t) 40 0)) ww 10 t) ww 11 (t + ((fe_canm I la 4 ww t) ww 4))) 40 1 = (fe_canm I la 4 ww t) 40 1 from by simp [zx_uI, zr, zmap, ft_draw, show (40 : Nat) ≠ ww from by (unfold bt at hb; omega)]]; rfl) ?_
        refine zs_putI (ci := 2) (k := 12) (zs_at rfl) (zf_ok rfl) (bt_S hb) (Or.inl rfl) rfl (fun q => absurd q (by decide)) ?_
        refine zv_run 3 (pc' := 71) (lo' := [some (.ref 36), some (.ref 4), some (.ref ww), some (.int t)]) (st' := [.ref 40, .ref ww]) (I' := (zx_uI (zx_uI (zx_uI (ft_draw (fe_canm I la 4 ww t) ((fe_canm I la 4 ww t) 40 0)) ww 10 t) ww 11 (t + ((fe_canm I la 4 ww t) ww 4))) ww 12 ((fe_canm I la 4 ww t) 40 1))) (L' := L) (R' := zw_RC h sp la) rfl ?_
        refine zv_get (ci := 1) (k := 0) (t := 0) (zs_at rfl) (zf_ok rfl) rfl rfl ?_
        refine zv_run 0 (pc' := 74) (lo' := [some (.ref 36), some (.ref 4), some (.ref ww), some (.int t)]) (st' := [.int ((fe_canm I la 4 ww t) 40 0), .ref ww]) (I' := (zx_uI (zx_uI (zx_uI (ft_draw (fe_canm I la 4 ww t) ((fe_canm I la 4 ww t) 40 0)) ww 10 t) ww 11 (t + ((fe_canm I la 4 ww t) ww 4))) ww 12 ((fe_canm I la 4 ww t) 40 1))) (L' := L) (R' := zw_RC h sp la) (by rw [show (zx_uI (zx_uI (zx_uI (ft_draw (fe_canm I la 4 ww t) ((fe_canm I la 4 ww t) 40 0)) ww 10 t) ww 11 (t + ((fe_canm I la 4 ww t) ww 4))) ww 12 ((fe_canm I la 4 ww t) 40 1)) 40 0 = (fe_canm I la 4 ww t) 40 0 from by simp [zx_uI, zr, zmap, ft_draw, show (40 : Nat) ≠ ww from by (unfold bt at hb; omega)]]; rfl) ?_
        refine zs_putI (ci := 2) (k := 13) (zs_at rfl) (zf_ok rfl) (bt_S hb) (Or.inl rfl) rfl (fun q => absurd q (by decide)) ?_
        refine zv_run 5 (pc' := 84) (lo' := [some (.ref 36), some (.ref 4), some (.ref ww), some (.int t)]) (st' := [.ref ww, .ref 36]) (I' := (zx_uI (zx_uI (zx_uI (zx_uI (ft_draw (fe_canm I la 4 ww t) ((fe_canm I la 4 ww t) 40 0)) ww 10 t) ww 11 (t + ((fe_canm I la 4 ww t) ww 4))) ww 12 ((fe_canm I la 4 ww t) 40 1)) ww 13 ((fe_canm I la 4 ww t) 40 0))) (L' := L) (R' := (zx_uR (zw_RC h sp la) 36 4 (some ww))) rfl ?_
        refine zv_get (ci := 2) (k := 11) (t := 0) (zs_at rfl) (zf_ok rfl) (bt_S hb) rfl ?_
        refine zv_run 0 (pc' := 87) (lo' := [some (.ref 36), some (.ref 4), some (.ref ww), some (.int t)]) (st' := [.int (t + ((fe_canm I la 4 ww t) ww 4)), .ref 36]) (I' := (zx_uI (zx_uI (zx_uI (zx_uI (ft_draw (fe_canm I la 4 ww t) ((fe_canm I la 4 ww t) 40 0)) ww 10 t) ww 11 (t + ((fe_canm I la 4 ww t) ww 4))) ww 12 ((fe_canm I la 4 ww t) 40 1)) ww 13 ((fe_canm I la 4 ww t) 40 0))) (L' := L) (R' := (zx_uR (zw_RC h sp la) 36 4 (some ww))) (by rw [show (zx_uI (zx_uI (zx_uI (zx_uI (ft_draw (fe_canm I la 4 ww t) ((fe_canm I la 4 ww t) 40 0)) ww 10 t) ww 11 (t + ((fe_canm I la 4 ww t) ww 4))) ww 12 ((fe_canm I la 4 ww t) 40 1)) ww 13 ((fe_canm I la 4 ww t) 40 0)) ww 11 = t + ((fe_canm I la 4 ww t) ww 4) from by simp [zx_uI, zr, zmap, ft_draw, show ww ≠ 38 from by (unfold bt at hb; omega)]]; rfl) ?_
        refine zv_run 3 (pc' := 92) (lo' := [some (.ref 36), some (.ref 4), some (.ref ww), some (.int t)]) (st' := [.ref 36, .ref 36]) (I' := (zx_uI (zx_uI (zx_uI (zx_uI (zx_uI (ft_draw (fe_canm I la 4 ww t) ((fe_canm I la 4 ww t) 40 0)) ww 10 t) ww 11 (t + ((fe_canm I la 4 ww t) ww 4))) ww 12 ((fe_canm I la 4 ww t) 40 1)) ww 13 ((fe_canm I la 4 ww t) 40 0)) 36 5 (t + ((fe_canm I la 4 ww t) ww 4)))) (L' := L) (R' := (zx_uR (zw_RC h sp la) 36 4 (some ww))) rfl ?_
        refine zv_get (ci := 3) (k := 6) (t := 0) (zs_at rfl) (zf_ok rfl) rfl rfl ?_
        refine zv_run 0 (pc' := 95) (lo' := [some (.ref 36), some (.ref 4), some (.ref ww), some (.int t)]) (st' := [.int ((fe_canm I la 4 ww t) 36 6), .ref 36]) (I' := (zx_uI (zx_uI (zx_uI (zx_uI (zx_uI (ft_draw (fe_canm I la 4 ww t) ((fe_canm I la 4 ww t) 40 0)) ww 10 t) ww 11 (t + ((fe_canm I la 4 ww t) ww 4))) ww 12 ((fe_canm I la 4 ww t) 40 1)) ww 13 ((fe_canm I la 4 ww t) 40 0)) 36 5 (t + ((fe_canm I la 4 ww t) ww 4)))) (L' := L) (R' := (zx_uR (zw_RC h sp la) 36 4 (some ww))) (by rw [show (zx_uI (zx_uI (zx_uI (zx_uI (zx_uI (ft_draw (fe_canm I la 4 ww t) ((fe_canm I la 4 ww t) 40 0)) ww 10 t) ww 11 (t + ((fe_canm I la 4 ww t) ww 4))) ww 12 ((fe_canm I la 4 ww t) 40 1)) ww 13 ((fe_canm I la 4 ww t) 40 0)) 36 5 (t + ((fe_canm I la 4 ww t) ww 4))) 36 6 = (fe_canm I la 4 ww t) 36 6 from by simp [zx_uI, zr, zmap, ft_draw, show (36 : Nat) ≠ ww from by (unfold bt at hb; omega)]]; rfl) ?_
        refine zv_run 1 (pc' := 96) (lo' := [some (.ref 36), some (.ref 4), some (.ref ww), some (.int t)]) (st' := [.ref ww, .int ((fe_canm I la 4 ww t) 36 6), .ref 36]) (I' := (zx_uI (zx_uI (zx_uI (zx_uI (zx_uI (ft_draw (fe_canm I la 4 ww t) ((fe_canm I la 4 ww t) 40 0)) ww 10 t) ww 11 (t + ((fe_canm I la 4 ww t) ww 4))) ww 12 ((fe_canm I la 4 ww t) 40 1)) ww 13 ((fe_canm I la 4 ww t) 40 0)) 36 5 (t + ((fe_canm I la 4 ww t) ww 4)))) (L' := L) (R' := (zx_uR (zw_RC h sp la) 36 4 (some ww))) rfl ?_
        refine zv_get (ci := 2) (k := 0) (t := 0) (zs_at rfl) (zf_ok rfl) (bt_S hb) rfl ?_
        refine zv_run 0 (pc' := 99) (lo' := [some (.ref 36), some (.ref 4), some (.ref ww), some (.int t)]) (st' := [.int ((fe_canm I la 4 ww t) ww 0), .int ((fe_canm I la 4 ww t) 36 6), .ref 36]) (I' := (zx_uI (zx_uI (zx_uI (zx_uI (zx_uI (ft_draw (fe_canm I la 4 ww t) ((fe_canm I la 4 ww t) 40 0)) ww 10 t) ww 11 (t + ((fe_canm I la 4 ww t) ww 4))) ww 12 ((fe_canm I la 4 ww t) 40 1)) ww 13 ((fe_canm I la 4 ww t) 40 0)) 36 5 (t + ((fe_canm I la 4 ww t) ww 4)))) (L' := L) (R' := (zx_uR (zw_RC h sp la) 36 4 (some ww))) (by rw [show (zx_uI (zx_uI (zx_uI (zx_uI (zx_uI (ft_draw (fe_canm I la 4 ww t) ((fe_canm I la 4 ww t) 40 0)) ww 10 t) ww 11 (t + ((fe_canm I la 4 ww t) ww 4))) ww 12 ((fe_canm I la 4 ww t) 40 1)) ww 13 ((fe_canm I la 4 ww t) 40 0)) 36 5 (t + ((fe_canm I la 4 ww t) ww 4))) ww 0 = (fe_canm I la 4 ww t) ww 0 from by simp [zx_uI, zr, zmap, ft_draw, show ww ≠ 36 ∧ ww ≠ 38 from by (unfold bt at hb; omega)]]; rfl) ?_
        refine zv_run 4 (pc' := 105) (lo' := [some (.ref 36), some (.ref 4), some (.ref ww), some (.int t)]) (st' := [.ref 36, .ref 36]) (I' := (zx_uI (zx_uI (zx_uI (zx_uI (zx_uI (zx_uI (ft_draw (fe_canm I la 4 ww t) ((fe_canm I la 4 ww t) 40 0)) ww 10 t) ww 11 (t + ((fe_canm I la 4 ww t) ww 4))) ww 12 ((fe_canm I la 4 ww t) 40 1)) ww 13 ((fe_canm I la 4 ww t) 40 0)) 36 5 (t + ((fe_canm I la 4 ww t) ww 4))) 36 6 (((fe_canm I la 4 ww t) 36 6) ||| ((fe_canm I la 4 ww t) ww 0)))) (L' := L) (R' := (zx_uR (zw_RC h sp la) 36 4 (some ww))) rfl ?_
        refine zv_get (ci := 3) (k := 7) (t := 0) (zs_at rfl) (zf_ok rfl) rfl rfl ?_
        refine zv_run 0 (pc' := 108) (lo' := [some (.ref 36), some (.ref 4), some (.ref ww), some (.int t)]) (st' := [.int ((fe_canm I la 4 ww t) 36 7), .ref 36]) (I' := (zx_uI (zx_uI (zx_uI (zx_uI (zx_uI (zx_uI (ft_draw (fe_canm I la 4 ww t) ((fe_canm I la 4 ww t) 40 0)) ww 10 t) ww 11 (t + ((fe_canm I la 4 ww t) ww 4))) ww 12 ((fe_canm I la 4 ww t) 40 1)) ww 13 ((fe_canm I la 4 ww t) 40 0)) 36 5 (t + ((fe_canm I la 4 ww t) ww 4))) 36 6 (((fe_canm I la 4 ww t) 36 6) ||| ((fe_canm I la 4 ww t) ww 0)))) (L' := L) (R' := (zx_uR (zw_RC h sp la) 36 4 (some ww))) (by rw [show (zx_uI (zx_uI (zx_uI (zx_uI (zx_uI (zx_uI (ft_draw (fe_canm I la 4 ww t) ((fe_canm I la 4 ww t) 40 0)) ww 10 t) ww 11 (t + ((fe_canm I la 4 ww t) ww 4))) ww 12 ((fe_canm I la 4 ww t) 40 1)) ww 13 ((fe_canm I la 4 ww t) 40 0)) 36 5 (t + ((fe_canm I la 4 ww t) ww 4))) 36 6 (((fe_canm I la 4 ww t) 36 6) ||| ((fe_canm I la 4 ww t) ww 0))) 36 7 = (fe_canm I la 4 ww t) 36 7 from by simp [zx_uI, zr, zmap, ft_draw, show (36 : Nat) ≠ ww from by (unfold bt at hb; omega)]]; rfl) ?_
        refine zv_run 3 (pc' := 113) (lo' := [some (.ref 36), some (.ref 4), some (.ref ww), some (.int t)]) (st' := []) (I' := (zx_uI (zx_uI (zx_uI (zx_uI (zx_uI (zx_uI (zx_uI (ft_draw (fe_canm I la 4 ww t) ((fe_canm I la 4 ww t) 40 0)) ww 10 t) ww 11 (t + ((fe_canm I la 4 ww t) ww 4))) ww 12 ((fe_canm I la 4 ww t) 40 1)) ww 13 ((fe_canm I la 4 ww t) 40 0)) 36 5 (t + ((fe_canm I la 4 ww t) ww 4))) 36 6 (((fe_canm I la 4 ww t) 36 6) ||| ((fe_canm I la 4 ww t) ww 0))) 36 7 (((fe_canm I la 4 ww t) 36 7) + 1))) (L' := L) (R' := (zx_uR (zw_RC h sp la) 36 4 (some ww))) rfl ?_
        exact zv_vret (zs_at rfl) rfl ⟨Nat.le_refl _, Nat.le_refl _⟩ (zw_to rfl (by unfold fe_in; rw [if_pos c32]; rfl) rfl rc_last)
      · have _c := c32
        refine zv_run 5 (pc' := 42) (lo' := [some (.ref 36), some (.ref 4), some (.ref ww), some (.int t)]) (st' := [.int t, .ref ww]) (I' := (zx_uI (ft_draw (fe_canm I la 4 ww t) ((fe_canm I la 4 ww t) 40 0)) 36 3 0)) (L' := L) (R' := zw_RC h sp la) rfl ?_
        refine zs_putI (ci := 2) (k := 10) (zs_at rfl) (zf_ok rfl) (bt_S hb) (Or.inl rfl) rfl (fun q => absurd q (by decide)) ?_
        refine zv_run 3 (pc' := 48) (lo' := [some (.ref 36), some (.ref 4), some (.ref ww), some (.int t)]) (st' := [.ref ww, .int t, .ref ww]) (I' := (zx_uI (zx_uI (ft_draw (fe_canm I la 4 ww t) ((fe_canm I la 4 ww t) 40 0)) 36 3 0) ww 10 t)) (L' := L) (R' := zw_RC h sp la) rfl ?_
        refine zv_get (ci := 2) (k := 4) (t := 0) (zs_at rfl) (zf_ok rfl) (bt_S hb) rfl ?_
        refine zv_run 0 (pc' := 51) (lo' := [some (.ref 36), some (.ref 4), some (.ref ww), some (.int t)]) (st' := [.int ((fe_canm I la 4 ww t) ww 4), .int t, .ref ww]) (I' := (zx_uI (zx_uI (ft_draw (fe_canm I la 4 ww t) ((fe_canm I la 4 ww t) 40 0)) 36 3 0) ww 10 t)) (L' := L) (R' := zw_RC h sp la) (by rw [show (zx_uI (zx_uI (ft_draw (fe_canm I la 4 ww t) ((fe_canm I la 4 ww t) 40 0)) 36 3 0) ww 10 t) ww 4 = (fe_canm I la 4 ww t) ww 4 from by simp [zx_uI, zr, zmap, ft_draw, show ww ≠ 36 ∧ ww ≠ 38 from by (unfold bt at hb; omega)]]; rfl) ?_
        refine zv_run 1 (pc' := 52) (lo' := [some (.ref 36), some (.ref 4), some (.ref ww), some (.int t)]) (st' := [.int (t + ((fe_canm I la 4 ww t) ww 4)), .ref ww]) (I' := (zx_uI (zx_uI (ft_draw (fe_canm I la 4 ww t) ((fe_canm I la 4 ww t) 40 0)) 36 3 0) ww 10 t)) (L' := L) (R' := zw_RC h sp la) rfl ?_
        refine zs_putI (ci := 2) (k := 11) (zs_at rfl) (zf_ok rfl) (bt_S hb) (Or.inl rfl) rfl (fun q => absurd q (by decide)) ?_
        refine zv_run 3 (pc' := 60) (lo' := [some (.ref 36), some (.ref 4), some (.ref ww), some (.int t)]) (st' := [.ref 40, .ref ww]) (I' := (zx_uI (zx_uI (zx_uI (ft_draw (fe_canm I la 4 ww t) ((fe_canm I la 4 ww t) 40 0)) 36 3 0) ww 10 t) ww 11 (t + ((fe_canm I la 4 ww t) ww 4)))) (L' := L) (R' := zw_RC h sp la) rfl ?_
        refine zv_get (ci := 1) (k := 1) (t := 0) (zs_at rfl) (zf_ok rfl) rfl rfl ?_
        refine zv_run 0 (pc' := 63) (lo' := [some (.ref 36), some (.ref 4), some (.ref ww), some (.int t)]) (st' := [.int ((fe_canm I la 4 ww t) 40 1), .ref ww]) (I' := (zx_uI (zx_uI (zx_uI (ft_draw (fe_canm I la 4 ww t) ((fe_canm I la 4 ww t) 40 0)) 36 3 0) ww 10 t) ww 11 (t + ((fe_canm I la 4 ww t) ww 4)))) (L' := L) (R' := zw_RC h sp la) (by rw [show (zx_uI (zx_uI (zx_uI (ft_draw (fe_canm I la 4 ww t) ((fe_canm I la 4 ww t) 40 0)) 36 3 0) ww 10 t) ww 11 (t + ((fe_canm I la 4 ww t) ww 4))) 40 1 = (fe_canm I la 4 ww t) 40 1 from by simp [zx_uI, zr, zmap, ft_draw, show (40 : Nat) ≠ ww from by (unfold bt at hb; omega)]]; rfl) ?_
        refine zs_putI (ci := 2) (k := 12) (zs_at rfl) (zf_ok rfl) (bt_S hb) (Or.inl rfl) rfl (fun q => absurd q (by decide)) ?_
        refine zv_run 3 (pc' := 71) (lo' := [some (.ref 36), some (.ref 4), some (.ref ww), some (.int t)]) (st' := [.ref 40, .ref ww]) (I' := (zx_uI (zx_uI (zx_uI (zx_uI (ft_draw (fe_canm I la 4 ww t) ((fe_canm I la 4 ww t) 40 0)) 36 3 0) ww 10 t) ww 11 (t + ((fe_canm I la 4 ww t) ww 4))) ww 12 ((fe_canm I la 4 ww t) 40 1))) (L' := L) (R' := zw_RC h sp la) rfl ?_
        refine zv_get (ci := 1) (k := 0) (t := 0) (zs_at rfl) (zf_ok rfl) rfl rfl ?_
        refine zv_run 0 (pc' := 74) (lo' := [some (.ref 36), some (.ref 4), some (.ref ww), some (.int t)]) (st' := [.int ((fe_canm I la 4 ww t) 40 0), .ref ww]) (I' := (zx_uI (zx_uI (zx_uI (zx_uI (ft_draw (fe_canm I la 4 ww t) ((fe_canm I la 4 ww t) 40 0)) 36 3 0) ww 10 t) ww 11 (t + ((fe_canm I la 4 ww t) ww 4))) ww 12 ((fe_canm I la 4 ww t) 40 1))) (L' := L) (R' := zw_RC h sp la) (by rw [show (zx_uI (zx_uI (zx_uI (zx_uI (ft_draw (fe_canm I la 4 ww t) ((fe_canm I la 4 ww t) 40 0)) 36 3 0) ww 10 t) ww 11 (t + ((fe_canm I la 4 ww t) ww 4))) ww 12 ((fe_canm I la 4 ww t) 40 1)) 40 0 = (fe_canm I la 4 ww t) 40 0 from by simp [zx_uI, zr, zmap, ft_draw, show (40 : Nat) ≠ ww from by (unfold bt at hb; omega)]]; rfl) ?_
        refine zs_putI (ci := 2) (k := 13) (zs_at rfl) (zf_ok rfl) (bt_S hb) (Or.inl rfl) rfl (fun q => absurd q (by decide)) ?_
        refine zv_run 5 (pc' := 84) (lo' := [some (.ref 36), some (.ref 4), some (.ref ww), some (.int t)]) (st' := [.ref ww, .ref 36]) (I' := (zx_uI (zx_uI (zx_uI (zx_uI (zx_uI (ft_draw (fe_canm I la 4 ww t) ((fe_canm I la 4 ww t) 40 0)) 36 3 0) ww 10 t) ww 11 (t + ((fe_canm I la 4 ww t) ww 4))) ww 12 ((fe_canm I la 4 ww t) 40 1)) ww 13 ((fe_canm I la 4 ww t) 40 0))) (L' := L) (R' := (zx_uR (zw_RC h sp la) 36 4 (some ww))) rfl ?_
        refine zv_get (ci := 2) (k := 11) (t := 0) (zs_at rfl) (zf_ok rfl) (bt_S hb) rfl ?_
        refine zv_run 0 (pc' := 87) (lo' := [some (.ref 36), some (.ref 4), some (.ref ww), some (.int t)]) (st' := [.int (t + ((fe_canm I la 4 ww t) ww 4)), .ref 36]) (I' := (zx_uI (zx_uI (zx_uI (zx_uI (zx_uI (ft_draw (fe_canm I la 4 ww t) ((fe_canm I la 4 ww t) 40 0)) 36 3 0) ww 10 t) ww 11 (t + ((fe_canm I la 4 ww t) ww 4))) ww 12 ((fe_canm I la 4 ww t) 40 1)) ww 13 ((fe_canm I la 4 ww t) 40 0))) (L' := L) (R' := (zx_uR (zw_RC h sp la) 36 4 (some ww))) (by rw [show (zx_uI (zx_uI (zx_uI (zx_uI (zx_uI (ft_draw (fe_canm I la 4 ww t) ((fe_canm I la 4 ww t) 40 0)) 36 3 0) ww 10 t) ww 11 (t + ((fe_canm I la 4 ww t) ww 4))) ww 12 ((fe_canm I la 4 ww t) 40 1)) ww 13 ((fe_canm I la 4 ww t) 40 0)) ww 11 = t + ((fe_canm I la 4 ww t) ww 4) from by simp [zx_uI, zr, zmap, ft_draw, show ww ≠ 36 ∧ ww ≠ 38 from by (unfold bt at hb; omega)]]; rfl) ?_
        refine zv_run 3 (pc' := 92) (lo' := [some (.ref 36), some (.ref 4), some (.ref ww), some (.int t)]) (st' := [.ref 36, .ref 36]) (I' := (zx_uI (zx_uI (zx_uI (zx_uI (zx_uI (zx_uI (ft_draw (fe_canm I la 4 ww t) ((fe_canm I la 4 ww t) 40 0)) 36 3 0) ww 10 t) ww 11 (t + ((fe_canm I la 4 ww t) ww 4))) ww 12 ((fe_canm I la 4 ww t) 40 1)) ww 13 ((fe_canm I la 4 ww t) 40 0)) 36 5 (t + ((fe_canm I la 4 ww t) ww 4)))) (L' := L) (R' := (zx_uR (zw_RC h sp la) 36 4 (some ww))) rfl ?_
        refine zv_get (ci := 3) (k := 6) (t := 0) (zs_at rfl) (zf_ok rfl) rfl rfl ?_
        refine zv_run 0 (pc' := 95) (lo' := [some (.ref 36), some (.ref 4), some (.ref ww), some (.int t)]) (st' := [.int ((fe_canm I la 4 ww t) 36 6), .ref 36]) (I' := (zx_uI (zx_uI (zx_uI (zx_uI (zx_uI (zx_uI (ft_draw (fe_canm I la 4 ww t) ((fe_canm I la 4 ww t) 40 0)) 36 3 0) ww 10 t) ww 11 (t + ((fe_canm I la 4 ww t) ww 4))) ww 12 ((fe_canm I la 4 ww t) 40 1)) ww 13 ((fe_canm I la 4 ww t) 40 0)) 36 5 (t + ((fe_canm I la 4 ww t) ww 4)))) (L' := L) (R' := (zx_uR (zw_RC h sp la) 36 4 (some ww))) (by rw [show (zx_uI (zx_uI (zx_uI (zx_uI (zx_uI (zx_uI (ft_draw (fe_canm I la 4 ww t) ((fe_canm I la 4 ww t) 40 0)) 36 3 0) ww 10 t) ww 11 (t + ((fe_canm I la 4 ww t) ww 4))) ww 12 ((fe_canm I la 4 ww t) 40 1)) ww 13 ((fe_canm I la 4 ww t) 40 0)) 36 5 (t + ((fe_canm I la 4 ww t) ww 4))) 36 6 = (fe_canm I la 4 ww t) 36 6 from by simp [zx_uI, zr, zmap, ft_draw, show (36 : Nat) ≠ ww from by (unfold bt at hb; omega)]]; rfl) ?_
        refine zv_run 1 (pc' := 96) (lo' := [some (.ref 36), some (.ref 4), some (.ref ww), some (.int t)]) (st' := [.ref ww, .int ((fe_canm I la 4 ww t) 36 6), .ref 36]) (I' := (zx_uI (zx_uI (zx_uI (zx_uI (zx_uI (zx_uI (ft_draw (fe_canm I la 4 ww t) ((fe_canm I la 4 ww t) 40 0)) 36 3 0) ww 10 t) ww 11 (t + ((fe_canm I la 4 ww t) ww 4))) ww 12 ((fe_canm I la 4 ww t) 40 1)) ww 13 ((fe_canm I la 4 ww t) 40 0)) 36 5 (t + ((fe_canm I la 4 ww t) ww 4)))) (L' := L) (R' := (zx_uR (zw_RC h sp la) 36 4 (some ww))) rfl ?_
        refine zv_get (ci := 2) (k := 0) (t := 0) (zs_at rfl) (zf_ok rfl) (bt_S hb) rfl ?_
        refine zv_run 0 (pc' := 99) (lo' := [some (.ref 36), some (.ref 4), some (.ref ww), some (.int t)]) (st' := [.int ((fe_canm I la 4 ww t) ww 0), .int ((fe_canm I la 4 ww t) 36 6), .ref 36]) (I' := (zx_uI (zx_uI (zx_uI (zx_uI (zx_uI (zx_uI (ft_draw (fe_canm I la 4 ww t) ((fe_canm I la 4 ww t) 40 0)) 36 3 0) ww 10 t) ww 11 (t + ((fe_canm I la 4 ww t) ww 4))) ww 12 ((fe_canm I la 4 ww t) 40 1)) ww 13 ((fe_canm I la 4 ww t) 40 0)) 36 5 (t + ((fe_canm I la 4 ww t) ww 4)))) (L' := L) (R' := (zx_uR (zw_RC h sp la) 36 4 (some ww))) (by rw [show (zx_uI (zx_uI (zx_uI (zx_uI (zx_uI (zx_uI (ft_draw (fe_canm I la 4 ww t) ((fe_canm I la 4 ww t) 40 0)) 36 3 0) ww 10 t) ww 11 (t + ((fe_canm I la 4 ww t) ww 4))) ww 12 ((fe_canm I la 4 ww t) 40 1)) ww 13 ((fe_canm I la 4 ww t) 40 0)) 36 5 (t + ((fe_canm I la 4 ww t) ww 4))) ww 0 = (fe_canm I la 4 ww t) ww 0 from by simp [zx_uI, zr, zmap, ft_draw, show ww ≠ 36 ∧ ww ≠ 38 from by (unfold bt at hb; omega)]]; rfl) ?_
        refine zv_run 4 (pc' := 105) (lo' := [some (.ref 36), some (.ref 4), some (.ref ww), some (.int t)]) (st' := [.ref 36, .ref 36]) (I' := (zx_uI (zx_uI (zx_uI (zx_uI (zx_uI (zx_uI (zx_uI (ft_draw (fe_canm I la 4 ww t) ((fe_canm I la 4 ww t) 40 0)) 36 3 0) ww 10 t) ww 11 (t + ((fe_canm I la 4 ww t) ww 4))) ww 12 ((fe_canm I la 4 ww t) 40 1)) ww 13 ((fe_canm I la 4 ww t) 40 0)) 36 5 (t + ((fe_canm I la 4 ww t) ww 4))) 36 6 (((fe_canm I la 4 ww t) 36 6) ||| ((fe_canm I la 4 ww t) ww 0)))) (L' := L) (R' := (zx_uR (zw_RC h sp la) 36 4 (some ww))) rfl ?_
        refine zv_get (ci := 3) (k := 7) (t := 0) (zs_at rfl) (zf_ok rfl) rfl rfl ?_
        refine zv_run 0 (pc' := 108) (lo' := [some (.ref 36), some (.ref 4), some (.ref ww), some (.int t)]) (st' := [.int ((fe_canm I la 4 ww t) 36 7), .ref 36]) (I' := (zx_uI (zx_uI (zx_uI (zx_uI (zx_uI (zx_uI (zx_uI (ft_draw (fe_canm I la 4 ww t) ((fe_canm I la 4 ww t) 40 0)) 36 3 0) ww 10 t) ww 11 (t + ((fe_canm I la 4 ww t) ww 4))) ww 12 ((fe_canm I la 4 ww t) 40 1)) ww 13 ((fe_canm I la 4 ww t) 40 0)) 36 5 (t + ((fe_canm I la 4 ww t) ww 4))) 36 6 (((fe_canm I la 4 ww t) 36 6) ||| ((fe_canm I la 4 ww t) ww 0)))) (L' := L) (R' := (zx_uR (zw_RC h sp la) 36 4 (some ww))) (by rw [show (zx_uI (zx_uI (zx_uI (zx_uI (zx_uI (zx_uI (zx_uI (ft_draw (fe_canm I la 4 ww t) ((fe_canm I la 4 ww t) 40 0)) 36 3 0) ww 10 t) ww 11 (t + ((fe_canm I la 4 ww t) ww 4))) ww 12 ((fe_canm I la 4 ww t) 40 1)) ww 13 ((fe_canm I la 4 ww t) 40 0)) 36 5 (t + ((fe_canm I la 4 ww t) ww 4))) 36 6 (((fe_canm I la 4 ww t) 36 6) ||| ((fe_canm I la 4 ww t) ww 0))) 36 7 = (fe_canm I la 4 ww t) 36 7 from by simp [zx_uI, zr, zmap, ft_draw, show (36 : Nat) ≠ ww from by (unfold bt at hb; omega)]]; rfl) ?_
        refine zv_run 3 (pc' := 113) (lo' := [some (.ref 36), some (.ref 4), some (.ref ww), some (.int t)]) (st' := []) (I' := (zx_uI (zx_uI (zx_uI (zx_uI (zx_uI (zx_uI (zx_uI (zx_uI (ft_draw (fe_canm I la 4 ww t) ((fe_canm I la 4 ww t) 40 0)) 36 3 0) ww 10 t) ww 11 (t + ((fe_canm I la 4 ww t) ww 4))) ww 12 ((fe_canm I la 4 ww t) 40 1)) ww 13 ((fe_canm I la 4 ww t) 40 0)) 36 5 (t + ((fe_canm I la 4 ww t) ww 4))) 36 6 (((fe_canm I la 4 ww t) 36 6) ||| ((fe_canm I la 4 ww t) ww 0))) 36 7 (((fe_canm I la 4 ww t) 36 7) + 1))) (L' := L) (R' := (zx_uR (zw_RC h sp la) 36 4 (some ww))) rfl ?_
        exact zv_vret (zs_at rfl) rfl ⟨Nat.le_refl _, Nat.le_refl _⟩ (zw_to rfl (by unfold fe_in; rw [if_neg c32]; rfl) rfl rc_last)
    · exact absurd c7 hcan
  · refine zv_entry gd_X3_goesIn (Nat.le_of_ble_eq_true rfl) ?_
    refine zv_run 4 (pc' := 4) (lo' := [some (.ref 36), some (.ref 14), some (.ref ww), some (.int t)]) (st' := [.int t, .ref ww, .ref 14, .ref 36]) (I' := I) (L' := L) (R' := zw_RC h sp la) rfl ?_
    refine zv_cV (M' := mm_X3_can) (ci := 3) (a := 36) (av := [.ref 14, .ref ww, .int t]) (st := []) (r := some (.int (fe_can I la 14 ww t))) (I' := (fe_canm I la 14 ww t)) (L' := L) (R' := zw_RC h sp la) rfl zc_3_143 gd_X3_can rfl rfl rfl (Nat.le_of_ble_eq_true rfl) (ct_X3_can (d := _) (Or.inr rfl) hT hb hl hw) ⟨Nat.le_refl _, Nat.le_refl _⟩ ?_
    refine zv_run 0 (pc' := 7) (lo' := [some (.ref 36), some (.ref 14), some (.ref ww), some (.int t)]) (st' := [.int (fe_can I la 14 ww t)]) (I' := (fe_canm I la 14 ww t)) (L' := L) (R' := zw_RC h sp la) rfl ?_
    refine zv_if_ne (tgt := 11) (zs_at rfl) (by decide) (fun c7 => ?_) (fun c7 => ?_)
    · have _c := c7
      refine zv_run 5 (pc' := 22) (lo' := [some (.ref 36), some (.ref 14), some (.ref ww), some (.int t)]) (st' := [.int ((fe_canm I la 14 ww t) 40 0), .ref 37]) (I' := (fe_canm I la 14 ww t)) (L' := L) (R' := zw_RC h sp la) rfl ?_
      refine zv_cV (M' := mm_X7_draw) (ci := 7) (a := 37) (av := [.int ((fe_canm I la 14 ww t) 40 0)]) (st := []) (r := none) (I' := (ft_draw (fe_canm I la 14 ww t) ((fe_canm I la 14 ww t) 40 0))) (L' := L) (R' := zw_RC h sp la) rfl zc_3_81 gd_X7_draw rfl rfl rfl (Nat.le_of_ble_eq_true rfl) (ct_X7_draw (d := _) (tk_cg (fe_canm_ne (by decide)) hT)) ⟨Nat.le_refl _, Nat.le_refl _⟩ ?_
      refine zv_run 0 (pc' := 25) (lo' := [some (.ref 36), some (.ref 14), some (.ref ww), some (.int t)]) (st' := []) (I' := (ft_draw (fe_canm I la 14 ww t) ((fe_canm I la 14 ww t) 40 0))) (L' := L) (R' := zw_RC h sp la) rfl ?_
      refine zv_run 3 (pc' := 32) (lo' := [some (.ref 36), some (.ref 14), some (.ref ww), some (.int t)]) (st' := [.int ((fe_canm I la 14 ww t) 40 2)]) (I' := (ft_draw (fe_canm I la 14 ww t) ((fe_canm I la 14 ww t) 40 0))) (L' := L) (R' := zw_RC h sp la) rfl ?_
      refine zv_if_le (tgt := 40) (zs_at rfl) (by decide) (fun c32 => ?_) (fun c32 => ?_)
      · have _c := c32
        refine zv_run 2 (pc' := 42) (lo' := [some (.ref 36), some (.ref 14), some (.ref ww), some (.int t)]) (st' := [.int t, .ref ww]) (I' := (ft_draw (fe_canm I la 14 ww t) ((fe_canm I la 14 ww t) 40 0))) (L' := L) (R' := zw_RC h sp la) rfl ?_
        refine zs_putI (ci := 2) (k := 10) (zs_at rfl) (zf_ok rfl) (bt_S hb) (Or.inl rfl) rfl (fun q => absurd q (by decide)) ?_
        refine zv_run 3 (pc' := 48) (lo' := [some (.ref 36), some (.ref 14), some (.ref ww), some (.int t)]) (st' := [.ref ww, .int t, .ref ww]) (I' := (zx_uI (ft_draw (fe_canm I la 14 ww t) ((fe_canm I la 14 ww t) 40 0)) ww 10 t)) (L' := L) (R' := zw_RC h sp la) rfl ?_
        refine zv_get (ci := 2) (k := 4) (t := 0) (zs_at rfl) (zf_ok rfl) (bt_S hb) rfl ?_
        refine zv_run 0 (pc' := 51) (lo' := [some (.ref 36), some (.ref 14), some (.ref ww), some (.int t)]) (st' := [.int ((fe_canm I la 14 ww t) ww 4), .int t, .ref ww]) (I' := (zx_uI (ft_draw (fe_canm I la 14 ww t) ((fe_canm I la 14 ww t) 40 0)) ww 10 t)) (L' := L) (R' := zw_RC h sp la) (by rw [show (zx_uI (ft_draw (fe_canm I la 14 ww t) ((fe_canm I la 14 ww t) 40 0)) ww 10 t) ww 4 = (fe_canm I la 14 ww t) ww 4 from by simp [zx_uI, zr, zmap, ft_draw, show ww ≠ 38 from by (unfold bt at hb; omega)]]; rfl) ?_
        refine zv_run 1 (pc' := 52) (lo' := [some (.ref 36), some (.ref 14), some (.ref ww), some (.int t)]) (st' := [.int (t + ((fe_canm I la 14 ww t) ww 4)), .ref ww]) (I' := (zx_uI (ft_draw (fe_canm I la 14 ww t) ((fe_canm I la 14 ww t) 40 0)) ww 10 t)) (L' := L) (R' := zw_RC h sp la) rfl ?_
        refine zs_putI (ci := 2) (k := 11) (zs_at rfl) (zf_ok rfl) (bt_S hb) (Or.inl rfl) rfl (fun q => absurd q (by decide)) ?_
        refine zv_run 3 (pc' := 60) (lo' := [some (.ref 36), some (.ref 14), some (.ref ww), some (.int t)]) (st' := [.ref 40, .ref ww]) (I' := (zx_uI (zx_uI (ft_draw (fe_canm I la 14 ww t) ((fe_canm I la 14 ww t) 40 0)) ww 10 t) ww 11 (t + ((fe_canm I la 14 ww t) ww 4)))) (L' := L) (R' := zw_RC h sp la) rfl ?_
        refine zv_get (ci := 1) (k := 1) (t := 0) (zs_at rfl) (zf_ok rfl) rfl rfl ?_
        refine zv_run 0 (pc' := 63) (lo' := [some (.ref 36), some (.ref 14), some (.ref ww), some (.int t)]) (st' := [.int ((fe_canm I la 14 ww t) 40 1), .ref ww]) (I' := (zx_uI (zx_uI (ft_draw (fe_canm I la 14 ww t) ((fe_canm I la 14 ww t) 40 0)) ww 10 t) ww 11 (t + ((fe_canm I la 14 ww t) ww 4)))) (L' := L) (R' := zw_RC h sp la) (by rw [show (zx_uI (zx_uI (ft_draw (fe_canm I la 14 ww t) ((fe_canm I la 14 ww t) 40 0)) ww 10 t) ww 11 (t + ((fe_canm I la 14 ww t) ww 4))) 40 1 = (fe_canm I la 14 ww t) 40 1 from by simp [zx_uI, zr, zmap, ft_draw, show (40 : Nat) ≠ ww from by (unfold bt at hb; omega)]]; rfl) ?_
        refine zs_putI (ci := 2) (k := 12) (zs_at rfl) (zf_ok rfl) (bt_S hb) (Or.inl rfl) rfl (fun q => absurd q (by decide)) ?_
        refine zv_run 3 (pc' := 71) (lo' := [some (.ref 36), some (.ref 14), some (.ref ww), some (.int t)]) (st' := [.ref 40, .ref ww]) (I' := (zx_uI (zx_uI (zx_uI (ft_draw (fe_canm I la 14 ww t) ((fe_canm I la 14 ww t) 40 0)) ww 10 t) ww 11 (t + ((fe_canm I la 14 ww t) ww 4))) ww 12 ((fe_canm I la 14 ww t) 40 1))) (L' := L) (R' := zw_RC h sp la) rfl ?_
        refine zv_get (ci := 1) (k := 0) (t := 0) (zs_at rfl) (zf_ok rfl) rfl rfl ?_
        refine zv_run 0 (pc' := 74) (lo' := [some (.ref 36), some (.ref 14), some (.ref ww), some (.int t)]) (st' := [.int ((fe_canm I la 14 ww t) 40 0), .ref ww]) (I' := (zx_uI (zx_uI (zx_uI (ft_draw (fe_canm I la 14 ww t) ((fe_canm I la 14 ww t) 40 0)) ww 10 t) ww 11 (t + ((fe_canm I la 14 ww t) ww 4))) ww 12 ((fe_canm I la 14 ww t) 40 1))) (L' := L) (R' := zw_RC h sp la) (by rw [show (zx_uI (zx_uI (zx_uI (ft_draw (fe_canm I la 14 ww t) ((fe_canm I la 14 ww t) 40 0)) ww 10 t) ww 11 (t + ((fe_canm I la 14 ww t) ww 4))) ww 12 ((fe_canm I la 14 ww t) 40 1)) 40 0 = (fe_canm I la 14 ww t) 40 0 from by simp [zx_uI, zr, zmap, ft_draw, show (40 : Nat) ≠ ww from by (unfold bt at hb; omega)]]; rfl) ?_
        refine zs_putI (ci := 2) (k := 13) (zs_at rfl) (zf_ok rfl) (bt_S hb) (Or.inl rfl) rfl (fun q => absurd q (by decide)) ?_
        refine zv_run 5 (pc' := 84) (lo' := [some (.ref 36), some (.ref 14), some (.ref ww), some (.int t)]) (st' := [.ref ww, .ref 36]) (I' := (zx_uI (zx_uI (zx_uI (zx_uI (ft_draw (fe_canm I la 14 ww t) ((fe_canm I la 14 ww t) 40 0)) ww 10 t) ww 11 (t + ((fe_canm I la 14 ww t) ww 4))) ww 12 ((fe_canm I la 14 ww t) 40 1)) ww 13 ((fe_canm I la 14 ww t) 40 0))) (L' := L) (R' := (zx_uR (zw_RC h sp la) 36 4 (some ww))) rfl ?_
        refine zv_get (ci := 2) (k := 11) (t := 0) (zs_at rfl) (zf_ok rfl) (bt_S hb) rfl ?_
        refine zv_run 0 (pc' := 87) (lo' := [some (.ref 36), some (.ref 14), some (.ref ww), some (.int t)]) (st' := [.int (t + ((fe_canm I la 14 ww t) ww 4)), .ref 36]) (I' := (zx_uI (zx_uI (zx_uI (zx_uI (ft_draw (fe_canm I la 14 ww t) ((fe_canm I la 14 ww t) 40 0)) ww 10 t) ww 11 (t + ((fe_canm I la 14 ww t) ww 4))) ww 12 ((fe_canm I la 14 ww t) 40 1)) ww 13 ((fe_canm I la 14 ww t) 40 0))) (L' := L) (R' := (zx_uR (zw_RC h sp la) 36 4 (some ww))) (by rw [show (zx_uI (zx_uI (zx_uI (zx_uI (ft_draw (fe_canm I la 14 ww t) ((fe_canm I la 14 ww t) 40 0)) ww 10 t) ww 11 (t + ((fe_canm I la 14 ww t) ww 4))) ww 12 ((fe_canm I la 14 ww t) 40 1)) ww 13 ((fe_canm I la 14 ww t) 40 0)) ww 11 = t + ((fe_canm I la 14 ww t) ww 4) from by simp [zx_uI, zr, zmap, ft_draw, show ww ≠ 38 from by (unfold bt at hb; omega)]]; rfl) ?_
        refine zv_run 3 (pc' := 92) (lo' := [some (.ref 36), some (.ref 14), some (.ref ww), some (.int t)]) (st' := [.ref 36, .ref 36]) (I' := (zx_uI (zx_uI (zx_uI (zx_uI (zx_uI (ft_draw (fe_canm I la 14 ww t) ((fe_canm I la 14 ww t) 40 0)) ww 10 t) ww 11 (t + ((fe_canm I la 14 ww t) ww 4))) ww 12 ((fe_canm I la 14 ww t) 40 1)) ww 13 ((fe_canm I la 14 ww t) 40 0)) 36 5 (t + ((fe_canm I la 14 ww t) ww 4)))) (L' := L) (R' := (zx_uR (zw_RC h sp la) 36 4 (some ww))) rfl ?_
        refine zv_get (ci := 3) (k := 6) (t := 0) (zs_at rfl) (zf_ok rfl) rfl rfl ?_
        refine zv_run 0 (pc' := 95) (lo' := [some (.ref 36), some (.ref 14), some (.ref ww), some (.int t)]) (st' := [.int ((fe_canm I la 14 ww t) 36 6), .ref 36]) (I' := (zx_uI (zx_uI (zx_uI (zx_uI (zx_uI (ft_draw (fe_canm I la 14 ww t) ((fe_canm I la 14 ww t) 40 0)) ww 10 t) ww 11 (t + ((fe_canm I la 14 ww t) ww 4))) ww 12 ((fe_canm I la 14 ww t) 40 1)) ww 13 ((fe_canm I la 14 ww t) 40 0)) 36 5 (t + ((fe_canm I la 14 ww t) ww 4)))) (L' := L) (R' := (zx_uR (zw_RC h sp la) 36 4 (some ww))) (by rw [show (zx_uI (zx_uI (zx_uI (zx_uI (zx_uI (ft_draw (fe_canm I la 14 ww t) ((fe_canm I la 14 ww t) 40 0)) ww 10 t) ww 11 (t + ((fe_canm I la 14 ww t) ww 4))) ww 12 ((fe_canm I la 14 ww t) 40 1)) ww 13 ((fe_canm I la 14 ww t) 40 0)) 36 5 (t + ((fe_canm I la 14 ww t) ww 4))) 36 6 = (fe_canm I la 14 ww t) 36 6 from by simp [zx_uI, zr, zmap, ft_draw, show (36 : Nat) ≠ ww from by (unfold bt at hb; omega)]]; rfl) ?_
        refine zv_run 1 (pc' := 96) (lo' := [some (.ref 36), some (.ref 14), some (.ref ww), some (.int t)]) (st' := [.ref ww, .int ((fe_canm I la 14 ww t) 36 6), .ref 36]) (I' := (zx_uI (zx_uI (zx_uI (zx_uI (zx_uI (ft_draw (fe_canm I la 14 ww t) ((fe_canm I la 14 ww t) 40 0)) ww 10 t) ww 11 (t + ((fe_canm I la 14 ww t) ww 4))) ww 12 ((fe_canm I la 14 ww t) 40 1)) ww 13 ((fe_canm I la 14 ww t) 40 0)) 36 5 (t + ((fe_canm I la 14 ww t) ww 4)))) (L' := L) (R' := (zx_uR (zw_RC h sp la) 36 4 (some ww))) rfl ?_
        refine zv_get (ci := 2) (k := 0) (t := 0) (zs_at rfl) (zf_ok rfl) (bt_S hb) rfl ?_
        refine zv_run 0 (pc' := 99) (lo' := [some (.ref 36), some (.ref 14), some (.ref ww), some (.int t)]) (st' := [.int ((fe_canm I la 14 ww t) ww 0), .int ((fe_canm I la 14 ww t) 36 6), .ref 36]) (I' := (zx_uI (zx_uI (zx_uI (zx_uI (zx_uI (ft_draw (fe_canm I la 14 ww t) ((fe_canm I la 14 ww t) 40 0)) ww 10 t) ww 11 (t + ((fe_canm I la 14 ww t) ww 4))) ww 12 ((fe_canm I la 14 ww t) 40 1)) ww 13 ((fe_canm I la 14 ww t) 40 0)) 36 5 (t + ((fe_canm I la 14 ww t) ww 4)))) (L' := L) (R' := (zx_uR (zw_RC h sp la) 36 4 (some ww))) (by rw [show (zx_uI (zx_uI (zx_uI (zx_uI (zx_uI (ft_draw (fe_canm I la 14 ww t) ((fe_canm I la 14 ww t) 40 0)) ww 10 t) ww 11 (t + ((fe_canm I la 14 ww t) ww 4))) ww 12 ((fe_canm I la 14 ww t) 40 1)) ww 13 ((fe_canm I la 14 ww t) 40 0)) 36 5 (t + ((fe_canm I la 14 ww t) ww 4))) ww 0 = (fe_canm I la 14 ww t) ww 0 from by simp [zx_uI, zr, zmap, ft_draw, show ww ≠ 36 ∧ ww ≠ 38 from by (unfold bt at hb; omega)]]; rfl) ?_
        refine zv_run 4 (pc' := 105) (lo' := [some (.ref 36), some (.ref 14), some (.ref ww), some (.int t)]) (st' := [.ref 36, .ref 36]) (I' := (zx_uI (zx_uI (zx_uI (zx_uI (zx_uI (zx_uI (ft_draw (fe_canm I la 14 ww t) ((fe_canm I la 14 ww t) 40 0)) ww 10 t) ww 11 (t + ((fe_canm I la 14 ww t) ww 4))) ww 12 ((fe_canm I la 14 ww t) 40 1)) ww 13 ((fe_canm I la 14 ww t) 40 0)) 36 5 (t + ((fe_canm I la 14 ww t) ww 4))) 36 6 (((fe_canm I la 14 ww t) 36 6) ||| ((fe_canm I la 14 ww t) ww 0)))) (L' := L) (R' := (zx_uR (zw_RC h sp la) 36 4 (some ww))) rfl ?_
        refine zv_get (ci := 3) (k := 7) (t := 0) (zs_at rfl) (zf_ok rfl) rfl rfl ?_
        refine zv_run 0 (pc' := 108) (lo' := [some (.ref 36), some (.ref 14), some (.ref ww), some (.int t)]) (st' := [.int ((fe_canm I la 14 ww t) 36 7), .ref 36]) (I' := (zx_uI (zx_uI (zx_uI (zx_uI (zx_uI (zx_uI (ft_draw (fe_canm I la 14 ww t) ((fe_canm I la 14 ww t) 40 0)) ww 10 t) ww 11 (t + ((fe_canm I la 14 ww t) ww 4))) ww 12 ((fe_canm I la 14 ww t) 40 1)) ww 13 ((fe_canm I la 14 ww t) 40 0)) 36 5 (t + ((fe_canm I la 14 ww t) ww 4))) 36 6 (((fe_canm I la 14 ww t) 36 6) ||| ((fe_canm I la 14 ww t) ww 0)))) (L' := L) (R' := (zx_uR (zw_RC h sp la) 36 4 (some ww))) (by rw [show (zx_uI (zx_uI (zx_uI (zx_uI (zx_uI (zx_uI (ft_draw (fe_canm I la 14 ww t) ((fe_canm I la 14 ww t) 40 0)) ww 10 t) ww 11 (t + ((fe_canm I la 14 ww t) ww 4))) ww 12 ((fe_canm I la 14 ww t) 40 1)) ww 13 ((fe_canm I la 14 ww t) 40 0)) 36 5 (t + ((fe_canm I la 14 ww t) ww 4))) 36 6 (((fe_canm I la 14 ww t) 36 6) ||| ((fe_canm I la 14 ww t) ww 0))) 36 7 = (fe_canm I la 14 ww t) 36 7 from by simp [zx_uI, zr, zmap, ft_draw, show (36 : Nat) ≠ ww from by (unfold bt at hb; omega)]]; rfl) ?_
        refine zv_run 3 (pc' := 113) (lo' := [some (.ref 36), some (.ref 14), some (.ref ww), some (.int t)]) (st' := []) (I' := (zx_uI (zx_uI (zx_uI (zx_uI (zx_uI (zx_uI (zx_uI (ft_draw (fe_canm I la 14 ww t) ((fe_canm I la 14 ww t) 40 0)) ww 10 t) ww 11 (t + ((fe_canm I la 14 ww t) ww 4))) ww 12 ((fe_canm I la 14 ww t) 40 1)) ww 13 ((fe_canm I la 14 ww t) 40 0)) 36 5 (t + ((fe_canm I la 14 ww t) ww 4))) 36 6 (((fe_canm I la 14 ww t) 36 6) ||| ((fe_canm I la 14 ww t) ww 0))) 36 7 (((fe_canm I la 14 ww t) 36 7) + 1))) (L' := L) (R' := (zx_uR (zw_RC h sp la) 36 4 (some ww))) rfl ?_
        exact zv_vret (zs_at rfl) rfl ⟨Nat.le_refl _, Nat.le_refl _⟩ (zw_to rfl (by unfold fe_in; rw [if_pos c32]; rfl) rfl rc_last)
      · have _c := c32
        refine zv_run 5 (pc' := 42) (lo' := [some (.ref 36), some (.ref 14), some (.ref ww), some (.int t)]) (st' := [.int t, .ref ww]) (I' := (zx_uI (ft_draw (fe_canm I la 14 ww t) ((fe_canm I la 14 ww t) 40 0)) 36 3 0)) (L' := L) (R' := zw_RC h sp la) rfl ?_
        refine zs_putI (ci := 2) (k := 10) (zs_at rfl) (zf_ok rfl) (bt_S hb) (Or.inl rfl) rfl (fun q => absurd q (by decide)) ?_
        refine zv_run 3 (pc' := 48) (lo' := [some (.ref 36), some (.ref 14), some (.ref ww), some (.int t)]) (st' := [.ref ww, .int t, .ref ww]) (I' := (zx_uI (zx_uI (ft_draw (fe_canm I la 14 ww t) ((fe_canm I la 14 ww t) 40 0)) 36 3 0) ww 10 t)) (L' := L) (R' := zw_RC h sp la) rfl ?_
        refine zv_get (ci := 2) (k := 4) (t := 0) (zs_at rfl) (zf_ok rfl) (bt_S hb) rfl ?_
        refine zv_run 0 (pc' := 51) (lo' := [some (.ref 36), some (.ref 14), some (.ref ww), some (.int t)]) (st' := [.int ((fe_canm I la 14 ww t) ww 4), .int t, .ref ww]) (I' := (zx_uI (zx_uI (ft_draw (fe_canm I la 14 ww t) ((fe_canm I la 14 ww t) 40 0)) 36 3 0) ww 10 t)) (L' := L) (R' := zw_RC h sp la) (by rw [show (zx_uI (zx_uI (ft_draw (fe_canm I la 14 ww t) ((fe_canm I la 14 ww t) 40 0)) 36 3 0) ww 10 t) ww 4 = (fe_canm I la 14 ww t) ww 4 from by simp [zx_uI, zr, zmap, ft_draw, show ww ≠ 36 ∧ ww ≠ 38 from by (unfold bt at hb; omega)]]; rfl) ?_
        refine zv_run 1 (pc' := 52) (lo' := [some (.ref 36), some (.ref 14), some (.ref ww), some (.int t)]) (st' := [.int (t + ((fe_canm I la 14 ww t) ww 4)), .ref ww]) (I' := (zx_uI (zx_uI (ft_draw (fe_canm I la 14 ww t) ((fe_canm I la 14 ww t) 40 0)) 36 3 0) ww 10 t)) (L' := L) (R' := zw_RC h sp la) rfl ?_
        refine zs_putI (ci := 2) (k := 11) (zs_at rfl) (zf_ok rfl) (bt_S hb) (Or.inl rfl) rfl (fun q => absurd q (by decide)) ?_
        refine zv_run 3 (pc' := 60) (lo' := [some (.ref 36), some (.ref 14), some (.ref ww), some (.int t)]) (st' := [.ref 40, .ref ww]) (I' := (zx_uI (zx_uI (zx_uI (ft_draw (fe_canm I la 14 ww t) ((fe_canm I la 14 ww t) 40 0)) 36 3 0) ww 10 t) ww 11 (t + ((fe_canm I la 14 ww t) ww 4)))) (L' := L) (R' := zw_RC h sp la) rfl ?_
        refine zv_get (ci := 1) (k := 1) (t := 0) (zs_at rfl) (zf_ok rfl) rfl rfl ?_
        refine zv_run 0 (pc' := 63) (lo' := [some (.ref 36), some (.ref 14), some (.ref ww), some (.int t)]) (st' := [.int ((fe_canm I la 14 ww t) 40 1), .ref ww]) (I' := (zx_uI (zx_uI (zx_uI (ft_draw (fe_canm I la 14 ww t) ((fe_canm I la 14 ww t) 40 0)) 36 3 0) ww 10 t) ww 11 (t + ((fe_canm I la 14 ww t) ww 4)))) (L' := L) (R' := zw_RC h sp la) (by rw [show (zx_uI (zx_uI (zx_uI (ft_draw (fe_canm I la 14 ww t) ((fe_canm I la 14 ww t) 40 0)) 36 3 0) ww 10 t) ww 11 (t + ((fe_canm I la 14 ww t) ww 4))) 40 1 = (fe_canm I la 14 ww t) 40 1 from by simp [zx_uI, zr, zmap, ft_draw, show (40 : Nat) ≠ ww from by (unfold bt at hb; omega)]]; rfl) ?_
        refine zs_putI (ci := 2) (k := 12) (zs_at rfl) (zf_ok rfl) (bt_S hb) (Or.inl rfl) rfl (fun q => absurd q (by decide)) ?_
        refine zv_run 3 (pc' := 71) (lo' := [some (.ref 36), some (.ref 14), some (.ref ww), some (.int t)]) (st' := [.ref 40, .ref ww]) (I' := (zx_uI (zx_uI (zx_uI (zx_uI (ft_draw (fe_canm I la 14 ww t) ((fe_canm I la 14 ww t) 40 0)) 36 3 0) ww 10 t) ww 11 (t + ((fe_canm I la 14 ww t) ww 4))) ww 12 ((fe_canm I la 14 ww t) 40 1))) (L' := L) (R' := zw_RC h sp la) rfl ?_
        refine zv_get (ci := 1) (k := 0) (t := 0) (zs_at rfl) (zf_ok rfl) rfl rfl ?_
        refine zv_run 0 (pc' := 74) (lo' := [some (.ref 36), some (.ref 14), some (.ref ww), some (.int t)]) (st' := [.int ((fe_canm I la 14 ww t) 40 0), .ref ww]) (I' := (zx_uI (zx_uI (zx_uI (zx_uI (ft_draw (fe_canm I la 14 ww t) ((fe_canm I la 14 ww t) 40 0)) 36 3 0) ww 10 t) ww 11 (t + ((fe_canm I la 14 ww t) ww 4))) ww 12 ((fe_canm I la 14 ww t) 40 1))) (L' := L) (R' := zw_RC h sp la) (by rw [show (zx_uI (zx_uI (zx_uI (zx_uI (ft_draw (fe_canm I la 14 ww t) ((fe_canm I la 14 ww t) 40 0)) 36 3 0) ww 10 t) ww 11 (t + ((fe_canm I la 14 ww t) ww 4))) ww 12 ((fe_canm I la 14 ww t) 40 1)) 40 0 = (fe_canm I la 14 ww t) 40 0 from by simp [zx_uI, zr, zmap, ft_draw, show (40 : Nat) ≠ ww from by (unfold bt at hb; omega)]]; rfl) ?_
        refine zs_putI (ci := 2) (k := 13) (zs_at rfl) (zf_ok rfl) (bt_S hb) (Or.inl rfl) rfl (fun q => absurd q (by decide)) ?_
        refine zv_run 5 (pc' := 84) (lo' := [some (.ref 36), some (.ref 14), some (.ref ww), some (.int t)]) (st' := [.ref ww, .ref 36]) (I' := (zx_uI (zx_uI (zx_uI (zx_uI (zx_uI (ft_draw (fe_canm I la 14 ww t) ((fe_canm I la 14 ww t) 40 0)) 36 3 0) ww 10 t) ww 11 (t + ((fe_canm I la 14 ww t) ww 4))) ww 12 ((fe_canm I la 14 ww t) 40 1)) ww 13 ((fe_canm I la 14 ww t) 40 0))) (L' := L) (R' := (zx_uR (zw_RC h sp la) 36 4 (some ww))) rfl ?_
        refine zv_get (ci := 2) (k := 11) (t := 0) (zs_at rfl) (zf_ok rfl) (bt_S hb) rfl ?_
        refine zv_run 0 (pc' := 87) (lo' := [some (.ref 36), some (.ref 14), some (.ref ww), some (.int t)]) (st' := [.int (t + ((fe_canm I la 14 ww t) ww 4)), .ref 36]) (I' := (zx_uI (zx_uI (zx_uI (zx_uI (zx_uI (ft_draw (fe_canm I la 14 ww t) ((fe_canm I la 14 ww t) 40 0)) 36 3 0) ww 10 t) ww 11 (t + ((fe_canm I la 14 ww t) ww 4))) ww 12 ((fe_canm I la 14 ww t) 40 1)) ww 13 ((fe_canm I la 14 ww t) 40 0))) (L' := L) (R' := (zx_uR (zw_RC h sp la) 36 4 (some ww))) (by rw [show (zx_uI (zx_uI (zx_uI (zx_uI (zx_uI (ft_draw (fe_canm I la 14 ww t) ((fe_canm I la 14 ww t) 40 0)) 36 3 0) ww 10 t) ww 11 (t + ((fe_canm I la 14 ww t) ww 4))) ww 12 ((fe_canm I la 14 ww t) 40 1)) ww 13 ((fe_canm I la 14 ww t) 40 0)) ww 11 = t + ((fe_canm I la 14 ww t) ww 4) from by simp [zx_uI, zr, zmap, ft_draw, show ww ≠ 36 ∧ ww ≠ 38 from by (unfold bt at hb; omega)]]; rfl) ?_
        refine zv_run 3 (pc' := 92) (lo' := [some (.ref 36), some (.ref 14), some (.ref ww), some (.int t)]) (st' := [.ref 36, .ref 36]) (I' := (zx_uI (zx_uI (zx_uI (zx_uI (zx_uI (zx_uI (ft_draw (fe_canm I la 14 ww t) ((fe_canm I la 14 ww t) 40 0)) 36 3 0) ww 10 t) ww 11 (t + ((fe_canm I la 14 ww t) ww 4))) ww 12 ((fe_canm I la 14 ww t) 40 1)) ww 13 ((fe_canm I la 14 ww t) 40 0)) 36 5 (t + ((fe_canm I la 14 ww t) ww 4)))) (L' := L) (R' := (zx_uR (zw_RC h sp la) 36 4 (some ww))) rfl ?_
        refine zv_get (ci := 3) (k := 6) (t := 0) (zs_at rfl) (zf_ok rfl) rfl rfl ?_
        refine zv_run 0 (pc' := 95) (lo' := [some (.ref 36), some (.ref 14), some (.ref ww), some (.int t)]) (st' := [.int ((fe_canm I la 14 ww t) 36 6), .ref 36]) (I' := (zx_uI (zx_uI (zx_uI (zx_uI (zx_uI (zx_uI (ft_draw (fe_canm I la 14 ww t) ((fe_canm I la 14 ww t) 40 0)) 36 3 0) ww 10 t) ww 11 (t + ((fe_canm I la 14 ww t) ww 4))) ww 12 ((fe_canm I la 14 ww t) 40 1)) ww 13 ((fe_canm I la 14 ww t) 40 0)) 36 5 (t + ((fe_canm I la 14 ww t) ww 4)))) (L' := L) (R' := (zx_uR (zw_RC h sp la) 36 4 (some ww))) (by rw [show (zx_uI (zx_uI (zx_uI (zx_uI (zx_uI (zx_uI (ft_draw (fe_canm I la 14 ww t) ((fe_canm I la 14 ww t) 40 0)) 36 3 0) ww 10 t) ww 11 (t + ((fe_canm I la 14 ww t) ww 4))) ww 12 ((fe_canm I la 14 ww t) 40 1)) ww 13 ((fe_canm I la 14 ww t) 40 0)) 36 5 (t + ((fe_canm I la 14 ww t) ww 4))) 36 6 = (fe_canm I la 14 ww t) 36 6 from by simp [zx_uI, zr, zmap, ft_draw, show (36 : Nat) ≠ ww from by (unfold bt at hb; omega)]]; rfl) ?_
        refine zv_run 1 (pc' := 96) (lo' := [some (.ref 36), some (.ref 14), some (.ref ww), some (.int t)]) (st' := [.ref ww, .int ((fe_canm I la 14 ww t) 36 6), .ref 36]) (I' := (zx_uI (zx_uI (zx_uI (zx_uI (zx_uI (zx_uI (ft_draw (fe_canm I la 14 ww t) ((fe_canm I la 14 ww t) 40 0)) 36 3 0) ww 10 t) ww 11 (t + ((fe_canm I la 14 ww t) ww 4))) ww 12 ((fe_canm I la 14 ww t) 40 1)) ww 13 ((fe_canm I la 14 ww t) 40 0)) 36 5 (t + ((fe_canm I la 14 ww t) ww 4)))) (L' := L) (R' := (zx_uR (zw_RC h sp la) 36 4 (some ww))) rfl ?_
        refine zv_get (ci := 2) (k := 0) (t := 0) (zs_at rfl) (zf_ok rfl) (bt_S hb) rfl ?_
        refine zv_run 0 (pc' := 99) (lo' := [some (.ref 36), some (.ref 14), some (.ref ww), some (.int t)]) (st' := [.int ((fe_canm I la 14 ww t) ww 0), .int ((fe_canm I la 14 ww t) 36 6), .ref 36]) (I' := (zx_uI (zx_uI (zx_uI (zx_uI (zx_uI (zx_uI (ft_draw (fe_canm I la 14 ww t) ((fe_canm I la 14 ww t) 40 0)) 36 3 0) ww 10 t) ww 11 (t + ((fe_canm I la 14 ww t) ww 4))) ww 12 ((fe_canm I la 14 ww t) 40 1)) ww 13 ((fe_canm I la 14 ww t) 40 0)) 36 5 (t + ((fe_canm I la 14 ww t) ww 4)))) (L' := L) (R' := (zx_uR (zw_RC h sp la) 36 4 (some ww))) (by rw [show (zx_uI (zx_uI (zx_uI (zx_uI (zx_uI (zx_uI (ft_draw (fe_canm I la 14 ww t) ((fe_canm I la 14 ww t) 40 0)) 36 3 0) ww 10 t) ww 11 (t + ((fe_canm I la 14 ww t) ww 4))) ww 12 ((fe_canm I la 14 ww t) 40 1)) ww 13 ((fe_canm I la 14 ww t) 40 0)) 36 5 (t + ((fe_canm I la 14 ww t) ww 4))) ww 0 = (fe_canm I la 14 ww t) ww 0 from by simp [zx_uI, zr, zmap, ft_draw, show ww ≠ 36 ∧ ww ≠ 38 from by (unfold bt at hb; omega)]]; rfl) ?_
        refine zv_run 4 (pc' := 105) (lo' := [some (.ref 36), some (.ref 14), some (.ref ww), some (.int t)]) (st' := [.ref 36, .ref 36]) (I' := (zx_uI (zx_uI (zx_uI (zx_uI (zx_uI (zx_uI (zx_uI (ft_draw (fe_canm I la 14 ww t) ((fe_canm I la 14 ww t) 40 0)) 36 3 0) ww 10 t) ww 11 (t + ((fe_canm I la 14 ww t) ww 4))) ww 12 ((fe_canm I la 14 ww t) 40 1)) ww 13 ((fe_canm I la 14 ww t) 40 0)) 36 5 (t + ((fe_canm I la 14 ww t) ww 4))) 36 6 (((fe_canm I la 14 ww t) 36 6) ||| ((fe_canm I la 14 ww t) ww 0)))) (L' := L) (R' := (zx_uR (zw_RC h sp la) 36 4 (some ww))) rfl ?_
        refine zv_get (ci := 3) (k := 7) (t := 0) (zs_at rfl) (zf_ok rfl) rfl rfl ?_
        refine zv_run 0 (pc' := 108) (lo' := [some (.ref 36), some (.ref 14), some (.ref ww), some (.int t)]) (st' := [.int ((fe_canm I la 14 ww t) 36 7), .ref 36]) (I' := (zx_uI (zx_uI (zx_uI (zx_uI (zx_uI (zx_uI (zx_uI (ft_draw (fe_canm I la 14 ww t) ((fe_canm I la 14 ww t) 40 0)) 36 3 0) ww 10 t) ww 11 (t + ((fe_canm I la 14 ww t) ww 4))) ww 12 ((fe_canm I la 14 ww t) 40 1)) ww 13 ((fe_canm I la 14 ww t) 40 0)) 36 5 (t + ((fe_canm I la 14 ww t) ww 4))) 36 6 (((fe_canm I la 14 ww t) 36 6) ||| ((fe_canm I la 14 ww t) ww 0)))) (L' := L) (R' := (zx_uR (zw_RC h sp la) 36 4 (some ww))) (by rw [show (zx_uI (zx_uI (zx_uI (zx_uI (zx_uI (zx_uI (zx_uI (ft_draw (fe_canm I la 14 ww t) ((fe_canm I la 14 ww t) 40 0)) 36 3 0) ww 10 t) ww 11 (t + ((fe_canm I la 14 ww t) ww 4))) ww 12 ((fe_canm I la 14 ww t) 40 1)) ww 13 ((fe_canm I la 14 ww t) 40 0)) 36 5 (t + ((fe_canm I la 14 ww t) ww 4))) 36 6 (((fe_canm I la 14 ww t) 36 6) ||| ((fe_canm I la 14 ww t) ww 0))) 36 7 = (fe_canm I la 14 ww t) 36 7 from by simp [zx_uI, zr, zmap, ft_draw, show (36 : Nat) ≠ ww from by (unfold bt at hb; omega)]]; rfl) ?_
        refine zv_run 3 (pc' := 113) (lo' := [some (.ref 36), some (.ref 14), some (.ref ww), some (.int t)]) (st' := []) (I' := (zx_uI (zx_uI (zx_uI (zx_uI (zx_uI (zx_uI (zx_uI (zx_uI (ft_draw (fe_canm I la 14 ww t) ((fe_canm I la 14 ww t) 40 0)) 36 3 0) ww 10 t) ww 11 (t + ((fe_canm I la 14 ww t) ww 4))) ww 12 ((fe_canm I la 14 ww t) 40 1)) ww 13 ((fe_canm I la 14 ww t) 40 0)) 36 5 (t + ((fe_canm I la 14 ww t) ww 4))) 36 6 (((fe_canm I la 14 ww t) 36 6) ||| ((fe_canm I la 14 ww t) ww 0))) 36 7 (((fe_canm I la 14 ww t) 36 7) + 1))) (L' := L) (R' := (zx_uR (zw_RC h sp la) 36 4 (some ww))) rfl ?_
        exact zv_vret (zs_at rfl) rfl ⟨Nat.le_refl _, Nat.le_refl _⟩ (zw_to rfl (by unfold fe_in; rw [if_neg c32]; rfl) rfl rc_last)
    · exact absurd c7 hcan
theorem fh_who_at {I : zx_I} {a i m : Nat} (hm : I a 13 = nI m) (hi : i < m) (hm6 : m ≤ 6) : fh_who I a (nI i) = some (a + 4 + i) := by
  unfold fh_who
  rw [if_neg (nI_pos (by omega)), if_neg (by rw [hm]; exact nI_ge hi (by omega)), if_pos (show nI i < 6 from nI_lt (a := i) (b := 6) (by omega) (by decide)), nI_clamp (by omega)]
theorem ct2_X5_who {d : Nat} {I : zx_I} {L : zx_L} {h sp : Nat} {la : Option Nat} {a i m : Nat} (ha : a = 4 ∨ a = 14) (hm : I a 13 = nI m) (hi : i < m) (hm6 : m ≤ 6) : zx_M0 mm_X5_who (d + 0) 0 0 [.ref a, .int (nI i)] zw_SC I L (zw_RC h sp la) (zw_ret (some (.ref (a + 4 + i))) zw_SC I L (zw_RC h sp la)) := by
  have q := ct_X5_who (d := d) (I := I) (L := L) (h := h) (sp := sp) (la := la) (i := nI i) ha
  rw [fh_who_at hm hi hm6] at q
  exact q
def ch_pf (J : zx_I) (w : Nat) (first : Option Nat) : Int32 := match first with
  | none => 1
  | some f => fa_pref J w f
def ch_loop (la : Option Nat) (a : Nat) (t hot : Int32) : Nat → Nat → Option Nat → zx_I → Option Nat × zx_I
  | 0, _, first, J => (first, J)
  | n + 1, i, first, J => if ch_pf J (a + 4 + i) first = 0 then ch_loop la a t hot n (i + 1) first J
    else if fe_can J la a (a + 4 + i) t = 0 then ch_loop la a t hot n (i + 1) first (fe_canm J la a (a + 4 + i) t)
    else if hot = 0 then (if fe_canm J la a (a + 4 + i) t 40 3 = 0 then ch_loop la a t hot n (i + 1) first (fe_canm J la a (a + 4 + i) t) else ch_loop la a t hot n (i + 1) (some (a + 4 + i)) (fe_canm J la a (a + 4 + i) t))
    else ch_loop la a t hot n (i + 1) (some (a + 4 + i)) (fe_canm J la a (a + 4 + i) t)
def fe_hot (I : zx_I) : Int32 := if I 34 0 = 2 then (if ft_unitsIn I 0 / I 37 2 < I 34 1 then 0 else 1) else 1
def fe_choose (I : zx_I) (la : Option Nat) (a : Nat) (t : Int32) : Option Nat × zx_I := if I 34 0 = 0 then (match fh_who I a (fa_place I (I 36 7)) with
  | none => (none, I)
  | some w => if fe_can I la a w t = 0 then (none, fe_canm I la a w t) else (some w, fe_canm I la a w t)) else ch_loop la a t (fe_hot I) (I a 13).toInt.toNat 0 none I
theorem eq40_canm {I J : zx_I} {la : Option Nat} {a w : Nat} {t : Int32} (h : eq40 J I) : eq40 (fe_canm J la a w t) I := fun b hb => (fe_canm_ne hb).trans (h b hb)
theorem lp_X3_chosen_4 {d : Nat} {I : zx_I} {L : zx_L} {h sp : Nat} {la : Option Nat} {m : Nat} {t hot : Int32} (hT : tk_ok I) (hl : ∀ wl, la = some wl → bt wl) (hm : I 4 13 = nI m) (hm6 : m ≤ 6) (hok : ∀ i, i < m → ok_w I 4 (8 + i)) : ∀ (n i : Nat) (first : Option Nat) (J : zx_I) (x7 : Option Value), i + n = m → eq40 J I → (∀ f, first = some f → bt f) → zx_V mm_X3_chosen (d + 3) z0 (zw_ret (some (va_rf (ch_loop la 4 t hot n i first J).1)) zw_SC (ch_loop la 4 t hot n i first J).2 L (zw_RC h sp la)) zw_SC 80 [some (.ref 36), some (.ref 4), some (.ref 34), some (.int t), some (.int hot), some (va_rf first), some (.int (nI i)), x7] [] J L (zw_RC h sp la) := by
  intro n
  induction n with
  | zero =>
    intro i first J x7 hi hJ hf
    rcases first with _ | f
    · skip
      refine zv_run 3 (pc' := 86) (lo' := [some (.ref 36), some (.ref 4), some (.ref 34), some (.int t), some (.int hot), some (.null), some (.int (nI i)), x7]) (st' := [.int (J 4 13), .int (nI i)]) (I' := J) (L' := L) (R' := zw_RC h sp la) rfl ?_
      refine zv_icmp_ge (tgt := 154) (zs_at rfl) (by decide) (fun c86 => ?_) (fun c86 => ?_)
      · have _c := c86
        refine zv_run 1 (pc' := 156) (lo' := [some (.ref 36), some (.ref 4), some (.ref 34), some (.int t), some (.int hot), some (.null), some (.int (nI i)), x7]) (st' := [.null]) (I' := J) (L' := L) (R' := zw_RC h sp la) rfl ?_
        exact zv_aret (r := none) (zs_at rfl) rfl ⟨Nat.le_refl _, Nat.le_refl _⟩ (zw_to rfl rfl rfl rfl)
      · exact absurd (by rw [hJ 4 (by decide), hm]; exact nI_le (by omega) (by omega)) c86
    · skip
      refine zv_run 3 (pc' := 86) (lo' := [some (.ref 36), some (.ref 4), some (.ref 34), some (.int t), some (.int hot), some (.ref f), some (.int (nI i)), x7]) (st' := [.int (J 4 13), .int (nI i)]) (I' := J) (L' := L) (R' := zw_RC h sp la) rfl ?_
      refine zv_icmp_ge (tgt := 154) (zs_at rfl) (by decide) (fun c86 => ?_) (fun c86 => ?_)
      · have _c := c86
        refine zv_run 1 (pc' := 156) (lo' := [some (.ref 36), some (.ref 4), some (.ref 34), some (.int t), some (.int hot), some (.ref f), some (.int (nI i)), x7]) (st' := [.ref f]) (I' := J) (L' := L) (R' := zw_RC h sp la) rfl ?_
        exact zv_aret (r := some f) (zs_at rfl) rfl ⟨Nat.le_refl _, Nat.le_refl _⟩ (zw_to rfl rfl rfl rfl)
      · exact absurd (by rw [hJ 4 (by decide), hm]; exact nI_le (by omega) (by omega)) c86
  | succ n ih =>
    intro i first J x7 hi hJ hf
    have hbi : bt (8 + i) := by unfold bt; omega
    rcases first with _ | f
    · skip
      refine zv_run 3 (pc' := 86) (lo' := [some (.ref 36), some (.ref 4), some (.ref 34), some (.int t), some (.int hot), some (.null), some (.int (nI i)), x7]) (st' := [.int (J 4 13), .int (nI i)]) (I' := J) (L' := L) (R' := zw_RC h sp la) rfl ?_
      refine zv_icmp_ge (tgt := 154) (zs_at rfl) (by decide) (fun c86 => ?_) (fun c86 => ?_)
      · exact absurd c86 (by rw [hJ 4 (by decide), hm]; exact nI_ge (by omega) (by omega))
      · have _c := c86
        refine zv_run 2 (pc' := 92) (lo' := [some (.ref 36), some (.ref 4), some (.ref 34), some (.int t), some (.int hot), some (.null), some (.int (nI i)), x7]) (st' := [.int (nI i), .ref 4]) (I' := J) (L' := L) (R' := zw_RC h sp la) rfl ?_
        refine zv_cV (M' := mm_X5_who) (ci := 5) (a := 4) (av := [.int (nI i)]) (st := []) (r := some (.ref (8 + i))) (I' := J) (L' := L) (R' := zw_RC h sp la) rfl zc_3_139 gd_X5_who rfl rfl rfl (Nat.le_of_ble_eq_true rfl) (ct2_X5_who (d := _) (Or.inl rfl) (by rw [hJ 4 (by decide)]; exact hm) (show i < m by omega) hm6) ⟨Nat.le_refl _, Nat.le_refl _⟩ ?_
        refine zv_run 0 (pc' := 95) (lo' := [some (.ref 36), some (.ref 4), some (.ref 34), some (.int t), some (.int hot), some (.null), some (.int (nI i)), x7]) (st' := [.ref (8 + i)]) (I' := J) (L' := L) (R' := zw_RC h sp la) rfl ?_
        refine zv_run 2 (pc' := 99) (lo' := [some (.ref 36), some (.ref 4), some (.ref 34), some (.int t), some (.int hot), some (.null), some (.int (nI i)), some (.ref (8 + i))]) (st' := [.ref (8 + i)]) (I' := J) (L' := L) (R' := zw_RC h sp la) rfl ?_
        refine zv_ifnull (zs_at rfl) ?_
        refine zv_run 1 (pc' := 104) (lo' := [some (.ref 36), some (.ref 4), some (.ref 34), some (.int t), some (.int hot), some (.null), some (.int (nI i)), some (.ref (8 + i))]) (st' := [.null]) (I' := J) (L' := L) (R' := zw_RC h sp la) rfl ?_
        refine zv_ifnullN (tgt := 118) (zs_at rfl) (by decide) ?_
        refine zv_run 4 (pc' := 123) (lo' := [some (.ref 36), some (.ref 4), some (.ref 34), some (.int t), some (.int hot), some (.null), some (.int (nI i)), some (.ref (8 + i))]) (st' := [.int t, .ref (8 + i), .ref 4, .ref 36]) (I' := J) (L' := L) (R' := zw_RC h sp la) rfl ?_
        refine zv_cV (M' := mm_X3_can) (ci := 3) (a := 36) (av := [.ref 4, .ref (8 + i), .int t]) (st := []) (r := some (.int (fe_can J la 4 (8 + i) t))) (I' := (fe_canm J la 4 (8 + i) t)) (L' := L) (R' := zw_RC h sp la) rfl zc_3_143 gd_X3_can rfl rfl rfl (Nat.le_of_ble_eq_true rfl) (ct_X3_can (d := _) (Or.inl rfl) (tk_cg (hJ 37 (by decide)) hT) hbi hl (ok_w_cg hJ (Or.inl rfl) hbi (hok i (by omega)))) ⟨Nat.le_refl _, Nat.le_refl _⟩ ?_
        refine zv_run 0 (pc' := 126) (lo' := [some (.ref 36), some (.ref 4), some (.ref 34), some (.int t), some (.int hot), some (.null), some (.int (nI i)), some (.ref (8 + i))]) (st' := [.int (fe_can J la 4 (8 + i) t)]) (I' := (fe_canm J la 4 (8 + i) t)) (L' := L) (R' := zw_RC h sp la) rfl ?_
        refine zv_if_eq (tgt := 148) (zs_at rfl) (by decide) (fun c126 => ?_) (fun c126 => ?_)
        · have _c := c126
          refine zv_run 2 (pc' := 80) (lo' := [some (.ref 36), some (.ref 4), some (.ref 34), some (.int t), some (.int hot), some (.null), some (.int ((nI i) + 1)), some (.ref (8 + i))]) (st' := []) (I' := (fe_canm J la 4 (8 + i) t)) (L' := L) (R' := zw_RC h sp la) rfl ?_
          rw [show ch_loop la 4 t hot (n + 1) i none J = ch_loop la 4 t hot n (i + 1) none (fe_canm J la 4 (8 + i) t) from by show (if ch_pf J (4 + 4 + i) none = 0 then _ else _) = _; rw [if_neg (show ¬ ch_pf J (8 + i) none = 0 from (fun q => absurd (show (1 : Int32) = 0 from q) (by decide))), if_pos c126], ← nI_succ]
          exact ih (i + 1) _ _ _ (by omega) (eq40_canm hJ) hf
        · have _c := c126
          refine zv_run 1 (pc' := 131) (lo' := [some (.ref 36), some (.ref 4), some (.ref 34), some (.int t), some (.int hot), some (.null), some (.int (nI i)), some (.ref (8 + i))]) (st' := [.int hot]) (I' := (fe_canm J la 4 (8 + i) t)) (L' := L) (R' := zw_RC h sp la) rfl ?_
          refine zv_if_ne (tgt := 144) (zs_at rfl) (by decide) (fun c131 => ?_) (fun c131 => ?_)
          · have _c := c131
            refine zv_run 4 (pc' := 80) (lo' := [some (.ref 36), some (.ref 4), some (.ref 34), some (.int t), some (.int hot), some (.ref (8 + i)), some (.int ((nI i) + 1)), some (.ref (8 + i))]) (st' := []) (I' := (fe_canm J la 4 (8 + i) t)) (L' := L) (R' := zw_RC h sp la) rfl ?_
            rw [show ch_loop la 4 t hot (n + 1) i none J = ch_loop la 4 t hot n (i + 1) (some (8 + i)) (fe_canm J la 4 (8 + i) t) from by show (if ch_pf J (4 + 4 + i) none = 0 then _ else _) = _; rw [if_neg (show ¬ ch_pf J (8 + i) none = 0 from (fun q => absurd (show (1 : Int32) = 0 from q) (by decide))), if_neg c126, if_neg c131], ← nI_succ]
            exact ih (i + 1) _ _ _ (by omega) (eq40_canm hJ) (fun z hz => by cases hz; exact hbi)
          · have _c := c131
            refine zv_run 3 (pc' := 141) (lo' := [some (.ref 36), some (.ref 4), some (.ref 34), some (.int t), some (.int hot), some (.null), some (.int (nI i)), some (.ref (8 + i))]) (st' := [.int ((fe_canm J la 4 (8 + i) t) 40 3)]) (I' := (fe_canm J la 4 (8 + i) t)) (L' := L) (R' := zw_RC h sp la) rfl ?_
            refine zv_if_eq (tgt := 148) (zs_at rfl) (by decide) (fun c141 => ?_) (fun c141 => ?_)
            · have _c := c141
              refine zv_run 2 (pc' := 80) (lo' := [some (.ref 36), some (.ref 4), some (.ref 34), some (.int t), some (.int hot), some (.null), some (.int ((nI i) + 1)), some (.ref (8 + i))]) (st' := []) (I' := (fe_canm J la 4 (8 + i) t)) (L' := L) (R' := zw_RC h sp la) rfl ?_
              rw [show ch_loop la 4 t hot (n + 1) i none J = ch_loop la 4 t hot n (i + 1) none (fe_canm J la 4 (8 + i) t) from by show (if ch_pf J (4 + 4 + i) none = 0 then _ else _) = _; rw [if_neg (show ¬ ch_pf J (8 + i) none = 0 from (fun q => absurd (show (1 : Int32) = 0 from q) (by decide))), if_neg c126, if_pos c131, if_pos c141], ← nI_succ]
              exact ih (i + 1) _ _ _ (by omega) (eq40_canm hJ) hf
            · have _c := c141
              refine zv_run 4 (pc' := 80) (lo' := [some (.ref 36), some (.ref 4), some (.ref 34), some (.int t), some (.int hot), some (.ref (8 + i)), some (.int ((nI i) + 1)), some (.ref (8 + i))]) (st' := []) (I' := (fe_canm J la 4 (8 + i) t)) (L' := L) (R' := zw_RC h sp la) rfl ?_
              rw [show ch_loop la 4 t hot (n + 1) i none J = ch_loop la 4 t hot n (i + 1) (some (8 + i)) (fe_canm J la 4 (8 + i) t) from by show (if ch_pf J (4 + 4 + i) none = 0 then _ else _) = _; rw [if_neg (show ¬ ch_pf J (8 + i) none = 0 from (fun q => absurd (show (1 : Int32) = 0 from q) (by decide))), if_neg c126, if_pos c131, if_neg c141], ← nI_succ]
              exact ih (i + 1) _ _ _ (by omega) (eq40_canm hJ) (fun z hz => by cases hz; exact hbi)
    · skip
      have hbf : bt f := hf f rfl
      refine zv_run 3 (pc' := 86) (lo' := [some (.ref 36), some (.ref 4), some (.ref 34), some (.int t), some (.int hot), some (.ref f), some (.int (nI i)), x7]) (st' := [.int (J 4 13), .int (nI i)]) (I' := J) (L' := L) (R' := zw_RC h sp la) rfl ?_
      refine zv_icmp_ge (tgt := 154) (zs_at rfl) (by decide) (fun c86 => ?_) (fun c86 => ?_)
      · exact absurd c86 (by rw [hJ 4 (by decide), hm]; exact nI_ge (by omega) (by omega))
      · have _c := c86
        refine zv_run 2 (pc' := 92) (lo' := [some (.ref 36), some (.ref 4), some (.ref 34), some (.int t), some (.int hot), some (.ref f), some (.int (nI i)), x7]) (st' := [.int (nI i), .ref 4]) (I' := J) (L' := L) (R' := zw_RC h sp la) rfl ?_
        refine zv_cV (M' := mm_X5_who) (ci := 5) (a := 4) (av := [.int (nI i)]) (st := []) (r := some (.ref (8 + i))) (I' := J) (L' := L) (R' := zw_RC h sp la) rfl zc_3_139 gd_X5_who rfl rfl rfl (Nat.le_of_ble_eq_true rfl) (ct2_X5_who (d := _) (Or.inl rfl) (by rw [hJ 4 (by decide)]; exact hm) (show i < m by omega) hm6) ⟨Nat.le_refl _, Nat.le_refl _⟩ ?_
        refine zv_run 0 (pc' := 95) (lo' := [some (.ref 36), some (.ref 4), some (.ref 34), some (.int t), some (.int hot), some (.ref f), some (.int (nI i)), x7]) (st' := [.ref (8 + i)]) (I' := J) (L' := L) (R' := zw_RC h sp la) rfl ?_
        refine zv_run 2 (pc' := 99) (lo' := [some (.ref 36), some (.ref 4), some (.ref 34), some (.int t), some (.int hot), some (.ref f), some (.int (nI i)), some (.ref (8 + i))]) (st' := [.ref (8 + i)]) (I' := J) (L' := L) (R' := zw_RC h sp la) rfl ?_
        refine zv_ifnull (zs_at rfl) ?_
        refine zv_run 1 (pc' := 104) (lo' := [some (.ref 36), some (.ref 4), some (.ref 34), some (.int t), some (.int hot), some (.ref f), some (.int (nI i)), some (.ref (8 + i))]) (st' := [.ref f]) (I' := J) (L' := L) (R' := zw_RC h sp la) rfl ?_
        refine zv_ifnull (zs_at rfl) ?_
        refine zv_run 3 (pc' := 112) (lo' := [some (.ref 36), some (.ref 4), some (.ref 34), some (.int t), some (.int hot), some (.ref f), some (.int (nI i)), some (.ref (8 + i))]) (st' := [.ref f, .ref (8 + i), .ref 34]) (I' := J) (L' := L) (R' := zw_RC h sp la) rfl ?_
        refine zv_cV (M' := mm_X0_prefers) (ci := 0) (a := 34) (av := [.ref (8 + i), .ref f]) (st := []) (r := some (.int (fa_pref J (8 + i) f))) (I' := J) (L' := L) (R' := zw_RC h sp la) rfl zc_3_156 gd_X0_prefers rfl rfl rfl (Nat.le_of_ble_eq_true rfl) (ct_X0_prefers (d := _) hbi hbf) ⟨Nat.le_refl _, Nat.le_refl _⟩ ?_
        refine zv_run 0 (pc' := 115) (lo' := [some (.ref 36), some (.ref 4), some (.ref 34), some (.int t), some (.int hot), some (.ref f), some (.int (nI i)), some (.ref (8 + i))]) (st' := [.int (fa_pref J (8 + i) f)]) (I' := J) (L' := L) (R' := zw_RC h sp la) rfl ?_
        refine zv_if_eq (tgt := 148) (zs_at rfl) (by decide) (fun c115 => ?_) (fun c115 => ?_)
        · have _c := c115
          refine zv_run 2 (pc' := 80) (lo' := [some (.ref 36), some (.ref 4), some (.ref 34), some (.int t), some (.int hot), some (.ref f), some (.int ((nI i) + 1)), some (.ref (8 + i))]) (st' := []) (I' := J) (L' := L) (R' := zw_RC h sp la) rfl ?_
          rw [show ch_loop la 4 t hot (n + 1) i (some f) J = ch_loop la 4 t hot n (i + 1) (some f) J from by show (if ch_pf J (4 + 4 + i) (some f) = 0 then _ else _) = _; rw [if_pos (show ch_pf J (8 + i) (some f) = 0 from c115)], ← nI_succ]
          exact ih (i + 1) _ _ _ (by omega) hJ hf
        · have _c := c115
          refine zv_run 4 (pc' := 123) (lo' := [some (.ref 36), some (.ref 4), some (.ref 34), some (.int t), some (.int hot), some (.ref f), some (.int (nI i)), some (.ref (8 + i))]) (st' := [.int t, .ref (8 + i), .ref 4, .ref 36]) (I' := J) (L' := L) (R' := zw_RC h sp la) rfl ?_
          refine zv_cV (M' := mm_X3_can) (ci := 3) (a := 36) (av := [.ref 4, .ref (8 + i), .int t]) (st := []) (r := some (.int (fe_can J la 4 (8 + i) t))) (I' := (fe_canm J la 4 (8 + i) t)) (L' := L) (R' := zw_RC h sp la) rfl zc_3_143 gd_X3_can rfl rfl rfl (Nat.le_of_ble_eq_true rfl) (ct_X3_can (d := _) (Or.inl rfl) (tk_cg (hJ 37 (by decide)) hT) hbi hl (ok_w_cg hJ (Or.inl rfl) hbi (hok i (by omega)))) ⟨Nat.le_refl _, Nat.le_refl _⟩ ?_
          refine zv_run 0 (pc' := 126) (lo' := [some (.ref 36), some (.ref 4), some (.ref 34), some (.int t), some (.int hot), some (.ref f), some (.int (nI i)), some (.ref (8 + i))]) (st' := [.int (fe_can J la 4 (8 + i) t)]) (I' := (fe_canm J la 4 (8 + i) t)) (L' := L) (R' := zw_RC h sp la) rfl ?_
          refine zv_if_eq (tgt := 148) (zs_at rfl) (by decide) (fun c126 => ?_) (fun c126 => ?_)
          · have _c := c126
            refine zv_run 2 (pc' := 80) (lo' := [some (.ref 36), some (.ref 4), some (.ref 34), some (.int t), some (.int hot), some (.ref f), some (.int ((nI i) + 1)), some (.ref (8 + i))]) (st' := []) (I' := (fe_canm J la 4 (8 + i) t)) (L' := L) (R' := zw_RC h sp la) rfl ?_
            rw [show ch_loop la 4 t hot (n + 1) i (some f) J = ch_loop la 4 t hot n (i + 1) (some f) (fe_canm J la 4 (8 + i) t) from by show (if ch_pf J (4 + 4 + i) (some f) = 0 then _ else _) = _; rw [if_neg (show ¬ ch_pf J (8 + i) (some f) = 0 from c115), if_pos c126], ← nI_succ]
            exact ih (i + 1) _ _ _ (by omega) (eq40_canm hJ) hf
          · have _c := c126
            refine zv_run 1 (pc' := 131) (lo' := [some (.ref 36), some (.ref 4), some (.ref 34), some (.int t), some (.int hot), some (.ref f), some (.int (nI i)), some (.ref (8 + i))]) (st' := [.int hot]) (I' := (fe_canm J la 4 (8 + i) t)) (L' := L) (R' := zw_RC h sp la) rfl ?_
            refine zv_if_ne (tgt := 144) (zs_at rfl) (by decide) (fun c131 => ?_) (fun c131 => ?_)
            · have _c := c131
              refine zv_run 4 (pc' := 80) (lo' := [some (.ref 36), some (.ref 4), some (.ref 34), some (.int t), some (.int hot), some (.ref (8 + i)), some (.int ((nI i) + 1)), some (.ref (8 + i))]) (st' := []) (I' := (fe_canm J la 4 (8 + i) t)) (L' := L) (R' := zw_RC h sp la) rfl ?_
              rw [show ch_loop la 4 t hot (n + 1) i (some f) J = ch_loop la 4 t hot n (i + 1) (some (8 + i)) (fe_canm J la 4 (8 + i) t) from by show (if ch_pf J (4 + 4 + i) (some f) = 0 then _ else _) = _; rw [if_neg (show ¬ ch_pf J (8 + i) (some f) = 0 from c115), if_neg c126, if_neg c131], ← nI_succ]
              exact ih (i + 1) _ _ _ (by omega) (eq40_canm hJ) (fun z hz => by cases hz; exact hbi)
            · have _c := c131
              refine zv_run 3 (pc' := 141) (lo' := [some (.ref 36), some (.ref 4), some (.ref 34), some (.int t), some (.int hot), some (.ref f), some (.int (nI i)), some (.ref (8 + i))]) (st' := [.int ((fe_canm J la 4 (8 + i) t) 40 3)]) (I' := (fe_canm J la 4 (8 + i) t)) (L' := L) (R' := zw_RC h sp la) rfl ?_
              refine zv_if_eq (tgt := 148) (zs_at rfl) (by decide) (fun c141 => ?_) (fun c141 => ?_)
              · have _c := c141
                refine zv_run 2 (pc' := 80) (lo' := [some (.ref 36), some (.ref 4), some (.ref 34), some (.int t), some (.int hot), some (.ref f), some (.int ((nI i) + 1)), some (.ref (8 + i))]) (st' := []) (I' := (fe_canm J la 4 (8 + i) t)) (L' := L) (R' := zw_RC h sp la) rfl ?_
                rw [show ch_loop la 4 t hot (n + 1) i (some f) J = ch_loop la 4 t hot n (i + 1) (some f) (fe_canm J la 4 (8 + i) t) from by show (if ch_pf J (4 + 4 + i) (some f) = 0 then _ else _) = _; rw [if_neg (show ¬ ch_pf J (8 + i) (some f) = 0 from c115), if_neg c126, if_pos c131, if_pos c141], ← nI_succ]
                exact ih (i + 1) _ _ _ (by omega) (eq40_canm hJ) hf
              · have _c := c141
                refine zv_run 4 (pc' := 80) (lo' := [some (.ref 36), some (.ref 4), some (.ref 34), some (.int t), some (.int hot), some (.ref (8 + i)), some (.int ((nI i) + 1)), some (.ref (8 + i))]) (st' := []) (I' := (fe_canm J la 4 (8 + i) t)) (L' := L) (R' := zw_RC h sp la) rfl ?_
                rw [show ch_loop la 4 t hot (n + 1) i (some f) J = ch_loop la 4 t hot n (i + 1) (some (8 + i)) (fe_canm J la 4 (8 + i) t) from by show (if ch_pf J (4 + 4 + i) (some f) = 0 then _ else _) = _; rw [if_neg (show ¬ ch_pf J (8 + i) (some f) = 0 from c115), if_neg c126, if_pos c131, if_neg c141], ← nI_succ]
                exact ih (i + 1) _ _ _ (by omega) (eq40_canm hJ) (fun z hz => by cases hz; exact hbi)
theorem lp_X3_chosen_14 {d : Nat} {I : zx_I} {L : zx_L} {h sp : Nat} {la : Option Nat} {m : Nat} {t hot : Int32} (hT : tk_ok I) (hl : ∀ wl, la = some wl → bt wl) (hm : I 14 13 = nI m) (hm6 : m ≤ 6) (hok : ∀ i, i < m → ok_w I 14 (18 + i)) : ∀ (n i : Nat) (first : Option Nat) (J : zx_I) (x7 : Option Value), i + n = m → eq40 J I → (∀ f, first = some f → bt f) → zx_V mm_X3_chosen (d + 3) z0 (zw_ret (some (va_rf (ch_loop la 14 t hot n i first J).1)) zw_SC (ch_loop la 14 t hot n i first J).2 L (zw_RC h sp la)) zw_SC 80 [some (.ref 36), some (.ref 14), some (.ref 34), some (.int t), some (.int hot), some (va_rf first), some (.int (nI i)), x7] [] J L (zw_RC h sp la) := by
  intro n
  induction n with
  | zero =>
    intro i first J x7 hi hJ hf
    rcases first with _ | f
    · skip
      refine zv_run 3 (pc' := 86) (lo' := [some (.ref 36), some (.ref 14), some (.ref 34), some (.int t), some (.int hot), some (.null), some (.int (nI i)), x7]) (st' := [.int (J 14 13), .int (nI i)]) (I' := J) (L' := L) (R' := zw_RC h sp la) rfl ?_
      refine zv_icmp_ge (tgt := 154) (zs_at rfl) (by decide) (fun c86 => ?_) (fun c86 => ?_)
      · have _c := c86
        refine zv_run 1 (pc' := 156) (lo' := [some (.ref 36), some (.ref 14), some (.ref 34), some (.int t), some (.int hot), some (.null), some (.int (nI i)), x7]) (st' := [.null]) (I' := J) (L' := L) (R' := zw_RC h sp la) rfl ?_
        exact zv_aret (r := none) (zs_at rfl) rfl ⟨Nat.le_refl _, Nat.le_refl _⟩ (zw_to rfl rfl rfl rfl)
      · exact absurd (by rw [hJ 14 (by decide), hm]; exact nI_le (by omega) (by omega)) c86
    · skip
      refine zv_run 3 (pc' := 86) (lo' := [some (.ref 36), some (.ref 14), some (.ref 34), some (.int t), some (.int hot), some (.ref f), some (.int (nI i)), x7]) (st' := [.int (J 14 13), .int (nI i)]) (I' := J) (L' := L) (R' := zw_RC h sp la) rfl ?_
      refine zv_icmp_ge (tgt := 154) (zs_at rfl) (by decide) (fun c86 => ?_) (fun c86 => ?_)
      · have _c := c86
        refine zv_run 1 (pc' := 156) (lo' := [some (.ref 36), some (.ref 14), some (.ref 34), some (.int t), some (.int hot), some (.ref f), some (.int (nI i)), x7]) (st' := [.ref f]) (I' := J) (L' := L) (R' := zw_RC h sp la) rfl ?_
        exact zv_aret (r := some f) (zs_at rfl) rfl ⟨Nat.le_refl _, Nat.le_refl _⟩ (zw_to rfl rfl rfl rfl)
      · exact absurd (by rw [hJ 14 (by decide), hm]; exact nI_le (by omega) (by omega)) c86
  | succ n ih =>
    intro i first J x7 hi hJ hf
    have hbi : bt (18 + i) := by unfold bt; omega
    rcases first with _ | f
    · skip
      refine zv_run 3 (pc' := 86) (lo' := [some (.ref 36), some (.ref 14), some (.ref 34), some (.int t), some (.int hot), some (.null), some (.int (nI i)), x7]) (st' := [.int (J 14 13), .int (nI i)]) (I' := J) (L' := L) (R' := zw_RC h sp la) rfl ?_
      refine zv_icmp_ge (tgt := 154) (zs_at rfl) (by decide) (fun c86 => ?_) (fun c86 => ?_)
      · exact absurd c86 (by rw [hJ 14 (by decide), hm]; exact nI_ge (by omega) (by omega))
      · have _c := c86
        refine zv_run 2 (pc' := 92) (lo' := [some (.ref 36), some (.ref 14), some (.ref 34), some (.int t), some (.int hot), some (.null), some (.int (nI i)), x7]) (st' := [.int (nI i), .ref 14]) (I' := J) (L' := L) (R' := zw_RC h sp la) rfl ?_
        refine zv_cV (M' := mm_X5_who) (ci := 5) (a := 14) (av := [.int (nI i)]) (st := []) (r := some (.ref (18 + i))) (I' := J) (L' := L) (R' := zw_RC h sp la) rfl zc_3_139 gd_X5_who rfl rfl rfl (Nat.le_of_ble_eq_true rfl) (ct2_X5_who (d := _) (Or.inr rfl) (by rw [hJ 14 (by decide)]; exact hm) (show i < m by omega) hm6) ⟨Nat.le_refl _, Nat.le_refl _⟩ ?_
        refine zv_run 0 (pc' := 95) (lo' := [some (.ref 36), some (.ref 14), some (.ref 34), some (.int t), some (.int hot), some (.null), some (.int (nI i)), x7]) (st' := [.ref (18 + i)]) (I' := J) (L' := L) (R' := zw_RC h sp la) rfl ?_
        refine zv_run 2 (pc' := 99) (lo' := [some (.ref 36), some (.ref 14), some (.ref 34), some (.int t), some (.int hot), some (.null), some (.int (nI i)), some (.ref (18 + i))]) (st' := [.ref (18 + i)]) (I' := J) (L' := L) (R' := zw_RC h sp la) rfl ?_
        refine zv_ifnull (zs_at rfl) ?_
        refine zv_run 1 (pc' := 104) (lo' := [some (.ref 36), some (.ref 14), some (.ref 34), some (.int t), some (.int hot), some (.null), some (.int (nI i)), some (.ref (18 + i))]) (st' := [.null]) (I' := J) (L' := L) (R' := zw_RC h sp la) rfl ?_
        refine zv_ifnullN (tgt := 118) (zs_at rfl) (by decide) ?_
        refine zv_run 4 (pc' := 123) (lo' := [some (.ref 36), some (.ref 14), some (.ref 34), some (.int t), some (.int hot), some (.null), some (.int (nI i)), some (.ref (18 + i))]) (st' := [.int t, .ref (18 + i), .ref 14, .ref 36]) (I' := J) (L' := L) (R' := zw_RC h sp la) rfl ?_
        refine zv_cV (M' := mm_X3_can) (ci := 3) (a := 36) (av := [.ref 14, .ref (18 + i), .int t]) (st := []) (r := some (.int (fe_can J la 14 (18 + i) t))) (I' := (fe_canm J la 14 (18 + i) t)) (L' := L) (R' := zw_RC h sp la) rfl zc_3_143 gd_X3_can rfl rfl rfl (Nat.le_of_ble_eq_true rfl) (ct_X3_can (d := _) (Or.inr rfl) (tk_cg (hJ 37 (by decide)) hT) hbi hl (ok_w_cg hJ (Or.inr rfl) hbi (hok i (by omega)))) ⟨Nat.le_refl _, Nat.le_refl _⟩ ?_
        refine zv_run 0 (pc' := 126) (lo' := [some (.ref 36), some (.ref 14), some (.ref 34), some (.int t), some (.int hot), some (.null), some (.int (nI i)), some (.ref (18 + i))]) (st' := [.int (fe_can J la 14 (18 + i) t)]) (I' := (fe_canm J la 14 (18 + i) t)) (L' := L) (R' := zw_RC h sp la) rfl ?_
        refine zv_if_eq (tgt := 148) (zs_at rfl) (by decide) (fun c126 => ?_) (fun c126 => ?_)
        · have _c := c126
          refine zv_run 2 (pc' := 80) (lo' := [some (.ref 36), some (.ref 14), some (.ref 34), some (.int t), some (.int hot), some (.null), some (.int ((nI i) + 1)), some (.ref (18 + i))]) (st' := []) (I' := (fe_canm J la 14 (18 + i) t)) (L' := L) (R' := zw_RC h sp la) rfl ?_
          rw [show ch_loop la 14 t hot (n + 1) i none J = ch_loop la 14 t hot n (i + 1) none (fe_canm J la 14 (18 + i) t) from by show (if ch_pf J (14 + 4 + i) none = 0 then _ else _) = _; rw [if_neg (show ¬ ch_pf J (18 + i) none = 0 from (fun q => absurd (show (1 : Int32) = 0 from q) (by decide))), if_pos c126], ← nI_succ]
          exact ih (i + 1) _ _ _ (by omega) (eq40_canm hJ) hf
        · have _c := c126
          refine zv_run 1 (pc' := 131) (lo' := [some (.ref 36), some (.ref 14), some (.ref 34), some (.int t), some (.int hot), some (.null), some (.int (nI i)), some (.ref (18 + i))]) (st' := [.int hot]) (I' := (fe_canm J la 14 (18 + i) t)) (L' := L) (R' := zw_RC h sp la) rfl ?_
          refine zv_if_ne (tgt := 144) (zs_at rfl) (by decide) (fun c131 => ?_) (fun c131 => ?_)
          · have _c := c131
            refine zv_run 4 (pc' := 80) (lo' := [some (.ref 36), some (.ref 14), some (.ref 34), some (.int t), some (.int hot), some (.ref (18 + i)), some (.int ((nI i) + 1)), some (.ref (18 + i))]) (st' := []) (I' := (fe_canm J la 14 (18 + i) t)) (L' := L) (R' := zw_RC h sp la) rfl ?_
            rw [show ch_loop la 14 t hot (n + 1) i none J = ch_loop la 14 t hot n (i + 1) (some (18 + i)) (fe_canm J la 14 (18 + i) t) from by show (if ch_pf J (14 + 4 + i) none = 0 then _ else _) = _; rw [if_neg (show ¬ ch_pf J (18 + i) none = 0 from (fun q => absurd (show (1 : Int32) = 0 from q) (by decide))), if_neg c126, if_neg c131], ← nI_succ]
            exact ih (i + 1) _ _ _ (by omega) (eq40_canm hJ) (fun z hz => by cases hz; exact hbi)
          · have _c := c131
            refine zv_run 3 (pc' := 141) (lo' := [some (.ref 36), some (.ref 14), some (.ref 34), some (.int t), some (.int hot), some (.null), some (.int (nI i)), some (.ref (18 + i))]) (st' := [.int ((fe_canm J la 14 (18 + i) t) 40 3)]) (I' := (fe_canm J la 14 (18 + i) t)) (L' := L) (R' := zw_RC h sp la) rfl ?_
            refine zv_if_eq (tgt := 148) (zs_at rfl) (by decide) (fun c141 => ?_) (fun c141 => ?_)
            · have _c := c141
              refine zv_run 2 (pc' := 80) (lo' := [some (.ref 36), some (.ref 14), some (.ref 34), some (.int t), some (.int hot), some (.null), some (.int ((nI i) + 1)), some (.ref (18 + i))]) (st' := []) (I' := (fe_canm J la 14 (18 + i) t)) (L' := L) (R' := zw_RC h sp la) rfl ?_
              rw [show ch_loop la 14 t hot (n + 1) i none J = ch_loop la 14 t hot n (i + 1) none (fe_canm J la 14 (18 + i) t) from by show (if ch_pf J (14 + 4 + i) none = 0 then _ else _) = _; rw [if_neg (show ¬ ch_pf J (18 + i) none = 0 from (fun q => absurd (show (1 : Int32) = 0 from q) (by decide))), if_neg c126, if_pos c131, if_pos c141], ← nI_succ]
              exact ih (i + 1) _ _ _ (by omega) (eq40_canm hJ) hf
            · have _c := c141
              refine zv_run 4 (pc' := 80) (lo' := [some (.ref 36), some (.ref 14), some (.ref 34), some (.int t), some (.int hot), some (.ref (18 + i)), some (.int ((nI i) + 1)), some (.ref (18 + i))]) (st' := []) (I' := (fe_canm J la 14 (18 + i) t)) (L' := L) (R' := zw_RC h sp la) rfl ?_
              rw [show ch_loop la 14 t hot (n + 1) i none J = ch_loop la 14 t hot n (i + 1) (some (18 + i)) (fe_canm J la 14 (18 + i) t) from by show (if ch_pf J (14 + 4 + i) none = 0 then _ else _) = _; rw [if_neg (show ¬ ch_pf J (18 + i) none = 0 from (fun q => absurd (show (1 : Int32) = 0 from q) (by decide))), if_neg c126, if_pos c131, if_neg c141], ← nI_succ]
              exact ih (i + 1) _ _ _ (by omega) (eq40_canm hJ) (fun z hz => by cases hz; exact hbi)
    · skip
      have hbf : bt f := hf f rfl
      refine zv_run 3 (pc' := 86) (lo' := [some (.ref 36), some (.ref 14), some (.ref 34), some (.int t), some (.int hot), some (.ref f), some (.int (nI i)), x7]) (st' := [.int (J 14 13), .int (nI i)]) (I' := J) (L' := L) (R' := zw_RC h sp la) rfl ?_
      refine zv_icmp_ge (tgt := 154) (zs_at rfl) (by decide) (fun c86 => ?_) (fun c86 => ?_)
      · exact absurd c86 (by rw [hJ 14 (by decide), hm]; exact nI_ge (by omega) (by omega))
      · have _c := c86
        refine zv_run 2 (pc' := 92) (lo' := [some (.ref 36), some (.ref 14), some (.ref 34), some (.int t), some (.int hot), some (.ref f), some (.int (nI i)), x7]) (st' := [.int (nI i), .ref 14]) (I' := J) (L' := L) (R' := zw_RC h sp la) rfl ?_
        refine zv_cV (M' := mm_X5_who) (ci := 5) (a := 14) (av := [.int (nI i)]) (st := []) (r := some (.ref (18 + i))) (I' := J) (L' := L) (R' := zw_RC h sp la) rfl zc_3_139 gd_X5_who rfl rfl rfl (Nat.le_of_ble_eq_true rfl) (ct2_X5_who (d := _) (Or.inr rfl) (by rw [hJ 14 (by decide)]; exact hm) (show i < m by omega) hm6) ⟨Nat.le_refl _, Nat.le_refl _⟩ ?_
        refine zv_run 0 (pc' := 95) (lo' := [some (.ref 36), some (.ref 14), some (.ref 34), some (.int t), some (.int hot), some (.ref f), some (.int (nI i)), x7]) (st' := [.ref (18 + i)]) (I' := J) (L' := L) (R' := zw_RC h sp la) rfl ?_
        refine zv_run 2 (pc' := 99) (lo' := [some (.ref 36), some (.ref 14), some (.ref 34), some (.int t), some (.int hot), some (.ref f), some (.int (nI i)), some (.ref (18 + i))]) (st' := [.ref (18 + i)]) (I' := J) (L' := L) (R' := zw_RC h sp la) rfl ?_
        refine zv_ifnull (zs_at rfl) ?_
        refine zv_run 1 (pc' := 104) (lo' := [some (.ref 36), some (.ref 14), some (.ref 34), some (.int t), some (.int hot), some (.ref f), some (.int (nI i)), some (.ref (18 + i))]) (st' := [.ref f]) (I' := J) (L' := L) (R' := zw_RC h sp la) rfl ?_
        refine zv_ifnull (zs_at rfl) ?_
        refine zv_run 3 (pc' := 112) (lo' := [some (.ref 36), some (.ref 14), some (.ref 34), some (.int t), some (.int hot), some (.ref f), some (.int (nI i)), some (.ref (18 + i))]) (st' := [.ref f, .ref (18 + i), .ref 34]) (I' := J) (L' := L) (R' := zw_RC h sp la) rfl ?_
        refine zv_cV (M' := mm_X0_prefers) (ci := 0) (a := 34) (av := [.ref (18 + i), .ref f]) (st := []) (r := some (.int (fa_pref J (18 + i) f))) (I' := J) (L' := L) (R' := zw_RC h sp la) rfl zc_3_156 gd_X0_prefers rfl rfl rfl (Nat.le_of_ble_eq_true rfl) (ct_X0_prefers (d := _) hbi hbf) ⟨Nat.le_refl _, Nat.le_refl _⟩ ?_
        refine zv_run 0 (pc' := 115) (lo' := [some (.ref 36), some (.ref 14), some (.ref 34), some (.int t), some (.int hot), some (.ref f), some (.int (nI i)), some (.ref (18 + i))]) (st' := [.int (fa_pref J (18 + i) f)]) (I' := J) (L' := L) (R' := zw_RC h sp la) rfl ?_
        refine zv_if_eq (tgt := 148) (zs_at rfl) (by decide) (fun c115 => ?_) (fun c115 => ?_)
        · have _c := c115
          refine zv_run 2 (pc' := 80) (lo' := [some (.ref 36), some (.ref 14), some (.ref 34), some (.int t), some (.int hot), some (.ref f), some (.int ((nI i) + 1)), some (.ref (18 + i))]) (st' := []) (I' := J) (L' := L) (R' := zw_RC h sp la) rfl ?_
          rw [show ch_loop la 14 t hot (n + 1) i (some f) J = ch_loop la 14 t hot n (i + 1) (some f) J from by show (if ch_pf J (14 + 4 + i) (some f) = 0 then _ else _) = _; rw [if_pos (show ch_pf J (18 + i) (some f) = 0 from c115)], ← nI_succ]
          exact ih (i + 1) _ _ _ (by omega) hJ hf
        · have _c := c115
          refine zv_run 4 (pc' := 123) (lo' := [some (.ref 36), some (.ref 14), some (.ref 34), some (.int t), some (.int hot), some (.ref f), some (.int (nI i)), some (.ref (18 + i))]) (st' := [.int t, .ref (18 + i), .ref 14, .ref 36]) (I' := J) (L' := L) (R' := zw_RC h sp la) rfl ?_
          refine zv_cV (M' := mm_X3_can) (ci := 3) (a := 36) (av := [.ref 14, .ref (18 + i), .int t]) (st := []) (r := some (.int (fe_can J la 14 (18 + i) t))) (I' := (fe_canm J la 14 (18 + i) t)) (L' := L) (R' := zw_RC h sp la) rfl zc_3_143 gd_X3_can rfl rfl rfl (Nat.le_of_ble_eq_true rfl) (ct_X3_can (d := _) (Or.inr rfl) (tk_cg (hJ 37 (by decide)) hT) hbi hl (ok_w_cg hJ (Or.inr rfl) hbi (hok i (by omega)))) ⟨Nat.le_refl _, Nat.le_refl _⟩ ?_
          refine zv_run 0 (pc' := 126) (lo' := [some (.ref 36), some (.ref 14), some (.ref 34), some (.int t), some (.int hot), some (.ref f), some (.int (nI i)), some (.ref (18 + i))]) (st' := [.int (fe_can J la 14 (18 + i) t)]) (I' := (fe_canm J la 14 (18 + i) t)) (L' := L) (R' := zw_RC h sp la) rfl ?_
          refine zv_if_eq (tgt := 148) (zs_at rfl) (by decide) (fun c126 => ?_) (fun c126 => ?_)
          · have _c := c126
            refine zv_run 2 (pc' := 80) (lo' := [some (.ref 36), some (.ref 14), some (.ref 34), some (.int t), some (.int hot), some (.ref f), some (.int ((nI i) + 1)), some (.ref (18 + i))]) (st' := []) (I' := (fe_canm J la 14 (18 + i) t)) (L' := L) (R' := zw_RC h sp la) rfl ?_
            rw [show ch_loop la 14 t hot (n + 1) i (some f) J = ch_loop la 14 t hot n (i + 1) (some f) (fe_canm J la 14 (18 + i) t) from by show (if ch_pf J (14 + 4 + i) (some f) = 0 then _ else _) = _; rw [if_neg (show ¬ ch_pf J (18 + i) (some f) = 0 from c115), if_pos c126], ← nI_succ]
            exact ih (i + 1) _ _ _ (by omega) (eq40_canm hJ) hf
          · have _c := c126
            refine zv_run 1 (pc' := 131) (lo' := [some (.ref 36), some (.ref 14), some (.ref 34), some (.int t), some (.int hot), some (.ref f), some (.int (nI i)), some (.ref (18 + i))]) (st' := [.int hot]) (I' := (fe_canm J la 14 (18 + i) t)) (L' := L) (R' := zw_RC h sp la) rfl ?_
            refine zv_if_ne (tgt := 144) (zs_at rfl) (by decide) (fun c131 => ?_) (fun c131 => ?_)
            · have _c := c131
              refine zv_run 4 (pc' := 80) (lo' := [some (.ref 36), some (.ref 14), some (.ref 34), some (.int t), some (.int hot), some (.ref (18 + i)), some (.int ((nI i) + 1)), some (.ref (18 + i))]) (st' := []) (I' := (fe_canm J la 14 (18 + i) t)) (L' := L) (R' := zw_RC h sp la) rfl ?_
              rw [show ch_loop la 14 t hot (n + 1) i (some f) J = ch_loop la 14 t hot n (i + 1) (some (18 + i)) (fe_canm J la 14 (18 + i) t) from by show (if ch_pf J (14 + 4 + i) (some f) = 0 then _ else _) = _; rw [if_neg (show ¬ ch_pf J (18 + i) (some f) = 0 from c115), if_neg c126, if_neg c131], ← nI_succ]
              exact ih (i + 1) _ _ _ (by omega) (eq40_canm hJ) (fun z hz => by cases hz; exact hbi)
            · have _c := c131
              refine zv_run 3 (pc' := 141) (lo' := [some (.ref 36), some (.ref 14), some (.ref 34), some (.int t), some (.int hot), some (.ref f), some (.int (nI i)), some (.ref (18 + i))]) (st' := [.int ((fe_canm J la 14 (18 + i) t) 40 3)]) (I' := (fe_canm J la 14 (18 + i) t)) (L' := L) (R' := zw_RC h sp la) rfl ?_
              refine zv_if_eq (tgt := 148) (zs_at rfl) (by decide) (fun c141 => ?_) (fun c141 => ?_)
              · have _c := c141
                refine zv_run 2 (pc' := 80) (lo' := [some (.ref 36), some (.ref 14), some (.ref 34), some (.int t), some (.int hot), some (.ref f), some (.int ((nI i) + 1)), some (.ref (18 + i))]) (st' := []) (I' := (fe_canm J la 14 (18 + i) t)) (L' := L) (R' := zw_RC h sp la) rfl ?_
                rw [show ch_loop la 14 t hot (n + 1) i (some f) J = ch_loop la 14 t hot n (i + 1) (some f) (fe_canm J la 14 (18 + i) t) from by show (if ch_pf J (14 + 4 + i) (some f) = 0 then _ else _) = _; rw [if_neg (show ¬ ch_pf J (18 + i) (some f) = 0 from c115), if_neg c126, if_pos c131, if_pos c141], ← nI_succ]
                exact ih (i + 1) _ _ _ (by omega) (eq40_canm hJ) hf
              · have _c := c141
                refine zv_run 4 (pc' := 80) (lo' := [some (.ref 36), some (.ref 14), some (.ref 34), some (.int t), some (.int hot), some (.ref (18 + i)), some (.int ((nI i) + 1)), some (.ref (18 + i))]) (st' := []) (I' := (fe_canm J la 14 (18 + i) t)) (L' := L) (R' := zw_RC h sp la) rfl ?_
                rw [show ch_loop la 14 t hot (n + 1) i (some f) J = ch_loop la 14 t hot n (i + 1) (some (18 + i)) (fe_canm J la 14 (18 + i) t) from by show (if ch_pf J (14 + 4 + i) (some f) = 0 then _ else _) = _; rw [if_neg (show ¬ ch_pf J (18 + i) (some f) = 0 from c115), if_neg c126, if_pos c131, if_neg c141], ← nI_succ]
                exact ih (i + 1) _ _ _ (by omega) (eq40_canm hJ) (fun z hz => by cases hz; exact hbi)
def ok_all (I : zx_I) (a m : Nat) : Prop := ∀ i, i < m → ok_w I a (a + 4 + i)
theorem ct_X3_chosen_4 {d : Nat} {I : zx_I} {L : zx_L} {h sp : Nat} {la : Option Nat} {t : Int32} (hT : tk_ok I) (hc : hs_ct I 4) (hl : ∀ wl, la = some wl → bt wl) (hok : ok_all I 4 (I 4 13).toInt.toNat) : zx_M0 mm_X3_chosen (d + 3) 0 0 [.ref 36, .ref 4, .ref 34, .int t] zw_SC I L (zw_RC h sp la) (zw_ret (some (va_rf (fe_choose I la 4 t).1)) zw_SC (fe_choose I la 4 t).2 L (zw_RC h sp la)) := by
  obtain ⟨m, hm6, hm, hmt⟩ := hs_c hc.1 hc.2
  rw [hmt] at hok
  have hokw : ∀ w, (bt w ∧ ¬ fa_place I (I 36 7) < 0 ∧ fa_place I (I 36 7) < I 4 13 ∧ fa_place I (I 36 7) < 6 ∧ w = 4 + 4 + (fa_place I (I 36 7)).toNatClampNeg) → ok_w I 4 w := by
    intro w hw
    rw [hw.2.2.2.2]
    refine hok _ ?_
    have q := hw.2.2.1
    rw [hm] at q
    exact zcl hw.2.1 q (by omega)
  refine zv_entry gd_X3_chosen (Nat.le_of_ble_eq_true rfl) ?_
  refine zv_run 2 (pc' := 4) (lo' := [some (.ref 36), some (.ref 4), some (.ref 34), some (.int t), none, none, none, none]) (st' := [.int (I 34 0)]) (I' := I) (L' := L) (R' := zw_RC h sp la) rfl ?_
  refine zv_if_ne (tgt := 44) (zs_at rfl) (by decide) (fun c4 => ?_) (fun c4 => ?_)
  · have _c := c4
    refine zv_run 3 (pc' := 49) (lo' := [some (.ref 36), some (.ref 4), some (.ref 34), some (.int t), none, none, none, none]) (st' := [.int 2, .int (I 34 0)]) (I' := I) (L' := L) (R' := zw_RC h sp la) rfl ?_
    refine zv_icmp_ne (tgt := 67) (zs_at rfl) (by decide) (fun c49 => ?_) (fun c49 => ?_)
    · have _c := c49
      refine zv_run 2 (pc' := 72) (lo' := [some (.ref 36), some (.ref 4), some (.ref 34), some (.int t), none, none, none, none]) (st' := [.int 1]) (I' := I) (L' := L) (R' := zw_RC h sp la) rfl ?_
      refine zv_run 5 (pc' := 80) (lo' := [some (.ref 36), some (.ref 4), some (.ref 34), some (.int t), some (.int 1), some (.null), some (.int 0), none]) (st' := []) (I' := I) (L' := L) (R' := zw_RC h sp la) rfl ?_
      have q := lp_X3_chosen_4 (d := d) (L := L) (h := h) (sp := sp) (t := t) (hot := fe_hot I) hT hl hm hm6 hok m 0 none I none (Nat.zero_add m) (fun _ _ => rfl) (fun _ hz => by cases hz)
      rw [show fe_hot I = 1 from by unfold fe_hot; rw [if_neg c49]] at q
      unfold fe_choose
      rw [if_neg c4, hmt, show fe_hot I = 1 from by unfold fe_hot; rw [if_neg c49]]
      exact q
    · have _c := c49
      refine zv_run 3 (pc' := 57) (lo' := [some (.ref 36), some (.ref 4), some (.ref 34), some (.int t), none, none, none, none]) (st' := [.int 0, .ref 37]) (I' := I) (L' := L) (R' := zw_RC h sp la) rfl ?_
      refine zv_cV (M' := mm_X7_heatOf) (ci := 7) (a := 37) (av := [.int 0]) (st := []) (r := some (.int (ft_unitsIn I 0 / I 37 2))) (I' := I) (L' := L) (R' := zw_RC h sp la) rfl zc_3_147 gd_X7_heatOf rfl rfl rfl (Nat.le_of_ble_eq_true rfl) (ct_X7_heatOf (d := _) hT) ⟨Nat.le_refl _, Nat.le_refl _⟩ ?_
      refine zv_run 0 (pc' := 60) (lo' := [some (.ref 36), some (.ref 4), some (.ref 34), some (.int t), none, none, none, none]) (st' := [.int (ft_unitsIn I 0 / I 37 2)]) (I' := I) (L' := L) (R' := zw_RC h sp la) rfl ?_
      refine zv_run 2 (pc' := 64) (lo' := [some (.ref 36), some (.ref 4), some (.ref 34), some (.int t), none, none, none, none]) (st' := [.int (I 34 1), .int (ft_unitsIn I 0 / I 37 2)]) (I' := I) (L' := L) (R' := zw_RC h sp la) rfl ?_
      refine zv_icmp_lt (tgt := 71) (zs_at rfl) (by decide) (fun c64 => ?_) (fun c64 => ?_)
      · have _c := c64
        refine zv_run 6 (pc' := 80) (lo' := [some (.ref 36), some (.ref 4), some (.ref 34), some (.int t), some (.int 0), some (.null), some (.int 0), none]) (st' := []) (I' := I) (L' := L) (R' := zw_RC h sp la) rfl ?_
        have q := lp_X3_chosen_4 (d := d) (L := L) (h := h) (sp := sp) (t := t) (hot := fe_hot I) hT hl hm hm6 hok m 0 none I none (Nat.zero_add m) (fun _ _ => rfl) (fun _ hz => by cases hz)
        rw [show fe_hot I = 0 from by unfold fe_hot; rw [if_pos c49, if_pos c64]] at q
        unfold fe_choose
        rw [if_neg c4, hmt, show fe_hot I = 0 from by unfold fe_hot; rw [if_pos c49, if_pos c64]]
        exact q
      · have _c := c64
        refine zv_run 2 (pc' := 72) (lo' := [some (.ref 36), some (.ref 4), some (.ref 34), some (.int t), none, none, none, none]) (st' := [.int 1]) (I' := I) (L' := L) (R' := zw_RC h sp la) rfl ?_
        refine zv_run 5 (pc' := 80) (lo' := [some (.ref 36), some (.ref 4), some (.ref 34), some (.int t), some (.int 1), some (.null), some (.int 0), none]) (st' := []) (I' := I) (L' := L) (R' := zw_RC h sp la) rfl ?_
        have q := lp_X3_chosen_4 (d := d) (L := L) (h := h) (sp := sp) (t := t) (hot := fe_hot I) hT hl hm hm6 hok m 0 none I none (Nat.zero_add m) (fun _ _ => rfl) (fun _ hz => by cases hz)
        rw [show fe_hot I = 1 from by unfold fe_hot; rw [if_pos c49, if_neg c64]] at q
        unfold fe_choose
        rw [if_neg c4, hmt, show fe_hot I = 1 from by unfold fe_hot; rw [if_pos c49, if_neg c64]]
        exact q
  · have _c := c4
    refine zv_run 4 (pc' := 13) (lo' := [some (.ref 36), some (.ref 4), some (.ref 34), some (.int t), none, none, none, none]) (st' := [.int (I 36 7), .ref 34, .ref 4]) (I' := I) (L' := L) (R' := zw_RC h sp la) rfl ?_
    refine zv_cV (M' := mm_X0_placeInRow) (ci := 0) (a := 34) (av := [.int (I 36 7)]) (st := [.ref 4]) (r := some (.int (fa_place I (I 36 7)))) (I' := I) (L' := L) (R' := zw_RC h sp la) rfl zc_3_135 gd_X0_placeInRow rfl rfl rfl (Nat.le_of_ble_eq_true rfl) (ct_X0_placeInRow (d := _)) ⟨Nat.le_refl _, Nat.le_refl _⟩ ?_
    refine zv_run 0 (pc' := 16) (lo' := [some (.ref 36), some (.ref 4), some (.ref 34), some (.int t), none, none, none, none]) (st' := [.int (fa_place I (I 36 7)), .ref 4]) (I' := I) (L' := L) (R' := zw_RC h sp la) rfl ?_
    refine zv_cV (M' := mm_X5_who) (ci := 5) (a := 4) (av := [.int (fa_place I (I 36 7))]) (st := []) (r := some (va_rf (fh_who I 4 (fa_place I (I 36 7))))) (I' := I) (L' := L) (R' := zw_RC h sp la) rfl zc_3_139 gd_X5_who rfl rfl rfl (Nat.le_of_ble_eq_true rfl) (ct_X5_who (d := _) (Or.inl rfl)) ⟨Nat.le_refl _, Nat.le_refl _⟩ ?_
    rcases hw19 : fh_who I 4 (fa_place I (I 36 7)) with _ | w
    · refine zv_run 0 (pc' := 19) (lo' := [some (.ref 36), some (.ref 4), some (.ref 34), some (.int t), none, none, none, none]) (st' := [.null]) (I' := I) (L' := L) (R' := zw_RC h sp la) rfl ?_
      refine zv_run 2 (pc' := 23) (lo' := [some (.ref 36), some (.ref 4), some (.ref 34), some (.int t), some (.null), none, none, none]) (st' := [.null]) (I' := I) (L' := L) (R' := zw_RC h sp la) rfl ?_
      refine zv_ifnullN (tgt := 42) (zs_at rfl) (by decide) ?_
      refine zv_run 1 (pc' := 43) (lo' := [some (.ref 36), some (.ref 4), some (.ref 34), some (.int t), some (.null), none, none, none]) (st' := [.null]) (I' := I) (L' := L) (R' := zw_RC h sp la) rfl ?_
      exact zv_aret (r := none) (zs_at rfl) rfl ⟨Nat.le_refl _, Nat.le_refl _⟩ (zw_to (by unfold fe_choose; rw [if_pos c4, hw19]) (by unfold fe_choose; rw [if_pos c4, hw19]) rfl rfl)
    · refine zv_run 0 (pc' := 19) (lo' := [some (.ref 36), some (.ref 4), some (.ref 34), some (.int t), none, none, none, none]) (st' := [.ref w]) (I' := I) (L' := L) (R' := zw_RC h sp la) rfl ?_
      have hwf := fh_who_bt (Or.inl rfl) hw19
      refine zv_run 2 (pc' := 23) (lo' := [some (.ref 36), some (.ref 4), some (.ref 34), some (.int t), some (.ref w), none, none, none]) (st' := [.ref w]) (I' := I) (L' := L) (R' := zw_RC h sp la) rfl ?_
      refine zv_ifnull (zs_at rfl) ?_
      refine zv_run 4 (pc' := 31) (lo' := [some (.ref 36), some (.ref 4), some (.ref 34), some (.int t), some (.ref w), none, none, none]) (st' := [.int t, .ref w, .ref 4, .ref 36]) (I' := I) (L' := L) (R' := zw_RC h sp la) rfl ?_
      refine zv_cV (M' := mm_X3_can) (ci := 3) (a := 36) (av := [.ref 4, .ref w, .int t]) (st := []) (r := some (.int (fe_can I la 4 w t))) (I' := (fe_canm I la 4 w t)) (L' := L) (R' := zw_RC h sp la) rfl zc_3_143 gd_X3_can rfl rfl rfl (Nat.le_of_ble_eq_true rfl) (ct_X3_can (d := _) (Or.inl rfl) hT hwf.1 hl (hokw w hwf)) ⟨Nat.le_refl _, Nat.le_refl _⟩ ?_
      refine zv_run 0 (pc' := 34) (lo' := [some (.ref 36), some (.ref 4), some (.ref 34), some (.int t), some (.ref w), none, none, none]) (st' := [.int (fe_can I la 4 w t)]) (I' := (fe_canm I la 4 w t)) (L' := L) (R' := zw_RC h sp la) rfl ?_
      refine zv_if_eq (tgt := 42) (zs_at rfl) (by decide) (fun c34 => ?_) (fun c34 => ?_)
      · have _c := c34
        refine zv_run 1 (pc' := 43) (lo' := [some (.ref 36), some (.ref 4), some (.ref 34), some (.int t), some (.ref w), none, none, none]) (st' := [.null]) (I' := (fe_canm I la 4 w t)) (L' := L) (R' := zw_RC h sp la) rfl ?_
        exact zv_aret (r := none) (zs_at rfl) rfl ⟨Nat.le_refl _, Nat.le_refl _⟩ (zw_to (by unfold fe_choose; rw [if_pos c4, hw19]; dsimp only; rw [if_pos c34]) (by unfold fe_choose; rw [if_pos c4, hw19]; dsimp only; rw [if_pos c34]) rfl rfl)
      · have _c := c34
        refine zv_run 2 (pc' := 43) (lo' := [some (.ref 36), some (.ref 4), some (.ref 34), some (.int t), some (.ref w), none, none, none]) (st' := [.ref w]) (I' := (fe_canm I la 4 w t)) (L' := L) (R' := zw_RC h sp la) rfl ?_
        exact zv_aret (r := some w) (zs_at rfl) rfl ⟨Nat.le_refl _, Nat.le_refl _⟩ (zw_to (by unfold fe_choose; rw [if_pos c4, hw19]; dsimp only; rw [if_neg c34]) (by unfold fe_choose; rw [if_pos c4, hw19]; dsimp only; rw [if_neg c34]) rfl rfl)
theorem ct_X3_chosen_14 {d : Nat} {I : zx_I} {L : zx_L} {h sp : Nat} {la : Option Nat} {t : Int32} (hT : tk_ok I) (hc : hs_ct I 14) (hl : ∀ wl, la = some wl → bt wl) (hok : ok_all I 14 (I 14 13).toInt.toNat) : zx_M0 mm_X3_chosen (d + 3) 0 0 [.ref 36, .ref 14, .ref 34, .int t] zw_SC I L (zw_RC h sp la) (zw_ret (some (va_rf (fe_choose I la 14 t).1)) zw_SC (fe_choose I la 14 t).2 L (zw_RC h sp la)) := by
  obtain ⟨m, hm6, hm, hmt⟩ := hs_c hc.1 hc.2
  rw [hmt] at hok
  have hokw : ∀ w, (bt w ∧ ¬ fa_place I (I 36 7) < 0 ∧ fa_place I (I 36 7) < I 14 13 ∧ fa_place I (I 36 7) < 6 ∧ w = 14 + 4 + (fa_place I (I 36 7)).toNatClampNeg) → ok_w I 14 w := by
    intro w hw
    rw [hw.2.2.2.2]
    refine hok _ ?_
    have q := hw.2.2.1
    rw [hm] at q
    exact zcl hw.2.1 q (by omega)
  refine zv_entry gd_X3_chosen (Nat.le_of_ble_eq_true rfl) ?_
  refine zv_run 2 (pc' := 4) (lo' := [some (.ref 36), some (.ref 14), some (.ref 34), some (.int t), none, none, none, none]) (st' := [.int (I 34 0)]) (I' := I) (L' := L) (R' := zw_RC h sp la) rfl ?_
  refine zv_if_ne (tgt := 44) (zs_at rfl) (by decide) (fun c4 => ?_) (fun c4 => ?_)
  · have _c := c4
    refine zv_run 3 (pc' := 49) (lo' := [some (.ref 36), some (.ref 14), some (.ref 34), some (.int t), none, none, none, none]) (st' := [.int 2, .int (I 34 0)]) (I' := I) (L' := L) (R' := zw_RC h sp la) rfl ?_
    refine zv_icmp_ne (tgt := 67) (zs_at rfl) (by decide) (fun c49 => ?_) (fun c49 => ?_)
    · have _c := c49
      refine zv_run 2 (pc' := 72) (lo' := [some (.ref 36), some (.ref 14), some (.ref 34), some (.int t), none, none, none, none]) (st' := [.int 1]) (I' := I) (L' := L) (R' := zw_RC h sp la) rfl ?_
      refine zv_run 5 (pc' := 80) (lo' := [some (.ref 36), some (.ref 14), some (.ref 34), some (.int t), some (.int 1), some (.null), some (.int 0), none]) (st' := []) (I' := I) (L' := L) (R' := zw_RC h sp la) rfl ?_
      have q := lp_X3_chosen_14 (d := d) (L := L) (h := h) (sp := sp) (t := t) (hot := fe_hot I) hT hl hm hm6 hok m 0 none I none (Nat.zero_add m) (fun _ _ => rfl) (fun _ hz => by cases hz)
      rw [show fe_hot I = 1 from by unfold fe_hot; rw [if_neg c49]] at q
      unfold fe_choose
      rw [if_neg c4, hmt, show fe_hot I = 1 from by unfold fe_hot; rw [if_neg c49]]
      exact q
    · have _c := c49
      refine zv_run 3 (pc' := 57) (lo' := [some (.ref 36), some (.ref 14), some (.ref 34), some (.int t), none, none, none, none]) (st' := [.int 0, .ref 37]) (I' := I) (L' := L) (R' := zw_RC h sp la) rfl ?_
      refine zv_cV (M' := mm_X7_heatOf) (ci := 7) (a := 37) (av := [.int 0]) (st := []) (r := some (.int (ft_unitsIn I 0 / I 37 2))) (I' := I) (L' := L) (R' := zw_RC h sp la) rfl zc_3_147 gd_X7_heatOf rfl rfl rfl (Nat.le_of_ble_eq_true rfl) (ct_X7_heatOf (d := _) hT) ⟨Nat.le_refl _, Nat.le_refl _⟩ ?_
      refine zv_run 0 (pc' := 60) (lo' := [some (.ref 36), some (.ref 14), some (.ref 34), some (.int t), none, none, none, none]) (st' := [.int (ft_unitsIn I 0 / I 37 2)]) (I' := I) (L' := L) (R' := zw_RC h sp la) rfl ?_
      refine zv_run 2 (pc' := 64) (lo' := [some (.ref 36), some (.ref 14), some (.ref 34), some (.int t), none, none, none, none]) (st' := [.int (I 34 1), .int (ft_unitsIn I 0 / I 37 2)]) (I' := I) (L' := L) (R' := zw_RC h sp la) rfl ?_
      refine zv_icmp_lt (tgt := 71) (zs_at rfl) (by decide) (fun c64 => ?_) (fun c64 => ?_)
      · have _c := c64
        refine zv_run 6 (pc' := 80) (lo' := [some (.ref 36), some (.ref 14), some (.ref 34), some (.int t), some (.int 0), some (.null), some (.int 0), none]) (st' := []) (I' := I) (L' := L) (R' := zw_RC h sp la) rfl ?_
        have q := lp_X3_chosen_14 (d := d) (L := L) (h := h) (sp := sp) (t := t) (hot := fe_hot I) hT hl hm hm6 hok m 0 none I none (Nat.zero_add m) (fun _ _ => rfl) (fun _ hz => by cases hz)
        rw [show fe_hot I = 0 from by unfold fe_hot; rw [if_pos c49, if_pos c64]] at q
        unfold fe_choose
        rw [if_neg c4, hmt, show fe_hot I = 0 from by unfold fe_hot; rw [if_pos c49, if_pos c64]]
        exact q
      · have _c := c64
        refine zv_run 2 (pc' := 72) (lo' := [some (.ref 36), some (.ref 14), some (.ref 34), some (.int t), none, none, none, none]) (st' := [.int 1]) (I' := I) (L' := L) (R' := zw_RC h sp la) rfl ?_
        refine zv_run 5 (pc' := 80) (lo' := [some (.ref 36), some (.ref 14), some (.ref 34), some (.int t), some (.int 1), some (.null), some (.int 0), none]) (st' := []) (I' := I) (L' := L) (R' := zw_RC h sp la) rfl ?_
        have q := lp_X3_chosen_14 (d := d) (L := L) (h := h) (sp := sp) (t := t) (hot := fe_hot I) hT hl hm hm6 hok m 0 none I none (Nat.zero_add m) (fun _ _ => rfl) (fun _ hz => by cases hz)
        rw [show fe_hot I = 1 from by unfold fe_hot; rw [if_pos c49, if_neg c64]] at q
        unfold fe_choose
        rw [if_neg c4, hmt, show fe_hot I = 1 from by unfold fe_hot; rw [if_pos c49, if_neg c64]]
        exact q
  · have _c := c4
    refine zv_run 4 (pc' := 13) (lo' := [some (.ref 36), some (.ref 14), some (.ref 34), some (.int t), none, none, none, none]) (st' := [.int (I 36 7), .ref 34, .ref 14]) (I' := I) (L' := L) (R' := zw_RC h sp la) rfl ?_
    refine zv_cV (M' := mm_X0_placeInRow) (ci := 0) (a := 34) (av := [.int (I 36 7)]) (st := [.ref 14]) (r := some (.int (fa_place I (I 36 7)))) (I' := I) (L' := L) (R' := zw_RC h sp la) rfl zc_3_135 gd_X0_placeInRow rfl rfl rfl (Nat.le_of_ble_eq_true rfl) (ct_X0_placeInRow (d := _)) ⟨Nat.le_refl _, Nat.le_refl _⟩ ?_
    refine zv_run 0 (pc' := 16) (lo' := [some (.ref 36), some (.ref 14), some (.ref 34), some (.int t), none, none, none, none]) (st' := [.int (fa_place I (I 36 7)), .ref 14]) (I' := I) (L' := L) (R' := zw_RC h sp la) rfl ?_
    refine zv_cV (M' := mm_X5_who) (ci := 5) (a := 14) (av := [.int (fa_place I (I 36 7))]) (st := []) (r := some (va_rf (fh_who I 14 (fa_place I (I 36 7))))) (I' := I) (L' := L) (R' := zw_RC h sp la) rfl zc_3_139 gd_X5_who rfl rfl rfl (Nat.le_of_ble_eq_true rfl) (ct_X5_who (d := _) (Or.inr rfl)) ⟨Nat.le_refl _, Nat.le_refl _⟩ ?_
    rcases hw19 : fh_who I 14 (fa_place I (I 36 7)) with _ | w
    · refine zv_run 0 (pc' := 19) (lo' := [some (.ref 36), some (.ref 14), some (.ref 34), some (.int t), none, none, none, none]) (st' := [.null]) (I' := I) (L' := L) (R' := zw_RC h sp la) rfl ?_
      refine zv_run 2 (pc' := 23) (lo' := [some (.ref 36), some (.ref 14), some (.ref 34), some (.int t), some (.null), none, none, none]) (st' := [.null]) (I' := I) (L' := L) (R' := zw_RC h sp la) rfl ?_
      refine zv_ifnullN (tgt := 42) (zs_at rfl) (by decide) ?_
      refine zv_run 1 (pc' := 43) (lo' := [some (.ref 36), some (.ref 14), some (.ref 34), some (.int t), some (.null), none, none, none]) (st' := [.null]) (I' := I) (L' := L) (R' := zw_RC h sp la) rfl ?_
      exact zv_aret (r := none) (zs_at rfl) rfl ⟨Nat.le_refl _, Nat.le_refl _⟩ (zw_to (by unfold fe_choose; rw [if_pos c4, hw19]) (by unfold fe_choose; rw [if_pos c4, hw19]) rfl rfl)
    · refine zv_run 0 (pc' := 19) (lo' := [some (.ref 36), some (.ref 14), some (.ref 34), some (.int t), none, none, none, none]) (st' := [.ref w]) (I' := I) (L' := L) (R' := zw_RC h sp la) rfl ?_
      have hwf := fh_who_bt (Or.inr rfl) hw19
      refine zv_run 2 (pc' := 23) (lo' := [some (.ref 36), some (.ref 14), some (.ref 34), some (.int t), some (.ref w), none, none, none]) (st' := [.ref w]) (I' := I) (L' := L) (R' := zw_RC h sp la) rfl ?_
      refine zv_ifnull (zs_at rfl) ?_
      refine zv_run 4 (pc' := 31) (lo' := [some (.ref 36), some (.ref 14), some (.ref 34), some (.int t), some (.ref w), none, none, none]) (st' := [.int t, .ref w, .ref 14, .ref 36]) (I' := I) (L' := L) (R' := zw_RC h sp la) rfl ?_
      refine zv_cV (M' := mm_X3_can) (ci := 3) (a := 36) (av := [.ref 14, .ref w, .int t]) (st := []) (r := some (.int (fe_can I la 14 w t))) (I' := (fe_canm I la 14 w t)) (L' := L) (R' := zw_RC h sp la) rfl zc_3_143 gd_X3_can rfl rfl rfl (Nat.le_of_ble_eq_true rfl) (ct_X3_can (d := _) (Or.inr rfl) hT hwf.1 hl (hokw w hwf)) ⟨Nat.le_refl _, Nat.le_refl _⟩ ?_
      refine zv_run 0 (pc' := 34) (lo' := [some (.ref 36), some (.ref 14), some (.ref 34), some (.int t), some (.ref w), none, none, none]) (st' := [.int (fe_can I la 14 w t)]) (I' := (fe_canm I la 14 w t)) (L' := L) (R' := zw_RC h sp la) rfl ?_
      refine zv_if_eq (tgt := 42) (zs_at rfl) (by decide) (fun c34 => ?_) (fun c34 => ?_)
      · have _c := c34
        refine zv_run 1 (pc' := 43) (lo' := [some (.ref 36), some (.ref 14), some (.ref 34), some (.int t), some (.ref w), none, none, none]) (st' := [.null]) (I' := (fe_canm I la 14 w t)) (L' := L) (R' := zw_RC h sp la) rfl ?_
        exact zv_aret (r := none) (zs_at rfl) rfl ⟨Nat.le_refl _, Nat.le_refl _⟩ (zw_to (by unfold fe_choose; rw [if_pos c4, hw19]; dsimp only; rw [if_pos c34]) (by unfold fe_choose; rw [if_pos c4, hw19]; dsimp only; rw [if_pos c34]) rfl rfl)
      · have _c := c34
        refine zv_run 2 (pc' := 43) (lo' := [some (.ref 36), some (.ref 14), some (.ref 34), some (.int t), some (.ref w), none, none, none]) (st' := [.ref w]) (I' := (fe_canm I la 14 w t)) (L' := L) (R' := zw_RC h sp la) rfl ?_
        exact zv_aret (r := some w) (zs_at rfl) rfl ⟨Nat.le_refl _, Nat.le_refl _⟩ (zw_to (by unfold fe_choose; rw [if_pos c4, hw19]; dsimp only; rw [if_neg c34]) (by unfold fe_choose; rw [if_pos c4, hw19]; dsimp only; rw [if_neg c34]) rfl rfl)
theorem ct_X3_chosen {d : Nat} {I : zx_I} {L : zx_L} {h sp : Nat} {la : Option Nat} {a : Nat} {t : Int32} (ha : a = 4 ∨ a = 14) (hT : tk_ok I) (hc : hs_ct I a) (hl : ∀ wl, la = some wl → bt wl) (hok : ok_all I a (I a 13).toInt.toNat) : zx_M0 mm_X3_chosen (d + 3) 0 0 [.ref 36, .ref a, .ref 34, .int t] zw_SC I L (zw_RC h sp la) (zw_ret (some (va_rf (fe_choose I la a t).1)) zw_SC (fe_choose I la a t).2 L (zw_RC h sp la)) := by
  rcases ha with rfl | rfl
  · exact ct_X3_chosen_4 hT hc hl hok
  · exact ct_X3_chosen_14 hT hc hl hok
theorem ch_loop_ok {I : zx_I} {la : Option Nat} {a : Nat} {t hot : Int32} (ha : a = 4 ∨ a = 14) (hl : ∀ wl, la = some wl → bt wl) : ∀ (n i : Nat) (first : Option Nat) (J : zx_I), i + n ≤ 6 → eq40 J I → (∀ f, first = some f → ∃ j, j < i ∧ f = a + 4 + j ∧ ¬ fe_can I la a f t = 0) → eq40 (ch_loop la a t hot n i first J).2 I ∧ ∀ f, (ch_loop la a t hot n i first J).1 = some f → ∃ j, j < i + n ∧ f = a + 4 + j ∧ ¬ fe_can I la a f t = 0
  | 0, i, first, J, hi, hJ, hf => ⟨hJ, hf⟩
  | n + 1, i, first, J, hi, hJ, hf => by
    have hbi : bt (a + 4 + i) := by unfold bt; omega
    have hcan := fe_can_cg (la := la) (t := t) hJ ha hbi hl
    have hf' : ∀ f, first = some f → ∃ j, j < i + 1 ∧ f = a + 4 + j ∧ ¬ fe_can I la a f t = 0 := fun f h => by
      obtain ⟨j, h1, h2⟩ := hf f h
      exact ⟨j, by omega, h2⟩
    rw [show i + (n + 1) = i + 1 + n by omega]
    unfold ch_loop
    split
    · exact ch_loop_ok ha hl n (i + 1) first J (by omega) hJ hf'
    · split
      · exact ch_loop_ok ha hl n (i + 1) first _ (by omega) (eq40_canm hJ) hf'
      · rename_i hc
        have hs : ∀ f, some (a + 4 + i) = some f → ∃ j, j < i + 1 ∧ f = a + 4 + j ∧ ¬ fe_can I la a f t = 0 := fun f h => by
          cases h
          exact ⟨i, by omega, rfl, by rw [← hcan]; exact hc⟩
        split
        · split
          · exact ch_loop_ok ha hl n (i + 1) first _ (by omega) (eq40_canm hJ) hf'
          · exact ch_loop_ok ha hl n (i + 1) _ _ (by omega) (eq40_canm hJ) hs
        · exact ch_loop_ok ha hl n (i + 1) _ _ (by omega) (eq40_canm hJ) hs
/-- who is chosen is there, and can -/
theorem fe_choose_ok {I : zx_I} {la : Option Nat} {a : Nat} {t : Int32} (ha : a = 4 ∨ a = 14) (hc : hs_ct I a) (hl : ∀ wl, la = some wl → bt wl) : eq40 (fe_choose I la a t).2 I ∧ ∀ f, (fe_choose I la a t).1 = some f → ∃ j, j < (I a 13).toInt.toNat ∧ f = a + 4 + j ∧ ¬ fe_can I la a f t = 0 := by
  obtain ⟨m, hm6, hm, hmt⟩ := hs_c hc.1 hc.2
  rw [hmt]
  unfold fe_choose
  split
  · cases hw : fh_who I a (fa_place I (I 36 7)) with
    | none => exact ⟨fun _ _ => rfl, fun _ h => by cases h⟩
    | some w =>
      have hwf := fh_who_bt ha hw
      dsimp only
      split
      · exact ⟨eq40_canm (fun _ _ => rfl), fun _ h => by cases h⟩
      · rename_i hcn
        refine ⟨eq40_canm (fun _ _ => rfl), fun f h => ?_⟩
        cases h
        have q := hwf.2.2.1
        rw [hm] at q
        exact ⟨_, zcl hwf.2.1 q (by omega), hwf.2.2.2.2, hcn⟩
  · rw [hmt]
    have q := ch_loop_ok (I := I) (t := t) (hot := fe_hot I) ha hl m 0 none I (by omega) (fun _ _ => rfl) (fun _ h => by cases h)
    rw [Nat.zero_add] at q
    exact q
end
section
/-! the run of an evening, step by step -/
def fe_up (I : zx_I) (L : zx_L) (t : Int32) : zx_I := if fa_plans L t = 0 then I else ff_up I
def fe_who (I : zx_I) (la : Option Nat) (a : Nat) (t : Int32) : Option Nat := if t ≥ I 36 5 then (fe_choose I la a t).1 else none
def fe_mem (I : zx_I) (la : Option Nat) (a : Nat) (t : Int32) : zx_I := if t ≥ I 36 5 then (fe_choose I la a t).2 else I
def fe_go (J : zx_I) (la : Option Nat) (a : Nat) (t : Int32) (w : Option Nat) : zx_I := match w with
  | none => J
  | some w => fe_in (fe_canm J la a w t) w t
def fe_la (la w : Option Nat) : Option Nat := match w with
  | none => la
  | some w => some w
def fe_min (x y : Int32) : Int32 := if y < x then y else x
def fe_tap (J : zx_I) (t : Int32) : zx_I := if fa_taps J t = 0 then J else ft_draw J (fe_min (J 34 7) (J 37 1 * J 37 2))
def fe_cool (J : zx_I) (a : Nat) : zx_I := ff_old (ft_lose (ft_warm J (ff_gives J a)) (J a 5)) a
def fe_end (J : zx_I) (a : Nat) : zx_I := zx_uI (fe_cool J a) 36 3 (fe_cool J a 36 3 + 1)
def fe_mid (I : zx_I) (la : Option Nat) (a : Nat) (t : Int32) : zx_I := fe_go (fe_mem I la a t) la a t (fe_who I la a t)
def fe_step (L : zx_L) (I : zx_I) (la : Option Nat) (a : Nat) (t : Int32) : zx_I := fe_end (fe_tap (fe_mid (fe_up I L t) la a t) t) a
def fe_next (L : zx_L) (I : zx_I) (la : Option Nat) (a : Nat) (t : Int32) : Option Nat := fe_la la (fe_who (fe_up I L t) la a t)
theorem rn97_4 {d : Nat} {J : zx_I} {L : zx_L} {h sp : Nat} {la : Option Nat} {t : Int32} {Q : zx_Qt} {x4 : Option Value} (hT : tk_ok J) (k : zx_V mm_X3_run (d + 4) z0 Q zw_SC 11 [some (.ref 36), some (.ref 4), some (.ref 34), some (.int (t + 1)), x4] [] (fe_end J 4) L (zw_RC h sp la)) : zx_V mm_X3_run (d + 4) z0 Q zw_SC 97 [some (.ref 36), some (.ref 4), some (.ref 34), some (.int t), x4] [] J L (zw_RC h sp la) := by
  refine zv_run 5 (pc' := 106) (lo' := [some (.ref 36), some (.ref 4), some (.ref 34), some (.int t), x4]) (st' := [.ref 4, .ref 39, .ref 37]) (I' := J) (L' := L) (R' := zw_RC h sp la) rfl ?_
  refine zv_cV (M' := mm_X4_gives) (ci := 4) (a := 39) (av := [.ref 4]) (st := [.ref 37]) (r := some (.int (ff_gives J 4))) (I' := J) (L' := L) (R' := zw_RC h sp la) rfl zc_3_85 gd_X4_gives rfl rfl rfl (Nat.le_of_ble_eq_true rfl) (ct_X4_gives (d := _) (Or.inl rfl)) ⟨Nat.le_refl _, Nat.le_refl _⟩ ?_
  refine zv_run 0 (pc' := 109) (lo' := [some (.ref 36), some (.ref 4), some (.ref 34), some (.int t), x4]) (st' := [.int (ff_gives J 4), .ref 37]) (I' := J) (L' := L) (R' := zw_RC h sp la) rfl ?_
  refine zv_cV (M' := mm_X7_warm) (ci := 7) (a := 37) (av := [.int (ff_gives J 4)]) (st := []) (r := none) (I' := (ft_warm J (ff_gives J 4))) (L' := L) (R' := zw_RC h sp la) rfl zc_3_89 gd_X7_warm rfl rfl rfl (Nat.le_of_ble_eq_true rfl) (ct_X7_warm (d := _) hT) ⟨Nat.le_refl _, Nat.le_refl _⟩ ?_
  refine zv_run 0 (pc' := 112) (lo' := [some (.ref 36), some (.ref 4), some (.ref 34), some (.int t), x4]) (st' := []) (I' := (ft_warm J (ff_gives J 4))) (L' := L) (R' := zw_RC h sp la) rfl ?_
  refine zv_run 4 (pc' := 120) (lo' := [some (.ref 36), some (.ref 4), some (.ref 34), some (.int t), x4]) (st' := [.int (J 4 5), .ref 37]) (I' := (ft_warm J (ff_gives J 4))) (L' := L) (R' := zw_RC h sp la) rfl ?_
  refine zv_cV (M' := mm_X7_lose) (ci := 7) (a := 37) (av := [.int (J 4 5)]) (st := []) (r := none) (I' := (ft_lose (ft_warm J (ff_gives J 4)) (J 4 5))) (L' := L) (R' := zw_RC h sp la) rfl zc_3_95 gd_X7_lose rfl rfl rfl (Nat.le_of_ble_eq_true rfl) (ct_X7_lose (d := _) (tk_cg (J := (ft_warm J (ff_gives J 4))) (I := J) rfl hT)) ⟨Nat.le_refl _, Nat.le_refl _⟩ ?_
  refine zv_run 0 (pc' := 123) (lo' := [some (.ref 36), some (.ref 4), some (.ref 34), some (.int t), x4]) (st' := []) (I' := (ft_lose (ft_warm J (ff_gives J 4)) (J 4 5))) (L' := L) (R' := zw_RC h sp la) rfl ?_
  refine zv_run 3 (pc' := 128) (lo' := [some (.ref 36), some (.ref 4), some (.ref 34), some (.int t), x4]) (st' := [.ref 4, .ref 39]) (I' := (ft_lose (ft_warm J (ff_gives J 4)) (J 4 5))) (L' := L) (R' := zw_RC h sp la) rfl ?_
  refine zv_cV (M' := mm_X4_getOlder) (ci := 4) (a := 39) (av := [.ref 4]) (st := []) (r := none) (I' := (ff_old (ft_lose (ft_warm J (ff_gives J 4)) (J 4 5)) 4)) (L' := L) (R' := zw_RC h sp la) rfl zc_3_98 gd_X4_getOlder rfl rfl rfl (Nat.le_of_ble_eq_true rfl) (ct_X4_getOlder (d := _) (Or.inl rfl)) ⟨Nat.le_refl _, Nat.le_refl _⟩ ?_
  refine zv_run 0 (pc' := 131) (lo' := [some (.ref 36), some (.ref 4), some (.ref 34), some (.int t), x4]) (st' := []) (I' := (ff_old (ft_lose (ft_warm J (ff_gives J 4)) (J 4 5)) 4)) (L' := L) (R' := zw_RC h sp la) rfl ?_
  refine zv_run 8 (pc' := 11) (lo' := [some (.ref 36), some (.ref 4), some (.ref 34), some (.int (t + 1)), x4]) (st' := []) (I' := (zx_uI (ff_old (ft_lose (ft_warm J (ff_gives J 4)) (J 4 5)) 4) 36 3 (((ff_old (ft_lose (ft_warm J (ff_gives J 4)) (J 4 5)) 4) 36 3) + 1))) (L' := L) (R' := zw_RC h sp la) rfl ?_
  exact k
theorem rn68_4 {d : Nat} {J : zx_I} {L : zx_L} {h sp : Nat} {la : Option Nat} {t : Int32} {Q : zx_Qt} {x4 : Option Value} (hT : tk_ok J) (k : zx_V mm_X3_run (d + 4) z0 Q zw_SC 97 [some (.ref 36), some (.ref 4), some (.ref 34), some (.int t), x4] [] (fe_tap J t) L (zw_RC h sp la)) : zx_V mm_X3_run (d + 4) z0 Q zw_SC 68 [some (.ref 36), some (.ref 4), some (.ref 34), some (.int t), x4] [] J L (zw_RC h sp la) := by
  refine zv_run 2 (pc' := 70) (lo' := [some (.ref 36), some (.ref 4), some (.ref 34), some (.int t), x4]) (st' := [.int t, .ref 34]) (I' := J) (L' := L) (R' := zw_RC h sp la) rfl ?_
  refine zv_cV (M' := mm_X0_tapsAt) (ci := 0) (a := 34) (av := [.int t]) (st := []) (r := some (.int (fa_taps J t))) (I' := J) (L' := L) (R' := zw_RC h sp la) rfl zc_3_65 gd_X0_tapsAt rfl rfl rfl (Nat.le_of_ble_eq_true rfl) (ct_X0_tapsAt (d := _)) ⟨Nat.le_refl _, Nat.le_refl _⟩ ?_
  refine zv_run 0 (pc' := 73) (lo' := [some (.ref 36), some (.ref 4), some (.ref 34), some (.int t), x4]) (st' := [.int (fa_taps J t)]) (I' := J) (L' := L) (R' := zw_RC h sp la) rfl ?_
  refine zv_if_eq (tgt := 97) (zs_at rfl) (by decide) (fun c73 => ?_) (fun c73 => ?_)
  · have _c := c73
    rw [show fe_tap J t = J from by unfold fe_tap; rw [if_pos c73]] at k
    exact k
  · have _c := c73
    refine zv_run 6 (pc' := 88) (lo' := [some (.ref 36), some (.ref 4), some (.ref 34), some (.int t), x4]) (st' := [.ref 37, .int (J 34 7), .ref 37]) (I' := J) (L' := L) (R' := zw_RC h sp la) rfl ?_
    refine zv_cV (M' := mm_X7_holds) (ci := 7) (a := 37) (av := []) (st := [.int (J 34 7), .ref 37]) (r := some (.int (J 37 1 * J 37 2))) (I' := J) (L' := L) (R' := zw_RC h sp la) rfl zc_3_71 gd_X7_holds rfl rfl rfl (Nat.le_of_ble_eq_true rfl) (ct_X7_holds (d := _)) ⟨Nat.le_refl _, Nat.le_refl _⟩ ?_
    refine zv_run 0 (pc' := 91) (lo' := [some (.ref 36), some (.ref 4), some (.ref 34), some (.int t), x4]) (st' := [.int (J 37 1 * J 37 2), .int (J 34 7), .ref 37]) (I' := J) (L' := L) (R' := zw_RC h sp la) rfl ?_
    refine zv_min rfl zm_3_75 (Nat.le_of_ble_eq_true rfl) ⟨Nat.le_refl _, Nat.le_refl _⟩ ?_
    refine zv_cV (M' := mm_X7_draw) (ci := 7) (a := 37) (av := [.int (if (J 37 1 * J 37 2) < (J 34 7) then (J 37 1 * J 37 2) else (J 34 7))]) (st := []) (r := none) (I' := (ft_draw J (if (J 37 1 * J 37 2) < (J 34 7) then (J 37 1 * J 37 2) else (J 34 7)))) (L' := L) (R' := zw_RC h sp la) rfl zc_3_81 gd_X7_draw rfl rfl rfl (Nat.le_of_ble_eq_true rfl) (ct_X7_draw (d := _) hT) ⟨Nat.le_refl _, Nat.le_refl _⟩ ?_
    refine zv_run 0 (pc' := 97) (lo' := [some (.ref 36), some (.ref 4), some (.ref 34), some (.int t), x4]) (st' := []) (I' := (ft_draw J (if (J 37 1 * J 37 2) < (J 34 7) then (J 37 1 * J 37 2) else (J 34 7)))) (L' := L) (R' := zw_RC h sp la) rfl ?_
    rw [show fe_tap J t = ft_draw J (fe_min (J 34 7) (J 37 1 * J 37 2)) from by unfold fe_tap; rw [if_neg c73]] at k
    exact k
theorem rn34_4 {d : Nat} {J : zx_I} {L : zx_L} {h sp : Nat} {la : Option Nat} {t : Int32} {Q : zx_Qt} {x4 : Option Value} (hT : tk_ok J) (hc : hs_ct J 4) (hl : ∀ wl, la = some wl → bt wl) (hok : ok_all J 4 (J 4 13).toInt.toNat) (k : ∀ x4, zx_V mm_X3_run (d + 4) z0 Q zw_SC 68 [some (.ref 36), some (.ref 4), some (.ref 34), some (.int t), x4] [] (fe_mid J la 4 t) L (zw_RC h sp (fe_la la (fe_who J la 4 t)))) : zx_V mm_X3_run (d + 4) z0 Q zw_SC 34 [some (.ref 36), some (.ref 4), some (.ref 34), some (.int t), x4] [] J L (zw_RC h sp la) := by
  refine zv_run 3 (pc' := 39) (lo' := [some (.ref 36), some (.ref 4), some (.ref 34), some (.int t), x4]) (st' := [.int (J 36 5), .int t]) (I' := J) (L' := L) (R' := zw_RC h sp la) rfl ?_
  refine zv_icmp_ge (tgt := 46) (zs_at rfl) (by decide) (fun c39 => ?_) (fun c39 => ?_)
  · have _c := c39
    refine zv_run 4 (pc' := 50) (lo' := [some (.ref 36), some (.ref 4), some (.ref 34), some (.int t), x4]) (st' := [.int t, .ref 34, .ref 4, .ref 36]) (I' := J) (L' := L) (R' := zw_RC h sp la) rfl ?_
    refine zv_cV (M' := mm_X3_chosen) (ci := 3) (a := 36) (av := [.ref 4, .ref 34, .int t]) (st := []) (r := some (va_rf ((fe_choose J la 4 t).1))) (I' := (fe_choose J la 4 t).2) (L' := L) (R' := zw_RC h sp la) rfl zc_3_57 gd_X3_chosen rfl rfl rfl (Nat.le_of_ble_eq_true rfl) (ct_X3_chosen (d := _) (Or.inl rfl) hT hc hl hok) ⟨Nat.le_refl _, Nat.le_refl _⟩ ?_
    rcases hw53 : (fe_choose J la 4 t).1 with _ | w
    · refine zv_run 0 (pc' := 53) (lo' := [some (.ref 36), some (.ref 4), some (.ref 34), some (.int t), x4]) (st' := [.null]) (I' := (fe_choose J la 4 t).2) (L' := L) (R' := zw_RC h sp la) rfl ?_
      refine zv_run 2 (pc' := 57) (lo' := [some (.ref 36), some (.ref 4), some (.ref 34), some (.int t), some (.null)]) (st' := [.null]) (I' := (fe_choose J la 4 t).2) (L' := L) (R' := zw_RC h sp la) rfl ?_
      refine zv_ifnullN (tgt := 68) (zs_at rfl) (by decide) ?_
      have hq : fe_who J la 4 t = none := by unfold fe_who; rw [if_pos c39]; exact hw53
      rw [show fe_mid J la 4 t = (fe_choose J la 4 t).2 from by unfold fe_mid; rw [hq]; unfold fe_mem; rw [if_pos c39]; rfl, hq] at k
      exact k _
    · refine zv_run 0 (pc' := 53) (lo' := [some (.ref 36), some (.ref 4), some (.ref 34), some (.int t), x4]) (st' := [.ref w]) (I' := (fe_choose J la 4 t).2) (L' := L) (R' := zw_RC h sp la) rfl ?_
      obtain ⟨j, hj, hwj, hcan⟩ := (fe_choose_ok (t := t) (Or.inl rfl) hc hl).2 w hw53
      have he := (fe_choose_ok (I := J) (la := la) (t := t) (Or.inl rfl) hc hl).1
      have hb : bt w := by rw [hwj]; unfold bt; have := hc.2; omega
      have hw := ok_w_cg he (Or.inl rfl) hb (by rw [hwj]; exact hok j hj)
      have hcn : ¬ fe_can (fe_choose J la 4 t).2 la 4 w t = 0 := by rw [fe_can_cg he (Or.inl rfl) hb hl]; exact hcan
      refine zv_run 2 (pc' := 57) (lo' := [some (.ref 36), some (.ref 4), some (.ref 34), some (.int t), some (.ref w)]) (st' := [.ref w]) (I' := (fe_choose J la 4 t).2) (L' := L) (R' := zw_RC h sp la) rfl ?_
      refine zv_ifnull (zs_at rfl) ?_
      refine zv_run 4 (pc' := 65) (lo' := [some (.ref 36), some (.ref 4), some (.ref 34), some (.int t), some (.ref w)]) (st' := [.int t, .ref w, .ref 4, .ref 36]) (I' := (fe_choose J la 4 t).2) (L' := L) (R' := zw_RC h sp la) rfl ?_
      refine zv_cV (M' := mm_X3_goesIn) (ci := 3) (a := 36) (av := [.ref 4, .ref w, .int t]) (st := []) (r := none) (I' := (fe_in (fe_canm (fe_choose J la 4 t).2 la 4 w t) w t)) (L' := L) (R' := zw_RC h sp (some w)) rfl zc_3_61 gd_X3_goesIn rfl rfl rfl (Nat.le_of_ble_eq_true rfl) (ct_X3_goesIn (d := _) (Or.inl rfl) (tk_cg (he 37 (by decide)) hT) hb hl hw hcn) ⟨Nat.le_refl _, Nat.le_refl _⟩ ?_
      refine zv_run 0 (pc' := 68) (lo' := [some (.ref 36), some (.ref 4), some (.ref 34), some (.int t), some (.ref w)]) (st' := []) (I' := (fe_in (fe_canm (fe_choose J la 4 t).2 la 4 w t) w t)) (L' := L) (R' := zw_RC h sp (some w)) rfl ?_
      have hq : fe_who J la 4 t = some w := by unfold fe_who; rw [if_pos c39]; exact hw53
      rw [show fe_mid J la 4 t = fe_in (fe_canm (fe_choose J la 4 t).2 la 4 w t) w t from by unfold fe_mid; rw [hq]; unfold fe_mem; rw [if_pos c39]; rfl, hq] at k
      exact k _
  · have _c := c39
    refine zv_run 2 (pc' := 53) (lo' := [some (.ref 36), some (.ref 4), some (.ref 34), some (.int t), x4]) (st' := [.null]) (I' := J) (L' := L) (R' := zw_RC h sp la) rfl ?_
    refine zv_run 2 (pc' := 57) (lo' := [some (.ref 36), some (.ref 4), some (.ref 34), some (.int t), some (.null)]) (st' := [.null]) (I' := J) (L' := L) (R' := zw_RC h sp la) rfl ?_
    refine zv_ifnullN (tgt := 68) (zs_at rfl) (by decide) ?_
    rw [show fe_mid J la 4 t = J from by unfold fe_mid fe_who fe_mem; rw [if_neg c39, if_neg c39]; rfl, show fe_who J la 4 t = none from by unfold fe_who; rw [if_neg c39]] at k
    exact k _
theorem rn97_14 {d : Nat} {J : zx_I} {L : zx_L} {h sp : Nat} {la : Option Nat} {t : Int32} {Q : zx_Qt} {x4 : Option Value} (hT : tk_ok J) (k : zx_V mm_X3_run (d + 4) z0 Q zw_SC 11 [some (.ref 36), some (.ref 14), some (.ref 34), some (.int (t + 1)), x4] [] (fe_end J 14) L (zw_RC h sp la)) : zx_V mm_X3_run (d + 4) z0 Q zw_SC 97 [some (.ref 36), some (.ref 14), some (.ref 34), some (.int t), x4] [] J L (zw_RC h sp la) := by
  refine zv_run 5 (pc' := 106) (lo' := [some (.ref 36), some (.ref 14), some (.ref 34), some (.int t), x4]) (st' := [.ref 14, .ref 39, .ref 37]) (I' := J) (L' := L) (R' := zw_RC h sp la) rfl ?_
  refine zv_cV (M' := mm_X4_gives) (ci := 4) (a := 39) (av := [.ref 14]) (st := [.ref 37]) (r := some (.int (ff_gives J 14))) (I' := J) (L' := L) (R' := zw_RC h sp la) rfl zc_3_85 gd_X4_gives rfl rfl rfl (Nat.le_of_ble_eq_true rfl) (ct_X4_gives (d := _) (Or.inr rfl)) ⟨Nat.le_refl _, Nat.le_refl _⟩ ?_
  refine zv_run 0 (pc' := 109) (lo' := [some (.ref 36), some (.ref 14), some (.ref 34), some (.int t), x4]) (st' := [.int (ff_gives J 14), .ref 37]) (I' := J) (L' := L) (R' := zw_RC h sp la) rfl ?_
  refine zv_cV (M' := mm_X7_warm) (ci := 7) (a := 37) (av := [.int (ff_gives J 14)]) (st := []) (r := none) (I' := (ft_warm J (ff_gives J 14))) (L' := L) (R' := zw_RC h sp la) rfl zc_3_89 gd_X7_warm rfl rfl rfl (Nat.le_of_ble_eq_true rfl) (ct_X7_warm (d := _) hT) ⟨Nat.le_refl _, Nat.le_refl _⟩ ?_
  refine zv_run 0 (pc' := 112) (lo' := [some (.ref 36), some (.ref 14), some (.ref 34), some (.int t), x4]) (st' := []) (I' := (ft_warm J (ff_gives J 14))) (L' := L) (R' := zw_RC h sp la) rfl ?_
  refine zv_run 4 (pc' := 120) (lo' := [some (.ref 36), some (.ref 14), some (.ref 34), some (.int t), x4]) (st' := [.int (J 14 5), .ref 37]) (I' := (ft_warm J (ff_gives J 14))) (L' := L) (R' := zw_RC h sp la) rfl ?_
  refine zv_cV (M' := mm_X7_lose) (ci := 7) (a := 37) (av := [.int (J 14 5)]) (st := []) (r := none) (I' := (ft_lose (ft_warm J (ff_gives J 14)) (J 14 5))) (L' := L) (R' := zw_RC h sp la) rfl zc_3_95 gd_X7_lose rfl rfl rfl (Nat.le_of_ble_eq_true rfl) (ct_X7_lose (d := _) (tk_cg (J := (ft_warm J (ff_gives J 14))) (I := J) rfl hT)) ⟨Nat.le_refl _, Nat.le_refl _⟩ ?_
  refine zv_run 0 (pc' := 123) (lo' := [some (.ref 36), some (.ref 14), some (.ref 34), some (.int t), x4]) (st' := []) (I' := (ft_lose (ft_warm J (ff_gives J 14)) (J 14 5))) (L' := L) (R' := zw_RC h sp la) rfl ?_
  refine zv_run 3 (pc' := 128) (lo' := [some (.ref 36), some (.ref 14), some (.ref 34), some (.int t), x4]) (st' := [.ref 14, .ref 39]) (I' := (ft_lose (ft_warm J (ff_gives J 14)) (J 14 5))) (L' := L) (R' := zw_RC h sp la) rfl ?_
  refine zv_cV (M' := mm_X4_getOlder) (ci := 4) (a := 39) (av := [.ref 14]) (st := []) (r := none) (I' := (ff_old (ft_lose (ft_warm J (ff_gives J 14)) (J 14 5)) 14)) (L' := L) (R' := zw_RC h sp la) rfl zc_3_98 gd_X4_getOlder rfl rfl rfl (Nat.le_of_ble_eq_true rfl) (ct_X4_getOlder (d := _) (Or.inr rfl)) ⟨Nat.le_refl _, Nat.le_refl _⟩ ?_
  refine zv_run 0 (pc' := 131) (lo' := [some (.ref 36), some (.ref 14), some (.ref 34), some (.int t), x4]) (st' := []) (I' := (ff_old (ft_lose (ft_warm J (ff_gives J 14)) (J 14 5)) 14)) (L' := L) (R' := zw_RC h sp la) rfl ?_
  refine zv_run 8 (pc' := 11) (lo' := [some (.ref 36), some (.ref 14), some (.ref 34), some (.int (t + 1)), x4]) (st' := []) (I' := (zx_uI (ff_old (ft_lose (ft_warm J (ff_gives J 14)) (J 14 5)) 14) 36 3 (((ff_old (ft_lose (ft_warm J (ff_gives J 14)) (J 14 5)) 14) 36 3) + 1))) (L' := L) (R' := zw_RC h sp la) rfl ?_
  exact k
theorem rn68_14 {d : Nat} {J : zx_I} {L : zx_L} {h sp : Nat} {la : Option Nat} {t : Int32} {Q : zx_Qt} {x4 : Option Value} (hT : tk_ok J) (k : zx_V mm_X3_run (d + 4) z0 Q zw_SC 97 [some (.ref 36), some (.ref 14), some (.ref 34), some (.int t), x4] [] (fe_tap J t) L (zw_RC h sp la)) : zx_V mm_X3_run (d + 4) z0 Q zw_SC 68 [some (.ref 36), some (.ref 14), some (.ref 34), some (.int t), x4] [] J L (zw_RC h sp la) := by
  refine zv_run 2 (pc' := 70) (lo' := [some (.ref 36), some (.ref 14), some (.ref 34), some (.int t), x4]) (st' := [.int t, .ref 34]) (I' := J) (L' := L) (R' := zw_RC h sp la) rfl ?_
  refine zv_cV (M' := mm_X0_tapsAt) (ci := 0) (a := 34) (av := [.int t]) (st := []) (r := some (.int (fa_taps J t))) (I' := J) (L' := L) (R' := zw_RC h sp la) rfl zc_3_65 gd_X0_tapsAt rfl rfl rfl (Nat.le_of_ble_eq_true rfl) (ct_X0_tapsAt (d := _)) ⟨Nat.le_refl _, Nat.le_refl _⟩ ?_
  refine zv_run 0 (pc' := 73) (lo' := [some (.ref 36), some (.ref 14), some (.ref 34), some (.int t), x4]) (st' := [.int (fa_taps J t)]) (I' := J) (L' := L) (R' := zw_RC h sp la) rfl ?_
  refine zv_if_eq (tgt := 97) (zs_at rfl) (by decide) (fun c73 => ?_) (fun c73 => ?_)
  · have _c := c73
    rw [show fe_tap J t = J from by unfold fe_tap; rw [if_pos c73]] at k
    exact k
  · have _c := c73
    refine zv_run 6 (pc' := 88) (lo' := [some (.ref 36), some (.ref 14), some (.ref 34), some (.int t), x4]) (st' := [.ref 37, .int (J 34 7), .ref 37]) (I' := J) (L' := L) (R' := zw_RC h sp la) rfl ?_
    refine zv_cV (M' := mm_X7_holds) (ci := 7) (a := 37) (av := []) (st := [.int (J 34 7), .ref 37]) (r := some (.int (J 37 1 * J 37 2))) (I' := J) (L' := L) (R' := zw_RC h sp la) rfl zc_3_71 gd_X7_holds rfl rfl rfl (Nat.le_of_ble_eq_true rfl) (ct_X7_holds (d := _)) ⟨Nat.le_refl _, Nat.le_refl _⟩ ?_
    refine zv_run 0 (pc' := 91) (lo' := [some (.ref 36), some (.ref 14), some (.ref 34), some (.int t), x4]) (st' := [.int (J 37 1 * J 37 2), .int (J 34 7), .ref 37]) (I' := J) (L' := L) (R' := zw_RC h sp la) rfl ?_
    refine zv_min rfl zm_3_75 (Nat.le_of_ble_eq_true rfl) ⟨Nat.le_refl _, Nat.le_refl _⟩ ?_
    refine zv_cV (M' := mm_X7_draw) (ci := 7) (a := 37) (av := [.int (if (J 37 1 * J 37 2) < (J 34 7) then (J 37 1 * J 37 2) else (J 34 7))]) (st := []) (r := none) (I' := (ft_draw J (if (J 37 1 * J 37 2) < (J 34 7) then (J 37 1 * J 37 2) else (J 34 7)))) (L' := L) (R' := zw_RC h sp la) rfl zc_3_81 gd_X7_draw rfl rfl rfl (Nat.le_of_ble_eq_true rfl) (ct_X7_draw (d := _) hT) ⟨Nat.le_refl _, Nat.le_refl _⟩ ?_
    refine zv_run 0 (pc' := 97) (lo' := [some (.ref 36), some (.ref 14), some (.ref 34), some (.int t), x4]) (st' := []) (I' := (ft_draw J (if (J 37 1 * J 37 2) < (J 34 7) then (J 37 1 * J 37 2) else (J 34 7)))) (L' := L) (R' := zw_RC h sp la) rfl ?_
    rw [show fe_tap J t = ft_draw J (fe_min (J 34 7) (J 37 1 * J 37 2)) from by unfold fe_tap; rw [if_neg c73]] at k
    exact k
theorem rn34_14 {d : Nat} {J : zx_I} {L : zx_L} {h sp : Nat} {la : Option Nat} {t : Int32} {Q : zx_Qt} {x4 : Option Value} (hT : tk_ok J) (hc : hs_ct J 14) (hl : ∀ wl, la = some wl → bt wl) (hok : ok_all J 14 (J 14 13).toInt.toNat) (k : ∀ x4, zx_V mm_X3_run (d + 4) z0 Q zw_SC 68 [some (.ref 36), some (.ref 14), some (.ref 34), some (.int t), x4] [] (fe_mid J la 14 t) L (zw_RC h sp (fe_la la (fe_who J la 14 t)))) : zx_V mm_X3_run (d + 4) z0 Q zw_SC 34 [some (.ref 36), some (.ref 14), some (.ref 34), some (.int t), x4] [] J L (zw_RC h sp la) := by
  refine zv_run 3 (pc' := 39) (lo' := [some (.ref 36), some (.ref 14), some (.ref 34), some (.int t), x4]) (st' := [.int (J 36 5), .int t]) (I' := J) (L' := L) (R' := zw_RC h sp la) rfl ?_
  refine zv_icmp_ge (tgt := 46) (zs_at rfl) (by decide) (fun c39 => ?_) (fun c39 => ?_)
  · have _c := c39
    refine zv_run 4 (pc' := 50) (lo' := [some (.ref 36), some (.ref 14), some (.ref 34), some (.int t), x4]) (st' := [.int t, .ref 34, .ref 14, .ref 36]) (I' := J) (L' := L) (R' := zw_RC h sp la) rfl ?_
    refine zv_cV (M' := mm_X3_chosen) (ci := 3) (a := 36) (av := [.ref 14, .ref 34, .int t]) (st := []) (r := some (va_rf ((fe_choose J la 14 t).1))) (I' := (fe_choose J la 14 t).2) (L' := L) (R' := zw_RC h sp la) rfl zc_3_57 gd_X3_chosen rfl rfl rfl (Nat.le_of_ble_eq_true rfl) (ct_X3_chosen (d := _) (Or.inr rfl) hT hc hl hok) ⟨Nat.le_refl _, Nat.le_refl _⟩ ?_
    rcases hw53 : (fe_choose J la 14 t).1 with _ | w
    · refine zv_run 0 (pc' := 53) (lo' := [some (.ref 36), some (.ref 14), some (.ref 34), some (.int t), x4]) (st' := [.null]) (I' := (fe_choose J la 14 t).2) (L' := L) (R' := zw_RC h sp la) rfl ?_
      refine zv_run 2 (pc' := 57) (lo' := [some (.ref 36), some (.ref 14), some (.ref 34), some (.int t), some (.null)]) (st' := [.null]) (I' := (fe_choose J la 14 t).2) (L' := L) (R' := zw_RC h sp la) rfl ?_
      refine zv_ifnullN (tgt := 68) (zs_at rfl) (by decide) ?_
      have hq : fe_who J la 14 t = none := by unfold fe_who; rw [if_pos c39]; exact hw53
      rw [show fe_mid J la 14 t = (fe_choose J la 14 t).2 from by unfold fe_mid; rw [hq]; unfold fe_mem; rw [if_pos c39]; rfl, hq] at k
      exact k _
    · refine zv_run 0 (pc' := 53) (lo' := [some (.ref 36), some (.ref 14), some (.ref 34), some (.int t), x4]) (st' := [.ref w]) (I' := (fe_choose J la 14 t).2) (L' := L) (R' := zw_RC h sp la) rfl ?_
      obtain ⟨j, hj, hwj, hcan⟩ := (fe_choose_ok (t := t) (Or.inr rfl) hc hl).2 w hw53
      have he := (fe_choose_ok (I := J) (la := la) (t := t) (Or.inr rfl) hc hl).1
      have hb : bt w := by rw [hwj]; unfold bt; have := hc.2; omega
      have hw := ok_w_cg he (Or.inr rfl) hb (by rw [hwj]; exact hok j hj)
      have hcn : ¬ fe_can (fe_choose J la 14 t).2 la 14 w t = 0 := by rw [fe_can_cg he (Or.inr rfl) hb hl]; exact hcan
      refine zv_run 2 (pc' := 57) (lo' := [some (.ref 36), some (.ref 14), some (.ref 34), some (.int t), some (.ref w)]) (st' := [.ref w]) (I' := (fe_choose J la 14 t).2) (L' := L) (R' := zw_RC h sp la) rfl ?_
      refine zv_ifnull (zs_at rfl) ?_
      refine zv_run 4 (pc' := 65) (lo' := [some (.ref 36), some (.ref 14), some (.ref 34), some (.int t), some (.ref w)]) (st' := [.int t, .ref w, .ref 14, .ref 36]) (I' := (fe_choose J la 14 t).2) (L' := L) (R' := zw_RC h sp la) rfl ?_
      refine zv_cV (M' := mm_X3_goesIn) (ci := 3) (a := 36) (av := [.ref 14, .ref w, .int t]) (st := []) (r := none) (I' := (fe_in (fe_canm (fe_choose J la 14 t).2 la 14 w t) w t)) (L' := L) (R' := zw_RC h sp (some w)) rfl zc_3_61 gd_X3_goesIn rfl rfl rfl (Nat.le_of_ble_eq_true rfl) (ct_X3_goesIn (d := _) (Or.inr rfl) (tk_cg (he 37 (by decide)) hT) hb hl hw hcn) ⟨Nat.le_refl _, Nat.le_refl _⟩ ?_
      refine zv_run 0 (pc' := 68) (lo' := [some (.ref 36), some (.ref 14), some (.ref 34), some (.int t), some (.ref w)]) (st' := []) (I' := (fe_in (fe_canm (fe_choose J la 14 t).2 la 14 w t) w t)) (L' := L) (R' := zw_RC h sp (some w)) rfl ?_
      have hq : fe_who J la 14 t = some w := by unfold fe_who; rw [if_pos c39]; exact hw53
      rw [show fe_mid J la 14 t = fe_in (fe_canm (fe_choose J la 14 t).2 la 14 w t) w t from by unfold fe_mid; rw [hq]; unfold fe_mem; rw [if_pos c39]; rfl, hq] at k
      exact k _
  · have _c := c39
    refine zv_run 2 (pc' := 53) (lo' := [some (.ref 36), some (.ref 14), some (.ref 34), some (.int t), x4]) (st' := [.null]) (I' := J) (L' := L) (R' := zw_RC h sp la) rfl ?_
    refine zv_run 2 (pc' := 57) (lo' := [some (.ref 36), some (.ref 14), some (.ref 34), some (.int t), some (.null)]) (st' := [.null]) (I' := J) (L' := L) (R' := zw_RC h sp la) rfl ?_
    refine zv_ifnullN (tgt := 68) (zs_at rfl) (by decide) ?_
    rw [show fe_mid J la 14 t = J from by unfold fe_mid fe_who fe_mem; rw [if_neg c39, if_neg c39]; rfl, show fe_who J la 14 t = none from by unfold fe_who; rw [if_neg c39]] at k
    exact k _
def ok_in (I : zx_I) (la : Option Nat) (a : Nat) : Prop := tk_ok I ∧ hs_ct I a ∧ (∀ wl, la = some wl → bt wl) ∧ ok_all I a (I a 13).toInt.toNat
def fe_loop (L : zx_L) (a : Nat) : Nat → Nat → zx_I → Option Nat → zx_I × Option Nat
  | 0, _, J, la => (J, la)
  | n + 1, k, J, la => fe_loop L a n (k + 1) (fe_step L J la a (nI k)) (fe_next L J la a (nI k))
theorem fe_up_ne {I : zx_I} {L : zx_L} {t : Int32} {b : Nat} (hb : b ≠ 39) : fe_up I L t b = I b := by
  unfold fe_up
  split
  · rfl
  · unfold ff_up
    split
    · rfl
    · rw [zx_uI_ne hb, zx_uI_ne hb, zx_uI_ne hb]
theorem fc_p_cg {I J : zx_I} {ww : Nat} {g : Int32} (h37 : J 37 = I 37) (h38 : J 38 = I 38) (hw : J ww = I ww) : fc_p J ww g = fc_p I ww g := (fc_cg h37 h38 hw).1
theorem ok_in_up {I : zx_I} {L : zx_L} {t : Int32} {la : Option Nat} {a : Nat} (ha : a = 4 ∨ a = 14) (h : ok_in I la a) : ok_in (fe_up I L t) la a := by
  obtain ⟨h1, h2, h3, h4⟩ := h
  have haa : fe_up I L t a = I a := fe_up_ne (by omega)
  refine ⟨tk_cg (fe_up_ne (by decide)) h1, by unfold hs_ct at h2 ⊢; rw [haa]; exact h2, h3, ?_⟩
  rw [haa]
  intro i hi
  have hb : bt (a + 4 + i) := by unfold bt; have := h2.2; omega
  have hw : fe_up I L t (a + 4 + i) = I (a + 4 + i) := fe_up_ne (by unfold bt at hb; omega)
  have h37 : fe_up I L t 37 = I 37 := fe_up_ne (by decide)
  have h38 : fe_up I L t 38 = I 38 := fe_up_ne (by decide)
  have hg : fe_g (fe_up I L t) a = fe_g I a := by unfold fe_g; rw [fe_up_ne (b := 36) (by decide), haa]
  have q := h4 i hi
  unfold ok_w at q ⊢
  rw [hw, hg, fc_p_cg h37 h38 hw, h37]
  exact q
theorem tk_tap {J : zx_I} {t : Int32} (h : tk_ok J) : tk_ok (fe_tap J t) := by
  unfold fe_tap
  split
  · exact h
  · exact h
theorem lp_X3_run_4 {d : Nat} {L : zx_L} {h sp : Nat} {N : Nat} (hN : N ≤ 60) (P : Nat → zx_I → Option Nat → Prop) (hP : ∀ k J la, P k J la → ok_in J la 4) (hT : ∀ k J la, P k J la → tk_ok (fe_mid (fe_up J L (nI k)) la 4 (nI k))) (hS : ∀ k J la, k < N → P k J la → P (k + 1) (fe_step L J la 4 (nI k)) (fe_next L J la 4 (nI k))) (hst : ∀ k J la, P k J la → J 4 12 = nI N) : ∀ (n k : Nat) (J : zx_I) (la : Option Nat) (x4 : Option Value), k + n = N → P k J la → zx_V mm_X3_run (d + 4) z0 (zw_ret (some (.int (fh_score (fe_loop L 4 n k J la).1 4))) zw_SC (fe_loop L 4 n k J la).1 L (zw_RC h sp (fe_loop L 4 n k J la).2)) zw_SC 11 [some (.ref 36), some (.ref 4), some (.ref 34), some (.int (nI k)), x4] [] J L (zw_RC h sp la) := by
  intro n
  induction n with
  | zero =>
    intro k J la x4 hk hI
    have hc := (hP k J la hI).2.1
    refine zv_run 3 (pc' := 16) (lo' := [some (.ref 36), some (.ref 4), some (.ref 34), some (.int (nI k)), x4]) (st' := [.int (J 4 12), .int (nI k)]) (I' := J) (L' := L) (R' := zw_RC h sp la) rfl ?_
    refine zv_icmp_ge (tgt := 147) (zs_at rfl) (by decide) (fun c16 => ?_) (fun c16 => ?_)
    · have _c := c16
      refine zv_run 1 (pc' := 148) (lo' := [some (.ref 36), some (.ref 4), some (.ref 34), some (.int (nI k)), x4]) (st' := [.ref 4]) (I' := J) (L' := L) (R' := zw_RC h sp la) rfl ?_
      refine zv_cV (M' := mm_X5_scoreOfEvening) (ci := 5) (a := 4) (av := []) (st := []) (r := some (.int (fh_score J 4))) (I' := J) (L' := L) (R' := zw_RC h sp la) rfl zc_3_105 gd_X5_scoreOfEvening rfl rfl rfl (Nat.le_of_ble_eq_true rfl) (ct_X5_scoreOfEvening (d := _) (Or.inl rfl) hc) ⟨Nat.le_refl _, Nat.le_refl _⟩ ?_
      refine zv_run 0 (pc' := 151) (lo' := [some (.ref 36), some (.ref 4), some (.ref 34), some (.int (nI k)), x4]) (st' := [.int (fh_score J 4)]) (I' := J) (L' := L) (R' := zw_RC h sp la) rfl ?_
      exact zv_iret (zs_at rfl) rfl ⟨Nat.le_refl _, Nat.le_refl _⟩ (zw_to rfl rfl rfl rfl)
    · exact absurd (by rw [hst k J la hI]; exact nI_le (by omega) (by omega)) c16
  | succ n ih =>
    intro k J la x4 hk hI
    refine zv_run 3 (pc' := 16) (lo' := [some (.ref 36), some (.ref 4), some (.ref 34), some (.int (nI k)), x4]) (st' := [.int (J 4 12), .int (nI k)]) (I' := J) (L' := L) (R' := zw_RC h sp la) rfl ?_
    refine zv_icmp_ge (tgt := 147) (zs_at rfl) (by decide) (fun c16 => ?_) (fun c16 => ?_)
    · exact absurd c16 (by rw [hst k J la hI]; exact nI_ge (by omega) (by omega))
    · have _c := c16
      refine zv_run 2 (pc' := 21) (lo' := [some (.ref 36), some (.ref 4), some (.ref 34), some (.int (nI k)), x4]) (st' := [.int (nI k), .ref 34]) (I' := J) (L' := L) (R' := zw_RC h sp la) rfl ?_
      refine zv_cV (M' := mm_X0_plansFor) (ci := 0) (a := 34) (av := [.int (nI k)]) (st := []) (r := some (.int (fa_plans L (nI k)))) (I' := J) (L' := L) (R' := zw_RC h sp la) rfl zc_3_47 gd_X0_plansFor rfl rfl rfl (Nat.le_of_ble_eq_true rfl) (ct_X0_plansFor (d := _)) ⟨Nat.le_refl _, Nat.le_refl _⟩ ?_
      refine zv_run 0 (pc' := 24) (lo' := [some (.ref 36), some (.ref 4), some (.ref 34), some (.int (nI k)), x4]) (st' := [.int (fa_plans L (nI k))]) (I' := J) (L' := L) (R' := zw_RC h sp la) rfl ?_
      refine zv_if_eq (tgt := 34) (zs_at rfl) (by decide) (fun c24 => ?_) (fun c24 => ?_)
      · have _c := c24
        have e : fe_up J L (nI k) = J := by unfold fe_up; rw [if_pos c24]
        have ho := ok_in_up (L := L) (t := nI k) (Or.inl rfl) (hP k J la hI)
        rw [e] at ho
        obtain ⟨g1, g2, g3, g4⟩ := ho
        refine rn34_4 g1 g2 g3 g4 (fun x4 => ?_)
        have hm : tk_ok (fe_mid (J) la 4 (nI k)) := by have q := hT k J la hI; unfold fe_next at q; rw [e] at q; exact q
        refine rn68_4 hm ?_
        refine rn97_4 (tk_tap hm) ?_
        have hq : fe_step L J la 4 (nI k) = fe_end (fe_tap (fe_mid (J) la 4 (nI k)) (nI k)) 4 := by unfold fe_step; rw [e]
        have hn : fe_next L J la 4 (nI k) = fe_la la (fe_who (J) la 4 (nI k)) := by unfold fe_next; rw [e]
        rw [← nI_succ, ← hq, ← hn, show fe_loop L 4 (n + 1) k J la = fe_loop L 4 n (k + 1) (fe_step L J la 4 (nI k)) (fe_next L J la 4 (nI k)) from rfl]
        exact ih (k + 1) _ _ _ (by omega) (hS k J la (by omega) hI)
      · have _c := c24
        refine zv_run 2 (pc' := 31) (lo' := [some (.ref 36), some (.ref 4), some (.ref 34), some (.int (nI k)), x4]) (st' := [.ref 39]) (I' := J) (L' := L) (R' := zw_RC h sp la) rfl ?_
        refine zv_cV (M' := mm_X4_makeUp) (ci := 4) (a := 39) (av := []) (st := []) (r := none) (I' := (ff_up J)) (L' := L) (R' := zw_RC h sp la) rfl zc_3_51 gd_X4_makeUp rfl rfl rfl (Nat.le_of_ble_eq_true rfl) (ct_X4_makeUp (d := _)) ⟨Nat.le_refl _, Nat.le_refl _⟩ ?_
        refine zv_run 0 (pc' := 34) (lo' := [some (.ref 36), some (.ref 4), some (.ref 34), some (.int (nI k)), x4]) (st' := []) (I' := (ff_up J)) (L' := L) (R' := zw_RC h sp la) rfl ?_
        have e : fe_up J L (nI k) = ff_up J := by unfold fe_up; rw [if_neg c24]
        have ho := ok_in_up (L := L) (t := nI k) (Or.inl rfl) (hP k J la hI)
        rw [e] at ho
        obtain ⟨g1, g2, g3, g4⟩ := ho
        refine rn34_4 g1 g2 g3 g4 (fun x4 => ?_)
        have hm : tk_ok (fe_mid (ff_up J) la 4 (nI k)) := by have q := hT k J la hI; unfold fe_next at q; rw [e] at q; exact q
        refine rn68_4 hm ?_
        refine rn97_4 (tk_tap hm) ?_
        have hq : fe_step L J la 4 (nI k) = fe_end (fe_tap (fe_mid (ff_up J) la 4 (nI k)) (nI k)) 4 := by unfold fe_step; rw [e]
        have hn : fe_next L J la 4 (nI k) = fe_la la (fe_who (ff_up J) la 4 (nI k)) := by unfold fe_next; rw [e]
        rw [← nI_succ, ← hq, ← hn, show fe_loop L 4 (n + 1) k J la = fe_loop L 4 n (k + 1) (fe_step L J la 4 (nI k)) (fe_next L J la 4 (nI k)) from rfl]
        exact ih (k + 1) _ _ _ (by omega) (hS k J la (by omega) hI)
theorem ct_X3_run_4 {d : Nat} {I : zx_I} {L : zx_L} {h sp : Nat} {la : Option Nat} {N : Nat} (hN : N ≤ 60) (P : Nat → zx_I → Option Nat → Prop) (hP : ∀ k J la, P k J la → ok_in J la 4) (hT : ∀ k J la, P k J la → tk_ok (fe_mid (fe_up J L (nI k)) la 4 (nI k))) (hS : ∀ k J la, k < N → P k J la → P (k + 1) (fe_step L J la 4 (nI k)) (fe_next L J la 4 (nI k))) (hst : ∀ k J la, P k J la → J 4 12 = nI N) (hH : hs_tk I 4) (h0 : P 0 (fe_begin I 4 (I 34 2)) none) : zx_M0 mm_X3_run (d + 4) 0 0 [.ref 36, .ref 4, .ref 34] zw_SC I L (zw_RC h sp la) (zw_ret (some (.int (fh_score (fe_loop L 4 N 0 (fe_begin I 4 (I 34 2)) none).1 4))) zw_SC (fe_loop L 4 N 0 (fe_begin I 4 (I 34 2)) none).1 L (zw_RC h sp (fe_loop L 4 N 0 (fe_begin I 4 (I 34 2)) none).2)) := by
  refine zv_entry gd_X3_run (Nat.le_of_ble_eq_true rfl) ?_
  refine zv_run 4 (pc' := 6) (lo' := [some (.ref 36), some (.ref 4), some (.ref 34), none, none]) (st' := [.int (I 34 2), .ref 4, .ref 36]) (I' := I) (L' := L) (R' := zw_RC h sp la) rfl ?_
  refine zv_cV (M' := mm_X3_begin) (ci := 3) (a := 36) (av := [.ref 4, .int (I 34 2)]) (st := []) (r := none) (I' := (fe_begin I 4 (I 34 2))) (L' := L) (R' := zw_RC h sp none) rfl zc_3_38 gd_X3_begin rfl rfl rfl (Nat.le_of_ble_eq_true rfl) (ct_X3_begin (d := _) (Or.inl rfl) hH) ⟨Nat.le_refl _, Nat.le_refl _⟩ ?_
  refine zv_run 0 (pc' := 9) (lo' := [some (.ref 36), some (.ref 4), some (.ref 34), none, none]) (st' := []) (I' := (fe_begin I 4 (I 34 2))) (L' := L) (R' := zw_RC h sp none) rfl ?_
  refine zv_run 2 (pc' := 11) (lo' := [some (.ref 36), some (.ref 4), some (.ref 34), some (.int 0), none]) (st' := []) (I' := (fe_begin I 4 (I 34 2))) (L' := L) (R' := zw_RC h sp none) rfl ?_
  exact lp_X3_run_4 hN P hP hT hS hst N 0 _ none none (Nat.zero_add N) h0
theorem lp_X3_run_14 {d : Nat} {L : zx_L} {h sp : Nat} {N : Nat} (hN : N ≤ 60) (P : Nat → zx_I → Option Nat → Prop) (hP : ∀ k J la, P k J la → ok_in J la 14) (hT : ∀ k J la, P k J la → tk_ok (fe_mid (fe_up J L (nI k)) la 14 (nI k))) (hS : ∀ k J la, k < N → P k J la → P (k + 1) (fe_step L J la 14 (nI k)) (fe_next L J la 14 (nI k))) (hst : ∀ k J la, P k J la → J 14 12 = nI N) : ∀ (n k : Nat) (J : zx_I) (la : Option Nat) (x4 : Option Value), k + n = N → P k J la → zx_V mm_X3_run (d + 4) z0 (zw_ret (some (.int (fh_score (fe_loop L 14 n k J la).1 14))) zw_SC (fe_loop L 14 n k J la).1 L (zw_RC h sp (fe_loop L 14 n k J la).2)) zw_SC 11 [some (.ref 36), some (.ref 14), some (.ref 34), some (.int (nI k)), x4] [] J L (zw_RC h sp la) := by
  intro n
  induction n with
  | zero =>
    intro k J la x4 hk hI
    have hc := (hP k J la hI).2.1
    refine zv_run 3 (pc' := 16) (lo' := [some (.ref 36), some (.ref 14), some (.ref 34), some (.int (nI k)), x4]) (st' := [.int (J 14 12), .int (nI k)]) (I' := J) (L' := L) (R' := zw_RC h sp la) rfl ?_
    refine zv_icmp_ge (tgt := 147) (zs_at rfl) (by decide) (fun c16 => ?_) (fun c16 => ?_)
    · have _c := c16
      refine zv_run 1 (pc' := 148) (lo' := [some (.ref 36), some (.ref 14), some (.ref 34), some (.int (nI k)), x4]) (st' := [.ref 14]) (I' := J) (L' := L) (R' := zw_RC h sp la) rfl ?_
      refine zv_cV (M' := mm_X5_scoreOfEvening) (ci := 5) (a := 14) (av := []) (st := []) (r := some (.int (fh_score J 14))) (I' := J) (L' := L) (R' := zw_RC h sp la) rfl zc_3_105 gd_X5_scoreOfEvening rfl rfl rfl (Nat.le_of_ble_eq_true rfl) (ct_X5_scoreOfEvening (d := _) (Or.inr rfl) hc) ⟨Nat.le_refl _, Nat.le_refl _⟩ ?_
      refine zv_run 0 (pc' := 151) (lo' := [some (.ref 36), some (.ref 14), some (.ref 34), some (.int (nI k)), x4]) (st' := [.int (fh_score J 14)]) (I' := J) (L' := L) (R' := zw_RC h sp la) rfl ?_
      exact zv_iret (zs_at rfl) rfl ⟨Nat.le_refl _, Nat.le_refl _⟩ (zw_to rfl rfl rfl rfl)
    · exact absurd (by rw [hst k J la hI]; exact nI_le (by omega) (by omega)) c16
  | succ n ih =>
    intro k J la x4 hk hI
    refine zv_run 3 (pc' := 16) (lo' := [some (.ref 36), some (.ref 14), some (.ref 34), some (.int (nI k)), x4]) (st' := [.int (J 14 12), .int (nI k)]) (I' := J) (L' := L) (R' := zw_RC h sp la) rfl ?_
    refine zv_icmp_ge (tgt := 147) (zs_at rfl) (by decide) (fun c16 => ?_) (fun c16 => ?_)
    · exact absurd c16 (by rw [hst k J la hI]; exact nI_ge (by omega) (by omega))
    · have _c := c16
      refine zv_run 2 (pc' := 21) (lo' := [some (.ref 36), some (.ref 14), some (.ref 34), some (.int (nI k)), x4]) (st' := [.int (nI k), .ref 34]) (I' := J) (L' := L) (R' := zw_RC h sp la) rfl ?_
      refine zv_cV (M' := mm_X0_plansFor) (ci := 0) (a := 34) (av := [.int (nI k)]) (st := []) (r := some (.int (fa_plans L (nI k)))) (I' := J) (L' := L) (R' := zw_RC h sp la) rfl zc_3_47 gd_X0_plansFor rfl rfl rfl (Nat.le_of_ble_eq_true rfl) (ct_X0_plansFor (d := _)) ⟨Nat.le_refl _, Nat.le_refl _⟩ ?_
      refine zv_run 0 (pc' := 24) (lo' := [some (.ref 36), some (.ref 14), some (.ref 34), some (.int (nI k)), x4]) (st' := [.int (fa_plans L (nI k))]) (I' := J) (L' := L) (R' := zw_RC h sp la) rfl ?_
      refine zv_if_eq (tgt := 34) (zs_at rfl) (by decide) (fun c24 => ?_) (fun c24 => ?_)
      · have _c := c24
        have e : fe_up J L (nI k) = J := by unfold fe_up; rw [if_pos c24]
        have ho := ok_in_up (L := L) (t := nI k) (Or.inr rfl) (hP k J la hI)
        rw [e] at ho
        obtain ⟨g1, g2, g3, g4⟩ := ho
        refine rn34_14 g1 g2 g3 g4 (fun x4 => ?_)
        have hm : tk_ok (fe_mid (J) la 14 (nI k)) := by have q := hT k J la hI; unfold fe_next at q; rw [e] at q; exact q
        refine rn68_14 hm ?_
        refine rn97_14 (tk_tap hm) ?_
        have hq : fe_step L J la 14 (nI k) = fe_end (fe_tap (fe_mid (J) la 14 (nI k)) (nI k)) 14 := by unfold fe_step; rw [e]
        have hn : fe_next L J la 14 (nI k) = fe_la la (fe_who (J) la 14 (nI k)) := by unfold fe_next; rw [e]
        rw [← nI_succ, ← hq, ← hn, show fe_loop L 14 (n + 1) k J la = fe_loop L 14 n (k + 1) (fe_step L J la 14 (nI k)) (fe_next L J la 14 (nI k)) from rfl]
        exact ih (k + 1) _ _ _ (by omega) (hS k J la (by omega) hI)
      · have _c := c24
        refine zv_run 2 (pc' := 31) (lo' := [some (.ref 36), some (.ref 14), some (.ref 34), some (.int (nI k)), x4]) (st' := [.ref 39]) (I' := J) (L' := L) (R' := zw_RC h sp la) rfl ?_
        refine zv_cV (M' := mm_X4_makeUp) (ci := 4) (a := 39) (av := []) (st := []) (r := none) (I' := (ff_up J)) (L' := L) (R' := zw_RC h sp la) rfl zc_3_51 gd_X4_makeUp rfl rfl rfl (Nat.le_of_ble_eq_true rfl) (ct_X4_makeUp (d := _)) ⟨Nat.le_refl _, Nat.le_refl _⟩ ?_
        refine zv_run 0 (pc' := 34) (lo' := [some (.ref 36), some (.ref 14), some (.ref 34), some (.int (nI k)), x4]) (st' := []) (I' := (ff_up J)) (L' := L) (R' := zw_RC h sp la) rfl ?_
        have e : fe_up J L (nI k) = ff_up J := by unfold fe_up; rw [if_neg c24]
        have ho := ok_in_up (L := L) (t := nI k) (Or.inr rfl) (hP k J la hI)
        rw [e] at ho
        obtain ⟨g1, g2, g3, g4⟩ := ho
        refine rn34_14 g1 g2 g3 g4 (fun x4 => ?_)
        have hm : tk_ok (fe_mid (ff_up J) la 14 (nI k)) := by have q := hT k J la hI; unfold fe_next at q; rw [e] at q; exact q
        refine rn68_14 hm ?_
        refine rn97_14 (tk_tap hm) ?_
        have hq : fe_step L J la 14 (nI k) = fe_end (fe_tap (fe_mid (ff_up J) la 14 (nI k)) (nI k)) 14 := by unfold fe_step; rw [e]
        have hn : fe_next L J la 14 (nI k) = fe_la la (fe_who (ff_up J) la 14 (nI k)) := by unfold fe_next; rw [e]
        rw [← nI_succ, ← hq, ← hn, show fe_loop L 14 (n + 1) k J la = fe_loop L 14 n (k + 1) (fe_step L J la 14 (nI k)) (fe_next L J la 14 (nI k)) from rfl]
        exact ih (k + 1) _ _ _ (by omega) (hS k J la (by omega) hI)
theorem ct_X3_run_14 {d : Nat} {I : zx_I} {L : zx_L} {h sp : Nat} {la : Option Nat} {N : Nat} (hN : N ≤ 60) (P : Nat → zx_I → Option Nat → Prop) (hP : ∀ k J la, P k J la → ok_in J la 14) (hT : ∀ k J la, P k J la → tk_ok (fe_mid (fe_up J L (nI k)) la 14 (nI k))) (hS : ∀ k J la, k < N → P k J la → P (k + 1) (fe_step L J la 14 (nI k)) (fe_next L J la 14 (nI k))) (hst : ∀ k J la, P k J la → J 14 12 = nI N) (hH : hs_tk I 14) (h0 : P 0 (fe_begin I 14 (I 34 2)) none) : zx_M0 mm_X3_run (d + 4) 0 0 [.ref 36, .ref 14, .ref 34] zw_SC I L (zw_RC h sp la) (zw_ret (some (.int (fh_score (fe_loop L 14 N 0 (fe_begin I 14 (I 34 2)) none).1 14))) zw_SC (fe_loop L 14 N 0 (fe_begin I 14 (I 34 2)) none).1 L (zw_RC h sp (fe_loop L 14 N 0 (fe_begin I 14 (I 34 2)) none).2)) := by
  refine zv_entry gd_X3_run (Nat.le_of_ble_eq_true rfl) ?_
  refine zv_run 4 (pc' := 6) (lo' := [some (.ref 36), some (.ref 14), some (.ref 34), none, none]) (st' := [.int (I 34 2), .ref 14, .ref 36]) (I' := I) (L' := L) (R' := zw_RC h sp la) rfl ?_
  refine zv_cV (M' := mm_X3_begin) (ci := 3) (a := 36) (av := [.ref 14, .int (I 34 2)]) (st := []) (r := none) (I' := (fe_begin I 14 (I 34 2))) (L' := L) (R' := zw_RC h sp none) rfl zc_3_38 gd_X3_begin rfl rfl rfl (Nat.le_of_ble_eq_true rfl) (ct_X3_begin (d := _) (Or.inr rfl) hH) ⟨Nat.le_refl _, Nat.le_refl _⟩ ?_
  refine zv_run 0 (pc' := 9) (lo' := [some (.ref 36), some (.ref 14), some (.ref 34), none, none]) (st' := []) (I' := (fe_begin I 14 (I 34 2))) (L' := L) (R' := zw_RC h sp none) rfl ?_
  refine zv_run 2 (pc' := 11) (lo' := [some (.ref 36), some (.ref 14), some (.ref 34), some (.int 0), none]) (st' := []) (I' := (fe_begin I 14 (I 34 2))) (L' := L) (R' := zw_RC h sp none) rfl ?_
  exact lp_X3_run_14 hN P hP hT hS hst N 0 _ none none (Nat.zero_add N) h0
end
