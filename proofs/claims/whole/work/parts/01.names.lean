/-! names: the tables' words, classes, methods (begun from the printed names) -/
-- ===== PART A: goes FIRST, ahead of the names: the tables' words, and 'selects' of the private methods out of them =====
/-- a private method of a class that the tables say can be made, by its rows of tables_1 -/
def lw_okq (q : MethodName × Nat) : Prop := (q.1.cls ≠ "java/lang/invoke/MethodHandle" ∧ q.1.cls ≠ "java/lang/invoke/VarHandle") ∧ Cond.instantiable q.1.cls q.2 ∈ tables_1 ∧ Cond.privateMethod q.1 ∈ tables_1 ∧ Cond.instanceMethod q.1 ∈ tables_1
theorem lw_p0 : lw_okq (⟨"BathNight$House", "takesTank", "(LBathNight$Item;)Z"⟩, 15) := ⟨⟨by decide +kernel, by decide +kernel⟩, List.mem_of_getElem? (i := 44) (by decide +kernel), List.mem_of_getElem? (i := 421) (by decide +kernel), List.mem_of_getElem? (i := 422) (by decide +kernel)⟩
theorem lw_p1 : lw_okq (⟨"BathNight$House", "takesStage", "(LBathNight$Item;)Z"⟩, 15) := ⟨⟨by decide +kernel, by decide +kernel⟩, List.mem_of_getElem? (i := 44) (by decide +kernel), List.mem_of_getElem? (i := 434) (by decide +kernel), List.mem_of_getElem? (i := 435) (by decide +kernel)⟩
theorem lw_p2 : lw_okq (⟨"BathNight$House", "takesBather", "(LBathNight$Item;)Z"⟩, 15) := ⟨⟨by decide +kernel, by decide +kernel⟩, List.mem_of_getElem? (i := 44) (by decide +kernel), List.mem_of_getElem? (i := 438) (by decide +kernel), List.mem_of_getElem? (i := 439) (by decide +kernel)⟩
theorem lw_p3 : lw_okq (⟨"BathNight$House", "takesPair", "(LBathNight$Item;)Z"⟩, 15) := ⟨⟨by decide +kernel, by decide +kernel⟩, List.mem_of_getElem? (i := 44) (by decide +kernel), List.mem_of_getElem? (i := 447) (by decide +kernel), List.mem_of_getElem? (i := 448) (by decide +kernel)⟩
theorem lw_p4 : lw_okq (⟨"BathNight$House", "takesKettle", "(LBathNight$Item;)Z"⟩, 15) := ⟨⟨by decide +kernel, by decide +kernel⟩, List.mem_of_getElem? (i := 44) (by decide +kernel), List.mem_of_getElem? (i := 460) (by decide +kernel), List.mem_of_getElem? (i := 461) (by decide +kernel)⟩
theorem lw_p5 : lw_okq (⟨"BathNight$House", "takesNumber", "(LBathNight$Item;)Z"⟩, 15) := ⟨⟨by decide +kernel, by decide +kernel⟩, List.mem_of_getElem? (i := 44) (by decide +kernel), List.mem_of_getElem? (i := 464) (by decide +kernel), List.mem_of_getElem? (i := 465) (by decide +kernel)⟩
theorem lw_p6 : lw_okq (⟨"BathNight$Tank", "unitsOfPart", "(II)I"⟩, 4) := ⟨⟨by decide +kernel, by decide +kernel⟩, List.mem_of_getElem? (i := 275) (by decide +kernel), List.mem_of_getElem? (i := 513) (by decide +kernel), List.mem_of_getElem? (i := 514) (by decide +kernel)⟩
theorem lw_p7 : lw_okq (⟨"BathNight", "ask", "(I)V"⟩, 11) := ⟨⟨by decide +kernel, by decide +kernel⟩, List.mem_of_getElem? (i := 16) (by decide +kernel), List.mem_of_getElem? (i := 554) (by decide +kernel), List.mem_of_getElem? (i := 555) (by decide +kernel)⟩
theorem lw_p8 : lw_okq (⟨"BathNight$Evening", "begin", "(LBathNight$House;I)V"⟩, 8) := ⟨⟨by decide +kernel, by decide +kernel⟩, List.mem_of_getElem? (i := 269) (by decide +kernel), List.mem_of_getElem? (i := 573) (by decide +kernel), List.mem_of_getElem? (i := 574) (by decide +kernel)⟩
theorem lw_p9 : lw_okq (⟨"BathNight$Evening", "chosen", "(LBathNight$House;LBathNight$Asked;I)LBathNight$Bather;"⟩, 8) := ⟨⟨by decide +kernel, by decide +kernel⟩, List.mem_of_getElem? (i := 269) (by decide +kernel), List.mem_of_getElem? (i := 594) (by decide +kernel), List.mem_of_getElem? (i := 595) (by decide +kernel)⟩
theorem lw_p10 : lw_okq (⟨"BathNight$Evening", "can", "(LBathNight$House;LBathNight$Bather;I)Z"⟩, 8) := ⟨⟨by decide +kernel, by decide +kernel⟩, List.mem_of_getElem? (i := 269) (by decide +kernel), List.mem_of_getElem? (i := 603) (by decide +kernel), List.mem_of_getElem? (i := 604) (by decide +kernel)⟩
theorem lw_p11 : lw_okq (⟨"BathNight$Evening", "goesIn", "(LBathNight$House;LBathNight$Bather;I)V"⟩, 8) := ⟨⟨by decide +kernel, by decide +kernel⟩, List.mem_of_getElem? (i := 269) (by decide +kernel), List.mem_of_getElem? (i := 621) (by decide +kernel), List.mem_of_getElem? (i := 622) (by decide +kernel)⟩
theorem lw_p12 : lw_okq (⟨"BathNight", "nobodyLate", "(J)Z"⟩, 11) := ⟨⟨by decide +kernel, by decide +kernel⟩, List.mem_of_getElem? (i := 16) (by decide +kernel), List.mem_of_getElem? (i := 697) (by decide +kernel), List.mem_of_getElem? (i := 698) (by decide +kernel)⟩
theorem lw_p13 : lw_okq (⟨"BathNight", "sumToldAt", "(LBathNight$Bather;I)I"⟩, 11) := ⟨⟨by decide +kernel, by decide +kernel⟩, List.mem_of_getElem? (i := 16) (by decide +kernel), List.mem_of_getElem? (i := 735) (by decide +kernel), List.mem_of_getElem? (i := 736) (by decide +kernel)⟩
theorem lw_p14 : lw_okq (⟨"BathNight", "bestToCome", "(LBathNight$Bather;)I"⟩, 11) := ⟨⟨by decide +kernel, by decide +kernel⟩, List.mem_of_getElem? (i := 16) (by decide +kernel), List.mem_of_getElem? (i := 743) (by decide +kernel), List.mem_of_getElem? (i := 744) (by decide +kernel)⟩
theorem lw_p15 : lw_okq (⟨"BathNightModel", "layDown", "()V"⟩, 36) := ⟨⟨by decide +kernel, by decide +kernel⟩, List.mem_of_getElem? (i := 770) (by decide +kernel), List.mem_of_getElem? (i := 779) (by decide +kernel), List.mem_of_getElem? (i := 780) (by decide +kernel)⟩
def lw_privs_1 : List (MethodName × Nat) := [(⟨"BathNight$House", "takesTank", "(LBathNight$Item;)Z"⟩, 15), (⟨"BathNight$House", "takesStage", "(LBathNight$Item;)Z"⟩, 15), (⟨"BathNight$House", "takesBather", "(LBathNight$Item;)Z"⟩, 15), (⟨"BathNight$House", "takesPair", "(LBathNight$Item;)Z"⟩, 15), (⟨"BathNight$House", "takesKettle", "(LBathNight$Item;)Z"⟩, 15), (⟨"BathNight$House", "takesNumber", "(LBathNight$Item;)Z"⟩, 15), (⟨"BathNight$Tank", "unitsOfPart", "(II)I"⟩, 4), (⟨"BathNight", "ask", "(I)V"⟩, 11), (⟨"BathNight$Evening", "begin", "(LBathNight$House;I)V"⟩, 8), (⟨"BathNight$Evening", "chosen", "(LBathNight$House;LBathNight$Asked;I)LBathNight$Bather;"⟩, 8), (⟨"BathNight$Evening", "can", "(LBathNight$House;LBathNight$Bather;I)Z"⟩, 8), (⟨"BathNight$Evening", "goesIn", "(LBathNight$House;LBathNight$Bather;I)V"⟩, 8), (⟨"BathNight", "nobodyLate", "(J)Z"⟩, 11), (⟨"BathNight", "sumToldAt", "(LBathNight$Bather;I)I"⟩, 11), (⟨"BathNight", "bestToCome", "(LBathNight$Bather;)I"⟩, 11), (⟨"BathNightModel", "layDown", "()V"⟩, 36)]
theorem lw_r1 : ∀ q ∈ lw_privs_1, lw_okq q := List.forall_mem_cons.mpr ⟨lw_p0, List.forall_mem_cons.mpr ⟨lw_p1, List.forall_mem_cons.mpr ⟨lw_p2, List.forall_mem_cons.mpr ⟨lw_p3, List.forall_mem_cons.mpr ⟨lw_p4, List.forall_mem_cons.mpr ⟨lw_p5, List.forall_mem_cons.mpr ⟨lw_p6, List.forall_mem_cons.mpr ⟨lw_p7, List.forall_mem_cons.mpr ⟨lw_p8, List.forall_mem_cons.mpr ⟨lw_p9, List.forall_mem_cons.mpr ⟨lw_p10, List.forall_mem_cons.mpr ⟨lw_p11, List.forall_mem_cons.mpr ⟨lw_p12, List.forall_mem_cons.mpr ⟨lw_p13, List.forall_mem_cons.mpr ⟨lw_p14, List.forall_mem_cons.mpr ⟨lw_p15, fun _ h => absurd h List.not_mem_nil⟩⟩⟩⟩⟩⟩⟩⟩⟩⟩⟩⟩⟩⟩⟩⟩
theorem lw_p16 : lw_okq (⟨"BathNightModel", "isRead", "()Z"⟩, 36) := ⟨⟨by decide +kernel, by decide +kernel⟩, List.mem_of_getElem? (i := 770) (by decide +kernel), List.mem_of_getElem? (i := 909) (by decide +kernel), List.mem_of_getElem? (i := 910) (by decide +kernel)⟩
theorem lw_p17 : lw_okq (⟨"BathNightModel", "isItem", "(Z)Z"⟩, 36) := ⟨⟨by decide +kernel, by decide +kernel⟩, List.mem_of_getElem? (i := 770) (by decide +kernel), List.mem_of_getElem? (i := 913) (by decide +kernel), List.mem_of_getElem? (i := 914) (by decide +kernel)⟩
theorem lw_p18 : lw_okq (⟨"BathNightModel", "byteNow", "()I"⟩, 36) := ⟨⟨by decide +kernel, by decide +kernel⟩, List.mem_of_getElem? (i := 770) (by decide +kernel), List.mem_of_getElem? (i := 917) (by decide +kernel), List.mem_of_getElem? (i := 918) (by decide +kernel)⟩
theorem lw_p19 : lw_okq (⟨"BathNightModel", "isPut", "(IIII)Z"⟩, 36) := ⟨⟨by decide +kernel, by decide +kernel⟩, List.mem_of_getElem? (i := 770) (by decide +kernel), List.mem_of_getElem? (i := 921) (by decide +kernel), List.mem_of_getElem? (i := 922) (by decide +kernel)⟩
theorem lw_p20 : lw_okq (⟨"BathNightModel", "isNumber", "(III)Z"⟩, 36) := ⟨⟨by decide +kernel, by decide +kernel⟩, List.mem_of_getElem? (i := 770) (by decide +kernel), List.mem_of_getElem? (i := 925) (by decide +kernel), List.mem_of_getElem? (i := 926) (by decide +kernel)⟩
theorem lw_p21 : lw_okq (⟨"BathNightModel", "isFire", "()Z"⟩, 36) := ⟨⟨by decide +kernel, by decide +kernel⟩, List.mem_of_getElem? (i := 770) (by decide +kernel), List.mem_of_getElem? (i := 929) (by decide +kernel), List.mem_of_getElem? (i := 930) (by decide +kernel)⟩
theorem lw_p22 : lw_okq (⟨"BathNightModel", "isBather", "()Z"⟩, 36) := ⟨⟨by decide +kernel, by decide +kernel⟩, List.mem_of_getElem? (i := 770) (by decide +kernel), List.mem_of_getElem? (i := 933) (by decide +kernel), List.mem_of_getElem? (i := 934) (by decide +kernel)⟩
theorem lw_p23 : lw_okq (⟨"BathNightModel", "isPair", "(I)Z"⟩, 36) := ⟨⟨by decide +kernel, by decide +kernel⟩, List.mem_of_getElem? (i := 770) (by decide +kernel), List.mem_of_getElem? (i := 937) (by decide +kernel), List.mem_of_getElem? (i := 938) (by decide +kernel)⟩
theorem lw_p24 : lw_okq (⟨"BathNightModel", "isBatherOf", "(I)Z"⟩, 36) := ⟨⟨by decide +kernel, by decide +kernel⟩, List.mem_of_getElem? (i := 770) (by decide +kernel), List.mem_of_getElem? (i := 949) (by decide +kernel), List.mem_of_getElem? (i := 950) (by decide +kernel)⟩
theorem lw_p25 : lw_okq (⟨"BathNightModel", "many", "()I"⟩, 36) := ⟨⟨by decide +kernel, by decide +kernel⟩, List.mem_of_getElem? (i := 770) (by decide +kernel), List.mem_of_getElem? (i := 953) (by decide +kernel), List.mem_of_getElem? (i := 954) (by decide +kernel)⟩
theorem lw_p26 : lw_okq (⟨"BathNightModel", "of", "(II)I"⟩, 36) := ⟨⟨by decide +kernel, by decide +kernel⟩, List.mem_of_getElem? (i := 770) (by decide +kernel), List.mem_of_getElem? (i := 957) (by decide +kernel), List.mem_of_getElem? (i := 958) (by decide +kernel)⟩
theorem lw_p27 : lw_okq (⟨"BathNightModel", "holds", "()I"⟩, 36) := ⟨⟨by decide +kernel, by decide +kernel⟩, List.mem_of_getElem? (i := 770) (by decide +kernel), List.mem_of_getElem? (i := 965) (by decide +kernel), List.mem_of_getElem? (i := 966) (by decide +kernel)⟩
theorem lw_p28 : lw_okq (⟨"BathNightModel", "fill", "()V"⟩, 36) := ⟨⟨by decide +kernel, by decide +kernel⟩, List.mem_of_getElem? (i := 770) (by decide +kernel), List.mem_of_getElem? (i := 969) (by decide +kernel), List.mem_of_getElem? (i := 970) (by decide +kernel)⟩
theorem lw_p29 : lw_okq (⟨"BathNightModel", "unitsOf", "(II)I"⟩, 36) := ⟨⟨by decide +kernel, by decide +kernel⟩, List.mem_of_getElem? (i := 770) (by decide +kernel), List.mem_of_getElem? (i := 973) (by decide +kernel), List.mem_of_getElem? (i := 974) (by decide +kernel)⟩
theorem lw_p30 : lw_okq (⟨"BathNightModel", "draw", "(I)V"⟩, 36) := ⟨⟨by decide +kernel, by decide +kernel⟩, List.mem_of_getElem? (i := 770) (by decide +kernel), List.mem_of_getElem? (i := 977) (by decide +kernel), List.mem_of_getElem? (i := 978) (by decide +kernel)⟩
theorem lw_p31 : lw_okq (⟨"BathNightModel", "hasBath", "(IZ)Z"⟩, 36) := ⟨⟨by decide +kernel, by decide +kernel⟩, List.mem_of_getElem? (i := 770) (by decide +kernel), List.mem_of_getElem? (i := 985) (by decide +kernel), List.mem_of_getElem? (i := 986) (by decide +kernel)⟩
def lw_privs_2 : List (MethodName × Nat) := [(⟨"BathNightModel", "isRead", "()Z"⟩, 36), (⟨"BathNightModel", "isItem", "(Z)Z"⟩, 36), (⟨"BathNightModel", "byteNow", "()I"⟩, 36), (⟨"BathNightModel", "isPut", "(IIII)Z"⟩, 36), (⟨"BathNightModel", "isNumber", "(III)Z"⟩, 36), (⟨"BathNightModel", "isFire", "()Z"⟩, 36), (⟨"BathNightModel", "isBather", "()Z"⟩, 36), (⟨"BathNightModel", "isPair", "(I)Z"⟩, 36), (⟨"BathNightModel", "isBatherOf", "(I)Z"⟩, 36), (⟨"BathNightModel", "many", "()I"⟩, 36), (⟨"BathNightModel", "of", "(II)I"⟩, 36), (⟨"BathNightModel", "holds", "()I"⟩, 36), (⟨"BathNightModel", "fill", "()V"⟩, 36), (⟨"BathNightModel", "unitsOf", "(II)I"⟩, 36), (⟨"BathNightModel", "draw", "(I)V"⟩, 36), (⟨"BathNightModel", "hasBath", "(IZ)Z"⟩, 36)]
theorem lw_r2 : ∀ q ∈ lw_privs_2, lw_okq q := List.forall_mem_cons.mpr ⟨lw_p16, List.forall_mem_cons.mpr ⟨lw_p17, List.forall_mem_cons.mpr ⟨lw_p18, List.forall_mem_cons.mpr ⟨lw_p19, List.forall_mem_cons.mpr ⟨lw_p20, List.forall_mem_cons.mpr ⟨lw_p21, List.forall_mem_cons.mpr ⟨lw_p22, List.forall_mem_cons.mpr ⟨lw_p23, List.forall_mem_cons.mpr ⟨lw_p24, List.forall_mem_cons.mpr ⟨lw_p25, List.forall_mem_cons.mpr ⟨lw_p26, List.forall_mem_cons.mpr ⟨lw_p27, List.forall_mem_cons.mpr ⟨lw_p28, List.forall_mem_cons.mpr ⟨lw_p29, List.forall_mem_cons.mpr ⟨lw_p30, List.forall_mem_cons.mpr ⟨lw_p31, fun _ h => absurd h List.not_mem_nil⟩⟩⟩⟩⟩⟩⟩⟩⟩⟩⟩⟩⟩⟩⟩⟩
theorem lw_p32 : lw_okq (⟨"BathNightModel", "scoreOf", "(I)I"⟩, 36) := ⟨⟨by decide +kernel, by decide +kernel⟩, List.mem_of_getElem? (i := 770) (by decide +kernel), List.mem_of_getElem? (i := 1009) (by decide +kernel), List.mem_of_getElem? (i := 1010) (by decide +kernel)⟩
theorem lw_p33 : lw_okq (⟨"BathNightModel", "asTold", "()V"⟩, 36) := ⟨⟨by decide +kernel, by decide +kernel⟩, List.mem_of_getElem? (i := 770) (by decide +kernel), List.mem_of_getElem? (i := 1013) (by decide +kernel), List.mem_of_getElem? (i := 1014) (by decide +kernel)⟩
theorem lw_p34 : lw_okq (⟨"BathNightModel", "goThrough", "(IJI)I"⟩, 36) := ⟨⟨by decide +kernel, by decide +kernel⟩, List.mem_of_getElem? (i := 770) (by decide +kernel), List.mem_of_getElem? (i := 1017) (by decide +kernel), List.mem_of_getElem? (i := 1018) (by decide +kernel)⟩
theorem lw_p35 : lw_okq (⟨"BathNightModel", "chosen", "(IIII)I"⟩, 36) := ⟨⟨by decide +kernel, by decide +kernel⟩, List.mem_of_getElem? (i := 770) (by decide +kernel), List.mem_of_getElem? (i := 1021) (by decide +kernel), List.mem_of_getElem? (i := 1022) (by decide +kernel)⟩
theorem lw_p36 : lw_okq (⟨"BathNightModel", "canGo", "(III)Z"⟩, 36) := ⟨⟨by decide +kernel, by decide +kernel⟩, List.mem_of_getElem? (i := 770) (by decide +kernel), List.mem_of_getElem? (i := 1025) (by decide +kernel), List.mem_of_getElem? (i := 1026) (by decide +kernel)⟩
theorem lw_p37 : lw_okq (⟨"BathNightModel", "warm", "()V"⟩, 36) := ⟨⟨by decide +kernel, by decide +kernel⟩, List.mem_of_getElem? (i := 770) (by decide +kernel), List.mem_of_getElem? (i := 1029) (by decide +kernel), List.mem_of_getElem? (i := 1030) (by decide +kernel)⟩
theorem lw_p38 : lw_okq (⟨"BathNightModel", "scoreNow", "()I"⟩, 36) := ⟨⟨by decide +kernel, by decide +kernel⟩, List.mem_of_getElem? (i := 770) (by decide +kernel), List.mem_of_getElem? (i := 1033) (by decide +kernel), List.mem_of_getElem? (i := 1034) (by decide +kernel)⟩
theorem lw_p39 : lw_okq (⟨"BathNightModel", "lateNow", "()I"⟩, 36) := ⟨⟨by decide +kernel, by decide +kernel⟩, List.mem_of_getElem? (i := 770) (by decide +kernel), List.mem_of_getElem? (i := 1037) (by decide +kernel), List.mem_of_getElem? (i := 1038) (by decide +kernel)⟩
theorem lw_p40 : lw_okq (⟨"BathNightModel", "doneNow", "()I"⟩, 36) := ⟨⟨by decide +kernel, by decide +kernel⟩, List.mem_of_getElem? (i := 770) (by decide +kernel), List.mem_of_getElem? (i := 1041) (by decide +kernel), List.mem_of_getElem? (i := 1042) (by decide +kernel)⟩
theorem lw_p41 : lw_okq (⟨"BathNightModel", "turns", "()Z"⟩, 36) := ⟨⟨by decide +kernel, by decide +kernel⟩, List.mem_of_getElem? (i := 770) (by decide +kernel), List.mem_of_getElem? (i := 1057) (by decide +kernel), List.mem_of_getElem? (i := 1058) (by decide +kernel)⟩
theorem lw_p42 : lw_okq (⟨"BathNightModel", "change", "(I)V"⟩, 36) := ⟨⟨by decide +kernel, by decide +kernel⟩, List.mem_of_getElem? (i := 770) (by decide +kernel), List.mem_of_getElem? (i := 1065) (by decide +kernel), List.mem_of_getElem? (i := 1066) (by decide +kernel)⟩
theorem lw_p43 : lw_okq (⟨"BathNightModel", "isNobodyLate", "(IJ)Z"⟩, 36) := ⟨⟨by decide +kernel, by decide +kernel⟩, List.mem_of_getElem? (i := 770) (by decide +kernel), List.mem_of_getElem? (i := 1077) (by decide +kernel), List.mem_of_getElem? (i := 1078) (by decide +kernel)⟩
theorem lw_p44 : lw_okq (⟨"BathNightModel", "grief", "(I)I"⟩, 36) := ⟨⟨by decide +kernel, by decide +kernel⟩, List.mem_of_getElem? (i := 770) (by decide +kernel), List.mem_of_getElem? (i := 1101) (by decide +kernel), List.mem_of_getElem? (i := 1102) (by decide +kernel)⟩
def lw_privs_3 : List (MethodName × Nat) := [(⟨"BathNightModel", "scoreOf", "(I)I"⟩, 36), (⟨"BathNightModel", "asTold", "()V"⟩, 36), (⟨"BathNightModel", "goThrough", "(IJI)I"⟩, 36), (⟨"BathNightModel", "chosen", "(IIII)I"⟩, 36), (⟨"BathNightModel", "canGo", "(III)Z"⟩, 36), (⟨"BathNightModel", "warm", "()V"⟩, 36), (⟨"BathNightModel", "scoreNow", "()I"⟩, 36), (⟨"BathNightModel", "lateNow", "()I"⟩, 36), (⟨"BathNightModel", "doneNow", "()I"⟩, 36), (⟨"BathNightModel", "turns", "()Z"⟩, 36), (⟨"BathNightModel", "change", "(I)V"⟩, 36), (⟨"BathNightModel", "isNobodyLate", "(IJ)Z"⟩, 36), (⟨"BathNightModel", "grief", "(I)I"⟩, 36)]
theorem lw_r3 : ∀ q ∈ lw_privs_3, lw_okq q := List.forall_mem_cons.mpr ⟨lw_p32, List.forall_mem_cons.mpr ⟨lw_p33, List.forall_mem_cons.mpr ⟨lw_p34, List.forall_mem_cons.mpr ⟨lw_p35, List.forall_mem_cons.mpr ⟨lw_p36, List.forall_mem_cons.mpr ⟨lw_p37, List.forall_mem_cons.mpr ⟨lw_p38, List.forall_mem_cons.mpr ⟨lw_p39, List.forall_mem_cons.mpr ⟨lw_p40, List.forall_mem_cons.mpr ⟨lw_p41, List.forall_mem_cons.mpr ⟨lw_p42, List.forall_mem_cons.mpr ⟨lw_p43, List.forall_mem_cons.mpr ⟨lw_p44, fun _ h => absurd h List.not_mem_nil⟩⟩⟩⟩⟩⟩⟩⟩⟩⟩⟩⟩⟩
def lw_privs : List (MethodName × Nat) := lw_privs_1 ++ (lw_privs_2 ++ (lw_privs_3))
def lw_tbl : List Cond := k2_sels lw_privs ++ tables_1
theorem lw_privs_ok : ∀ q ∈ lw_privs, lw_okq q := by
  show ∀ q ∈ lw_privs_1 ++ (lw_privs_2 ++ (lw_privs_3)), lw_okq q
  exact List.forall_mem_append.mpr ⟨lw_r1, List.forall_mem_append.mpr ⟨lw_r2, lw_r3⟩⟩
def RX0 : String := "BathNight$Asked"
def TX0 : u_T := fun k => match k with
  | 0 => ("BathNight$Asked", "rule", "I", false)
  | 1 => ("BathNight$Asked", "hot", "I", false)
  | 2 => ("BathNight$Asked", "fires", "I", false)
  | 3 => ("BathNight$Asked", "plan", "J", false)
  | 4 => ("BathNight$Asked", "row", "[I", true)
  | 5 => ("BathNight$Asked", "tapFrom", "I", false)
  | 6 => ("BathNight$Asked", "tapSteps", "I", false)
  | _ => ("BathNight$Asked", "tapPints", "I", false)
def tyX0 : Nat → FieldType := fun k => match k with
  | 0 => .int
  | 1 => .int
  | 2 => .int
  | 3 => .long
  | 4 => .array .int
  | 5 => .int
  | 6 => .int
  | _ => .int
abbrev wsX00 : List Cond := u_ws RX0 TX0 8
theorem nmX0 : ∀ a, a < 8 → ∀ b, b < 8 → a ≠ b → (TX0 a).2.1 ≠ (TX0 b).2.1 := by decide +kernel
theorem tyX0_ok : ∀ k, k < 8 → parseFieldDescriptor (TX0 k).2.2.1 = some (tyX0 k) := by decide +kernel
abbrev cX0_init : ByteArray := prog_2_method_1_code
def yX0_init : MethodName := ⟨RX0, "<init>", "()V"⟩
abbrev cX0_become : ByteArray := prog_2_method_2_code
def yX0_become : MethodName := ⟨RX0, "become", "(ILBathNight$Wishes;I)V"⟩
abbrev cX0_copyRowTo : ByteArray := prog_2_method_3_code
def yX0_copyRowTo : MethodName := ⟨RX0, "copyRowTo", "([I)V"⟩
abbrev cX0_rowByNumbers : ByteArray := prog_2_method_4_code
def yX0_rowByNumbers : MethodName := ⟨RX0, "rowByNumbers", "()V"⟩
abbrev cX0_changePlaces : ByteArray := prog_2_method_5_code
def yX0_changePlaces : MethodName := ⟨RX0, "changePlaces", "(II)V"⟩
abbrev cX0_nextRow : ByteArray := prog_2_method_6_code
def yX0_nextRow : MethodName := ⟨RX0, "nextRow", "(I)Z"⟩
abbrev cX0_placeInRow : ByteArray := prog_2_method_7_code
def yX0_placeInRow : MethodName := ⟨RX0, "placeInRow", "(I)I"⟩
abbrev cX0_plansFor : ByteArray := prog_2_method_8_code
def yX0_plansFor : MethodName := ⟨RX0, "plansFor", "(I)Z"⟩
abbrev cX0_tapsAt : ByteArray := prog_2_method_9_code
def yX0_tapsAt : MethodName := ⟨RX0, "tapsAt", "(I)Z"⟩
abbrev cX0_prefers : ByteArray := prog_2_method_10_code
def yX0_prefers : MethodName := ⟨RX0, "prefers", "(LBathNight$Bather;LBathNight$Bather;)Z"⟩
def RX1 : String := "BathNight$Bath"
def TX1 : u_T := fun k => match k with
  | 0 => ("BathNight$Bath", "pints", "I", false)
  | 1 => ("BathNight$Bath", "heat", "I", false)
  | 2 => ("BathNight$Bath", "kettle", "I", false)
  | _ => ("BathNight$Bath", "usedWater", "Z", false)
def tyX1 : Nat → FieldType := fun k => match k with
  | 0 => .int
  | 1 => .int
  | 2 => .int
  | _ => .boolean
abbrev wsX10 : List Cond := u_ws RX1 TX1 4
theorem nmX1 : ∀ a, a < 4 → ∀ b, b < 4 → a ≠ b → (TX1 a).2.1 ≠ (TX1 b).2.1 := by decide +kernel
theorem tyX1_ok : ∀ k, k < 4 → parseFieldDescriptor (TX1 k).2.2.1 = some (tyX1 k) := by decide +kernel
abbrev cX1_init : ByteArray := prog_3_method_1_code
def yX1_init : MethodName := ⟨RX1, "<init>", "()V"⟩
abbrev cX1_isLeftBy : ByteArray := prog_3_method_2_code
def yX1_isLeftBy : MethodName := ⟨RX1, "isLeftBy", "(LBathNight$Bather;LBathNight$Bather;I)Z"⟩
abbrev cX1_comesFrom : ByteArray := prog_3_method_3_code
def yX1_comesFrom : MethodName := ⟨RX1, "comesFrom", "(LBathNight$Tank;LBathNight$Bather;I)Z"⟩
def RX2 : String := "BathNight$Bather"
def TX2 : u_T := fun k => match k with
  | 0 => ("BathNight$Bather", "bit", "I", true)
  | 1 => ("BathNight$Bather", "pints", "I", false)
  | 2 => ("BathNight$Bather", "coolest", "I", false)
  | 3 => ("BathNight$Bather", "hottest", "I", false)
  | 4 => ("BathNight$Bather", "stays", "I", false)
  | 5 => ("BathNight$Bather", "from", "I", false)
  | 6 => ("BathNight$Bather", "until", "I", false)
  | 7 => ("BathNight$Bather", "after", "I", false)
  | 8 => ("BathNight$Bather", "waterOf", "I", false)
  | 9 => ("BathNight$Bather", "comes", "I", false)
  | 10 => ("BathNight$Bather", "went", "I", false)
  | 11 => ("BathNight$Bather", "done", "I", false)
  | 12 => ("BathNight$Bather", "heat", "I", false)
  | _ => ("BathNight$Bather", "drew", "I", false)
def tyX2 : Nat → FieldType := fun k => match k with
  | 0 => .int
  | 1 => .int
  | 2 => .int
  | 3 => .int
  | 4 => .int
  | 5 => .int
  | 6 => .int
  | 7 => .int
  | 8 => .int
  | 9 => .int
  | 10 => .int
  | 11 => .int
  | 12 => .int
  | _ => .int
abbrev wsX20 : List Cond := u_ws RX2 TX2 14
theorem nmX2 : ∀ a, a < 14 → ∀ b, b < 14 → a ≠ b → (TX2 a).2.1 ≠ (TX2 b).2.1 := by decide +kernel
theorem tyX2_ok : ∀ k, k < 14 → parseFieldDescriptor (TX2 k).2.2.1 = some (tyX2 k) := by decide +kernel
abbrev cX2_init : ByteArray := prog_4_method_1_code
def yX2_init : MethodName := ⟨RX2, "<init>", "(I)V"⟩
abbrev cX2_become : ByteArray := prog_4_method_2_code
def yX2_become : MethodName := ⟨RX2, "become", "(LBathNight$Item;)V"⟩
abbrev cX2_becomeLike : ByteArray := prog_4_method_3_code
def yX2_becomeLike : MethodName := ⟨RX2, "becomeLike", "(LBathNight$Bather;)V"⟩
abbrev cX2_toldOf : ByteArray := prog_4_method_4_code
def yX2_toldOf : MethodName := ⟨RX2, "toldOf", "(I)I"⟩
abbrev cX2_isNotInYet : ByteArray := prog_4_method_5_code
def yX2_isNotInYet : MethodName := ⟨RX2, "isNotInYet", "()V"⟩
def RX3 : String := "BathNight$Evening"
def TX3 : u_T := fun k => match k with
  | 0 => ("BathNight$Evening", "tank", "LBathNight$Tank;", true)
  | 1 => ("BathNight$Evening", "fire", "LBathNight$Fire;", true)
  | 2 => ("BathNight$Evening", "bath", "LBathNight$Bath;", true)
  | 3 => ("BathNight$Evening", "kettleAge", "I", false)
  | 4 => ("BathNight$Evening", "last", "LBathNight$Bather;", false)
  | 5 => ("BathNight$Evening", "freeFrom", "I", false)
  | 6 => ("BathNight$Evening", "wereIn", "I", false)
  | _ => ("BathNight$Evening", "nextOfRow", "I", false)
def tyX3 : Nat → FieldType := fun k => match k with
  | 0 => .object "BathNight$Tank"
  | 1 => .object "BathNight$Fire"
  | 2 => .object "BathNight$Bath"
  | 3 => .int
  | 4 => .object "BathNight$Bather"
  | 5 => .int
  | 6 => .int
  | _ => .int
abbrev wsX30 : List Cond := u_ws RX3 TX3 8
theorem nmX3 : ∀ a, a < 8 → ∀ b, b < 8 → a ≠ b → (TX3 a).2.1 ≠ (TX3 b).2.1 := by decide +kernel
theorem tyX3_ok : ∀ k, k < 8 → parseFieldDescriptor (TX3 k).2.2.1 = some (tyX3 k) := by decide +kernel
abbrev cX3_init : ByteArray := prog_5_method_1_code
def yX3_init : MethodName := ⟨RX3, "<init>", "()V"⟩
abbrev cX3_run : ByteArray := prog_5_method_2_code
def yX3_run : MethodName := ⟨RX3, "run", "(LBathNight$House;LBathNight$Asked;)I"⟩
abbrev cX3_begin : ByteArray := prog_5_method_3_code
def yX3_begin : MethodName := ⟨RX3, "begin", "(LBathNight$House;I)V"⟩
abbrev cX3_chosen : ByteArray := prog_5_method_4_code
def yX3_chosen : MethodName := ⟨RX3, "chosen", "(LBathNight$House;LBathNight$Asked;I)LBathNight$Bather;"⟩
abbrev cX3_can : ByteArray := prog_5_method_5_code
def yX3_can : MethodName := ⟨RX3, "can", "(LBathNight$House;LBathNight$Bather;I)Z"⟩
abbrev cX3_goesIn : ByteArray := prog_5_method_6_code
def yX3_goesIn : MethodName := ⟨RX3, "goesIn", "(LBathNight$House;LBathNight$Bather;I)V"⟩
def RX4 : String := "BathNight$Fire"
def TX4 : u_T := fun k => match k with
  | 0 => ("BathNight$Fire", "stage", "I", false)
  | 1 => ("BathNight$Fire", "age", "I", false)
  | _ => ("BathNight$Fire", "times", "I", false)
def tyX4 : Nat → FieldType := fun k => match k with
  | 0 => .int
  | 1 => .int
  | _ => .int
abbrev wsX40 : List Cond := u_ws RX4 TX4 3
theorem nmX4 : ∀ a, a < 3 → ∀ b, b < 3 → a ≠ b → (TX4 a).2.1 ≠ (TX4 b).2.1 := by decide +kernel
theorem tyX4_ok : ∀ k, k < 3 → parseFieldDescriptor (TX4 k).2.2.1 = some (tyX4 k) := by decide +kernel
abbrev cX4_init : ByteArray := prog_6_method_1_code
def yX4_init : MethodName := ⟨RX4, "<init>", "()V"⟩
abbrev cX4_begin : ByteArray := prog_6_method_2_code
def yX4_begin : MethodName := ⟨RX4, "begin", "(I)V"⟩
abbrev cX4_makeUp : ByteArray := prog_6_method_3_code
def yX4_makeUp : MethodName := ⟨RX4, "makeUp", "()V"⟩
abbrev cX4_gives : ByteArray := prog_6_method_4_code
def yX4_gives : MethodName := ⟨RX4, "gives", "(LBathNight$House;)I"⟩
abbrev cX4_getOlder : ByteArray := prog_6_method_5_code
def yX4_getOlder : MethodName := ⟨RX4, "getOlder", "(LBathNight$House;)V"⟩
def RX5 : String := "BathNight$House"
def TX5 : u_T := fun k => match k with
  | 0 => ("BathNight$House", "tankTold", "Z", false)
  | 1 => ("BathNight$House", "layers", "I", false)
  | 2 => ("BathNight$House", "pints", "I", false)
  | 3 => ("BathNight$House", "cold", "I", false)
  | 4 => ("BathNight$House", "first", "I", false)
  | 5 => ("BathNight$House", "loses", "I", false)
  | 6 => ("BathNight$House", "stageGives", "[I", true)
  | 7 => ("BathNight$House", "stageLasts", "[I", true)
  | 8 => ("BathNight$House", "fires", "I", false)
  | 9 => ("BathNight$House", "kettle", "I", false)
  | 10 => ("BathNight$House", "kettleSteps", "I", false)
  | 11 => ("BathNight$House", "cools", "I", false)
  | 12 => ("BathNight$House", "steps", "I", false)
  | 13 => ("BathNight$House", "count", "I", false)
  | _ => ("BathNight$House", "bathers", "[LBathNight$Bather;", true)
def tyX5 : Nat → FieldType := fun k => match k with
  | 0 => .boolean
  | 1 => .int
  | 2 => .int
  | 3 => .int
  | 4 => .int
  | 5 => .int
  | 6 => .array .int
  | 7 => .array .int
  | 8 => .int
  | 9 => .int
  | 10 => .int
  | 11 => .int
  | 12 => .int
  | 13 => .int
  | _ => .array (.object "BathNight$Bather")
abbrev wsX50 : List Cond := u_ws RX5 TX5 15
theorem nmX5 : ∀ a, a < 15 → ∀ b, b < 15 → a ≠ b → (TX5 a).2.1 ≠ (TX5 b).2.1 := by decide +kernel
theorem tyX5_ok : ∀ k, k < 15 → parseFieldDescriptor (TX5 k).2.2.1 = some (tyX5 k) := by decide +kernel
abbrev cX5_init : ByteArray := prog_7_method_1_code
def yX5_init : MethodName := ⟨RX5, "<init>", "()V"⟩
abbrev cX5_clear : ByteArray := prog_7_method_2_code
def yX5_clear : MethodName := ⟨RX5, "clear", "()V"⟩
abbrev cX5_becomeLike : ByteArray := prog_7_method_3_code
def yX5_becomeLike : MethodName := ⟨RX5, "becomeLike", "(LBathNight$House;)V"⟩
abbrev cX5_grow : ByteArray := prog_7_method_4_code
def yX5_grow : MethodName := ⟨RX5, "grow", "(I)V"⟩
abbrev cX5_who : ByteArray := prog_7_method_5_code
def yX5_who : MethodName := ⟨RX5, "who", "(I)LBathNight$Bather;"⟩
abbrev cX5_allComeAsTold : ByteArray := prog_7_method_6_code
def yX5_allComeAsTold : MethodName := ⟨RX5, "allComeAsTold", "()V"⟩
abbrev cX5_takes : ByteArray := prog_7_method_7_code
def yX5_takes : MethodName := ⟨RX5, "takes", "(LBathNight$Item;)Z"⟩
abbrev cX5_takesTank : ByteArray := prog_7_method_8_code
def yX5_takesTank : MethodName := ⟨RX5, "takesTank", "(LBathNight$Item;)Z"⟩
abbrev cX5_takesStage : ByteArray := prog_7_method_9_code
def yX5_takesStage : MethodName := ⟨RX5, "takesStage", "(LBathNight$Item;)Z"⟩
abbrev cX5_takesBather : ByteArray := prog_7_method_10_code
def yX5_takesBather : MethodName := ⟨RX5, "takesBather", "(LBathNight$Item;)Z"⟩
abbrev cX5_takesPair : ByteArray := prog_7_method_11_code
def yX5_takesPair : MethodName := ⟨RX5, "takesPair", "(LBathNight$Item;)Z"⟩
abbrev cX5_takesKettle : ByteArray := prog_7_method_12_code
def yX5_takesKettle : MethodName := ⟨RX5, "takesKettle", "(LBathNight$Item;)Z"⟩
abbrev cX5_takesNumber : ByteArray := prog_7_method_13_code
def yX5_takesNumber : MethodName := ⟨RX5, "takesNumber", "(LBathNight$Item;)Z"⟩
abbrev cX5_scoreOfEvening : ByteArray := prog_7_method_14_code
def yX5_scoreOfEvening : MethodName := ⟨RX5, "scoreOfEvening", "()I"⟩
def RX6 : String := "BathNight$Item"
def TX6 : u_T := fun k => match k with
  | 0 => ("BathNight$Item", "numbers", "[I", true)
  | 1 => ("BathNight$Item", "letter", "I", false)
  | _ => ("BathNight$Item", "many", "I", false)
def tyX6 : Nat → FieldType := fun k => match k with
  | 0 => .array .int
  | 1 => .int
  | _ => .int
abbrev wsX60 : List Cond := u_ws RX6 TX6 3
theorem nmX6 : ∀ a, a < 3 → ∀ b, b < 3 → a ≠ b → (TX6 a).2.1 ≠ (TX6 b).2.1 := by decide +kernel
theorem tyX6_ok : ∀ k, k < 3 → parseFieldDescriptor (TX6 k).2.2.1 = some (tyX6 k) := by decide +kernel
abbrev cX6_init : ByteArray := prog_8_method_1_code
def yX6_init : MethodName := ⟨RX6, "<init>", "()V"⟩
abbrev cX6_readFrom : ByteArray := prog_8_method_2_code
def yX6_readFrom : MethodName := ⟨RX6, "readFrom", "([BII)I"⟩
abbrev cX6_number : ByteArray := prog_8_method_3_code
def yX6_number : MethodName := ⟨RX6, "number", "(I)I"⟩
abbrev cX6_isWithin : ByteArray := prog_8_method_4_code
def yX6_isWithin : MethodName := ⟨RX6, "isWithin", "(III)Z"⟩
abbrev cX6_isOneWithin : ByteArray := prog_8_method_5_code
def yX6_isOneWithin : MethodName := ⟨RX6, "isOneWithin", "(II)Z"⟩
abbrev cX6_isPairOf : ByteArray := prog_8_method_6_code
def yX6_isPairOf : MethodName := ⟨RX6, "isPairOf", "(I)Z"⟩
def RX7 : String := "BathNight$Tank"
def TX7 : u_T := fun k => match k with
  | 0 => ("BathNight$Tank", "units", "[I", true)
  | 1 => ("BathNight$Tank", "layers", "I", false)
  | 2 => ("BathNight$Tank", "pints", "I", false)
  | _ => ("BathNight$Tank", "cold", "I", false)
def tyX7 : Nat → FieldType := fun k => match k with
  | 0 => .array .int
  | 1 => .int
  | 2 => .int
  | _ => .int
abbrev wsX70 : List Cond := u_ws RX7 TX7 4
theorem nmX7 : ∀ a, a < 4 → ∀ b, b < 4 → a ≠ b → (TX7 a).2.1 ≠ (TX7 b).2.1 := by decide +kernel
theorem tyX7_ok : ∀ k, k < 4 → parseFieldDescriptor (TX7 k).2.2.1 = some (tyX7 k) := by decide +kernel
abbrev cX7_init : ByteArray := prog_9_method_1_code
def yX7_init : MethodName := ⟨RX7, "<init>", "()V"⟩
abbrev cX7_fill : ByteArray := prog_9_method_2_code
def yX7_fill : MethodName := ⟨RX7, "fill", "(LBathNight$House;)V"⟩
abbrev cX7_holds : ByteArray := prog_9_method_3_code
def yX7_holds : MethodName := ⟨RX7, "holds", "()I"⟩
abbrev cX7_unitsIn : ByteArray := prog_9_method_4_code
def yX7_unitsIn : MethodName := ⟨RX7, "unitsIn", "(I)I"⟩
abbrev cX7_heatOf : ByteArray := prog_9_method_5_code
def yX7_heatOf : MethodName := ⟨RX7, "heatOf", "(I)I"⟩
abbrev cX7_unitsOfPart : ByteArray := prog_9_method_6_code
def yX7_unitsOfPart : MethodName := ⟨RX7, "unitsOfPart", "(II)I"⟩
abbrev cX7_unitsOfTop : ByteArray := prog_9_method_7_code
def yX7_unitsOfTop : MethodName := ⟨RX7, "unitsOfTop", "(I)I"⟩
abbrev cX7_draw : ByteArray := prog_9_method_8_code
def yX7_draw : MethodName := ⟨RX7, "draw", "(I)V"⟩
abbrev cX7_pintsFor : ByteArray := prog_9_method_9_code
def yX7_pintsFor : MethodName := ⟨RX7, "pintsFor", "(II)I"⟩
abbrev cX7_warm : ByteArray := prog_9_method_10_code
def yX7_warm : MethodName := ⟨RX7, "warm", "(I)V"⟩
abbrev cX7_lose : ByteArray := prog_9_method_11_code
def yX7_lose : MethodName := ⟨RX7, "lose", "(I)V"⟩
def RX8 : String := "BathNight$Wishes"
def TX8 : u_T := fun k => match k with
  | 0 => ("BathNight$Wishes", "row", "[I", true)
  | 1 => ("BathNight$Wishes", "hot", "I", false)
  | 2 => ("BathNight$Wishes", "plan", "J", false)
  | _ => ("BathNight$Wishes", "tenths", "[I", true)
def tyX8 : Nat → FieldType := fun k => match k with
  | 0 => .array .int
  | 1 => .int
  | 2 => .long
  | _ => .array .int
abbrev wsX80 : List Cond := u_ws RX8 TX8 4
theorem nmX8 : ∀ a, a < 4 → ∀ b, b < 4 → a ≠ b → (TX8 a).2.1 ≠ (TX8 b).2.1 := by decide +kernel
theorem tyX8_ok : ∀ k, k < 4 → parseFieldDescriptor (TX8 k).2.2.1 = some (tyX8 k) := by decide +kernel
abbrev cX8_init : ByteArray := prog_10_method_1_code
def yX8_init : MethodName := ⟨RX8, "<init>", "()V"⟩
abbrev cX8_clear : ByteArray := prog_10_method_2_code
def yX8_clear : MethodName := ⟨RX8, "clear", "()V"⟩
abbrev cX8_becomeLike : ByteArray := prog_10_method_3_code
def yX8_becomeLike : MethodName := ⟨RX8, "becomeLike", "(LBathNight$Wishes;)V"⟩
abbrev cX8_sumOfTenths : ByteArray := prog_10_method_4_code
def yX8_sumOfTenths : MethodName := ⟨RX8, "sumOfTenths", "()I"⟩
def RX9 : String := "BathNight"
def TX9 : u_T := fun k => match k with
  | 0 => ("BathNight", "text", "[B", true)
  | 1 => ("BathNight", "length", "I", false)
  | 2 => ("BathNight", "item", "LBathNight$Item;", true)
  | 3 => ("BathNight", "house", "LBathNight$House;", false)
  | 4 => ("BathNight", "spare", "LBathNight$House;", false)
  | 5 => ("BathNight", "wishes", "LBathNight$Wishes;", true)
  | 6 => ("BathNight", "kept", "[LBathNight$Wishes;", true)
  | 7 => ("BathNight", "keeps", "I", false)
  | 8 => ("BathNight", "asked", "LBathNight$Asked;", true)
  | 9 => ("BathNight", "night", "LBathNight$Evening;", true)
  | _ => ("BathNight", "bestRow", "[I", true)
def tyX9 : Nat → FieldType := fun k => match k with
  | 0 => .array .byte
  | 1 => .int
  | 2 => .object "BathNight$Item"
  | 3 => .object "BathNight$House"
  | 4 => .object "BathNight$House"
  | 5 => .object "BathNight$Wishes"
  | 6 => .array (.object "BathNight$Wishes")
  | 7 => .int
  | 8 => .object "BathNight$Asked"
  | 9 => .object "BathNight$Evening"
  | _ => .array .int
abbrev wsX90 : List Cond := u_ws RX9 TX9 11
theorem nmX9 : ∀ a, a < 11 → ∀ b, b < 11 → a ≠ b → (TX9 a).2.1 ≠ (TX9 b).2.1 := by decide +kernel
theorem tyX9_ok : ∀ k, k < 11 → parseFieldDescriptor (TX9 k).2.2.1 = some (tyX9 k) := by decide +kernel
abbrev cX9_init : ByteArray := prog_1_method_1_code
def yX9_init : MethodName := ⟨RX9, "<init>", "()V"⟩
abbrev cX9_write : ByteArray := prog_1_method_2_code
def yX9_write : MethodName := ⟨RX9, "write", "(IJ)I"⟩
abbrev cX9_wipe : ByteArray := prog_1_method_3_code
def yX9_wipe : MethodName := ⟨RX9, "wipe", "()I"⟩
abbrev cX9_fault : ByteArray := prog_1_method_4_code
def yX9_fault : MethodName := ⟨RX9, "fault", "()I"⟩
abbrev cX9_lay : ByteArray := prog_1_method_5_code
def yX9_lay : MethodName := ⟨RX9, "lay", "()I"⟩
abbrev cX9_bather : ByteArray := prog_1_method_6_code
def yX9_bather : MethodName := ⟨RX9, "bather", "(II)I"⟩
abbrev cX9_drawn : ByteArray := prog_1_method_7_code
def yX9_drawn : MethodName := ⟨RX9, "drawn", "(II)I"⟩
abbrev cX9_bath : ByteArray := prog_1_method_8_code
def yX9_bath : MethodName := ⟨RX9, "bath", "(IZI)I"⟩
abbrev cX9_row : ByteArray := prog_1_method_9_code
def yX9_row : MethodName := ⟨RX9, "row", "(II)I"⟩
abbrev cX9_hot : ByteArray := prog_1_method_10_code
def yX9_hot : MethodName := ⟨RX9, "hot", "(I)I"⟩
abbrev cX9_plan : ByteArray := prog_1_method_11_code
def yX9_plan : MethodName := ⟨RX9, "plan", "(IZ)I"⟩
abbrev cX9_evening : ByteArray := prog_1_method_12_code
def yX9_evening : MethodName := ⟨RX9, "evening", "(III)I"⟩
abbrev cX9_score : ByteArray := prog_1_method_13_code
def yX9_score : MethodName := ⟨RX9, "score", "(II)I"⟩
abbrev cX9_left : ByteArray := prog_1_method_14_code
def yX9_left : MethodName := ⟨RX9, "left", "(II)I"⟩
abbrev cX9_best : ByteArray := prog_1_method_15_code
def yX9_best : MethodName := ⟨RX9, "best", "(I)I"⟩
abbrev cX9_swapped : ByteArray := prog_1_method_16_code
def yX9_swapped : MethodName := ⟨RX9, "swapped", "()I"⟩
abbrev cX9_when : ByteArray := prog_1_method_17_code
def yX9_when : MethodName := ⟨RX9, "when", "(II)I"⟩
abbrev cX9_fewest : ByteArray := prog_1_method_18_code
def yX9_fewest : MethodName := ⟨RX9, "fewest", "(II)I"⟩
abbrev cX9_bigger : ByteArray := prog_1_method_19_code
def yX9_bigger : MethodName := ⟨RX9, "bigger", "(II)I"⟩
abbrev cX9_tap : ByteArray := prog_1_method_20_code
def yX9_tap : MethodName := ⟨RX9, "tap", "(IIII)I"⟩
abbrev cX9_tenths : ByteArray := prog_1_method_21_code
def yX9_tenths : MethodName := ⟨RX9, "tenths", "(II)I"⟩
abbrev cX9_told : ByteArray := prog_1_method_22_code
def yX9_told : MethodName := ⟨RX9, "told", "(III)I"⟩
abbrev cX9_looks : ByteArray := prog_1_method_23_code
def yX9_looks : MethodName := ⟨RX9, "looks", "(I)I"⟩
abbrev cX9_keep : ByteArray := prog_1_method_24_code
def yX9_keep : MethodName := ⟨RX9, "keep", "()I"⟩
abbrev cX9_back : ByteArray := prog_1_method_25_code
def yX9_back : MethodName := ⟨RX9, "back", "()I"⟩
abbrev cX9_count : ByteArray := prog_1_method_26_code
def yX9_count : MethodName := ⟨RX9, "count", "(I)I"⟩
abbrev cX9_isRule : ByteArray := prog_1_method_27_code
def yX9_isRule : MethodName := ⟨RX9, "isRule", "(I)Z"⟩
abbrev cX9_ask : ByteArray := prog_1_method_28_code
def yX9_ask : MethodName := ⟨RX9, "ask", "(I)V"⟩
abbrev cX9_nobodyLate : ByteArray := prog_1_method_29_code
def yX9_nobodyLate : MethodName := ⟨RX9, "nobodyLate", "(J)Z"⟩
abbrev cX9_sumToldAt : ByteArray := prog_1_method_30_code
def yX9_sumToldAt : MethodName := ⟨RX9, "sumToldAt", "(LBathNight$Bather;I)I"⟩
abbrev cX9_bestToCome : ByteArray := prog_1_method_31_code
def yX9_bestToCome : MethodName := ⟨RX9, "bestToCome", "(LBathNight$Bather;)I"⟩
def RX10 : String := "BathNightModel"
def TX10 : u_T := fun k => match k with
  | 0 => ("BathNightModel", "bytes", "I", false)
  | 1 => ("BathNightModel", "text", "[I", true)
  | 2 => ("BathNightModel", "position", "I", false)
  | 3 => ("BathNightModel", "begin", "I", false)
  | 4 => ("BathNightModel", "number", "I", false)
  | 5 => ("BathNightModel", "read", "[I", true)
  | 6 => ("BathNightModel", "house", "[I", true)
  | 7 => ("BathNightModel", "row", "[I", true)
  | 8 => ("BathNightModel", "hot", "I", false)
  | 9 => ("BathNightModel", "plan", "J", false)
  | 10 => ("BathNightModel", "tenths", "[I", true)
  | 11 => ("BathNightModel", "keeps", "I", false)
  | 12 => ("BathNightModel", "keptRow", "[I", true)
  | 13 => ("BathNightModel", "keptHot", "[I", true)
  | 14 => ("BathNightModel", "keptPlan", "[J", true)
  | 15 => ("BathNightModel", "keptTenths", "[I", true)
  | 16 => ("BathNightModel", "units", "[I", true)
  | 17 => ("BathNightModel", "then", "[I", true)
  | 18 => ("BathNightModel", "comes", "[I", true)
  | 19 => ("BathNightModel", "wentIn", "[I", true)
  | 20 => ("BathNightModel", "isDone", "[I", true)
  | 21 => ("BathNightModel", "heat", "[I", true)
  | 22 => ("BathNightModel", "took", "[I", true)
  | 23 => ("BathNightModel", "order", "[I", true)
  | 24 => ("BathNightModel", "stage", "I", false)
  | 25 => ("BathNightModel", "lasts", "I", false)
  | 26 => ("BathNightModel", "fires", "I", false)
  | 27 => ("BathNightModel", "putOn", "I", false)
  | 28 => ("BathNightModel", "tapFrom", "I", false)
  | 29 => ("BathNightModel", "tapSteps", "I", false)
  | 30 => ("BathNightModel", "tapPints", "I", false)
  | 31 => ("BathNightModel", "bathPints", "I", false)
  | 32 => ("BathNightModel", "bathHeat", "I", false)
  | 33 => ("BathNightModel", "isUsed", "Z", false)
  | 34 => ("BathNightModel", "best", "[I", true)
  | _ => ("BathNightModel", "late", "[I", true)
def tyX10 : Nat → FieldType := fun k => match k with
  | 0 => .int
  | 1 => .array .int
  | 2 => .int
  | 3 => .int
  | 4 => .int
  | 5 => .array .int
  | 6 => .array .int
  | 7 => .array .int
  | 8 => .int
  | 9 => .long
  | 10 => .array .int
  | 11 => .int
  | 12 => .array .int
  | 13 => .array .int
  | 14 => .array .long
  | 15 => .array .int
  | 16 => .array .int
  | 17 => .array .int
  | 18 => .array .int
  | 19 => .array .int
  | 20 => .array .int
  | 21 => .array .int
  | 22 => .array .int
  | 23 => .array .int
  | 24 => .int
  | 25 => .int
  | 26 => .int
  | 27 => .int
  | 28 => .int
  | 29 => .int
  | 30 => .int
  | 31 => .int
  | 32 => .int
  | 33 => .boolean
  | 34 => .array .int
  | _ => .array .int
abbrev wsX100 : List Cond := u_ws RX10 TX10 36
theorem nmX10 : ∀ a, a < 36 → ∀ b, b < 36 → a ≠ b → (TX10 a).2.1 ≠ (TX10 b).2.1 := by decide +kernel
theorem tyX10_ok : ∀ k, k < 36 → parseFieldDescriptor (TX10 k).2.2.1 = some (tyX10 k) := by decide +kernel
abbrev cX10_init : ByteArray := prog_12_method_1_code
def yX10_init : MethodName := ⟨RX10, "<init>", "()V"⟩
abbrev cX10_firstHouse : ByteArray := prog_12_method_2_code
def yX10_firstHouse : MethodName := ⟨RX10, "firstHouse", "([I)V"⟩
abbrev cX10_layDown : ByteArray := prog_12_method_3_code
def yX10_layDown : MethodName := ⟨RX10, "layDown", "()V"⟩
abbrev cX10_in : ByteArray := prog_12_method_4_code
def yX10_in : MethodName := ⟨RX10, "in", "(III)Z"⟩
abbrev cX10_write : ByteArray := prog_12_method_5_code
def yX10_write : MethodName := ⟨RX10, "write", "(IJ)I"⟩
abbrev cX10_wipe : ByteArray := prog_12_method_6_code
def yX10_wipe : MethodName := ⟨RX10, "wipe", "()I"⟩
abbrev cX10_byteNow : ByteArray := prog_12_method_7_code
def yX10_byteNow : MethodName := ⟨RX10, "byteNow", "()I"⟩
abbrev cX10_isNumber : ByteArray := prog_12_method_8_code
def yX10_isNumber : MethodName := ⟨RX10, "isNumber", "(III)Z"⟩
abbrev cX10_isPut : ByteArray := prog_12_method_9_code
def yX10_isPut : MethodName := ⟨RX10, "isPut", "(IIII)Z"⟩
abbrev cX10_isBather : ByteArray := prog_12_method_10_code
def yX10_isBather : MethodName := ⟨RX10, "isBather", "()Z"⟩
abbrev cX10_isPair : ByteArray := prog_12_method_11_code
def yX10_isPair : MethodName := ⟨RX10, "isPair", "(I)Z"⟩
abbrev cX10_isFire : ByteArray := prog_12_method_12_code
def yX10_isFire : MethodName := ⟨RX10, "isFire", "()Z"⟩
abbrev cX10_isItem : ByteArray := prog_12_method_13_code
def yX10_isItem : MethodName := ⟨RX10, "isItem", "(Z)Z"⟩
abbrev cX10_isRead : ByteArray := prog_12_method_14_code
def yX10_isRead : MethodName := ⟨RX10, "isRead", "()Z"⟩
abbrev cX10_fault : ByteArray := prog_12_method_15_code
def yX10_fault : MethodName := ⟨RX10, "fault", "()I"⟩
abbrev cX10_lay : ByteArray := prog_12_method_16_code
def yX10_lay : MethodName := ⟨RX10, "lay", "()I"⟩
abbrev cX10_many : ByteArray := prog_12_method_17_code
def yX10_many : MethodName := ⟨RX10, "many", "()I"⟩
abbrev cX10_isBatherOf : ByteArray := prog_12_method_18_code
def yX10_isBatherOf : MethodName := ⟨RX10, "isBatherOf", "(I)Z"⟩
abbrev cX10_of : ByteArray := prog_12_method_19_code
def yX10_of : MethodName := ⟨RX10, "of", "(II)I"⟩
abbrev cX10_bather : ByteArray := prog_12_method_20_code
def yX10_bather : MethodName := ⟨RX10, "bather", "(II)I"⟩
abbrev cX10_holds : ByteArray := prog_12_method_21_code
def yX10_holds : MethodName := ⟨RX10, "holds", "()I"⟩
abbrev cX10_fill : ByteArray := prog_12_method_22_code
def yX10_fill : MethodName := ⟨RX10, "fill", "()V"⟩
abbrev cX10_unitsOf : ByteArray := prog_12_method_23_code
def yX10_unitsOf : MethodName := ⟨RX10, "unitsOf", "(II)I"⟩
abbrev cX10_draw : ByteArray := prog_12_method_24_code
def yX10_draw : MethodName := ⟨RX10, "draw", "(I)V"⟩
abbrev cX10_drawn : ByteArray := prog_12_method_25_code
def yX10_drawn : MethodName := ⟨RX10, "drawn", "(II)I"⟩
abbrev cX10_hasBath : ByteArray := prog_12_method_26_code
def yX10_hasBath : MethodName := ⟨RX10, "hasBath", "(IZ)Z"⟩
abbrev cX10_bath : ByteArray := prog_12_method_27_code
def yX10_bath : MethodName := ⟨RX10, "bath", "(IZI)I"⟩
abbrev cX10_row : ByteArray := prog_12_method_28_code
def yX10_row : MethodName := ⟨RX10, "row", "(II)I"⟩
abbrev cX10_hot : ByteArray := prog_12_method_29_code
def yX10_hot : MethodName := ⟨RX10, "hot", "(I)I"⟩
abbrev cX10_plan : ByteArray := prog_12_method_30_code
def yX10_plan : MethodName := ⟨RX10, "plan", "(IZ)I"⟩
abbrev cX10_isRule : ByteArray := prog_12_method_31_code
def yX10_isRule : MethodName := ⟨RX10, "isRule", "(I)Z"⟩
abbrev cX10_canGo : ByteArray := prog_12_method_32_code
def yX10_canGo : MethodName := ⟨RX10, "canGo", "(III)Z"⟩
abbrev cX10_chosen : ByteArray := prog_12_method_33_code
def yX10_chosen : MethodName := ⟨RX10, "chosen", "(IIII)I"⟩
abbrev cX10_warm : ByteArray := prog_12_method_34_code
def yX10_warm : MethodName := ⟨RX10, "warm", "()V"⟩
abbrev cX10_goThrough : ByteArray := prog_12_method_35_code
def yX10_goThrough : MethodName := ⟨RX10, "goThrough", "(IJI)I"⟩
abbrev cX10_lateNow : ByteArray := prog_12_method_36_code
def yX10_lateNow : MethodName := ⟨RX10, "lateNow", "()I"⟩
abbrev cX10_doneNow : ByteArray := prog_12_method_37_code
def yX10_doneNow : MethodName := ⟨RX10, "doneNow", "()I"⟩
abbrev cX10_scoreNow : ByteArray := prog_12_method_38_code
def yX10_scoreNow : MethodName := ⟨RX10, "scoreNow", "()I"⟩
abbrev cX10_asTold : ByteArray := prog_12_method_39_code
def yX10_asTold : MethodName := ⟨RX10, "asTold", "()V"⟩
abbrev cX10_scoreOf : ByteArray := prog_12_method_40_code
def yX10_scoreOf : MethodName := ⟨RX10, "scoreOf", "(I)I"⟩
abbrev cX10_evening : ByteArray := prog_12_method_41_code
def yX10_evening : MethodName := ⟨RX10, "evening", "(III)I"⟩
abbrev cX10_score : ByteArray := prog_12_method_42_code
def yX10_score : MethodName := ⟨RX10, "score", "(II)I"⟩
abbrev cX10_left : ByteArray := prog_12_method_43_code
def yX10_left : MethodName := ⟨RX10, "left", "(II)I"⟩
abbrev cX10_turns : ByteArray := prog_12_method_44_code
def yX10_turns : MethodName := ⟨RX10, "turns", "()Z"⟩
abbrev cX10_best : ByteArray := prog_12_method_45_code
def yX10_best : MethodName := ⟨RX10, "best", "(I)I"⟩
abbrev cX10_change : ByteArray := prog_12_method_46_code
def yX10_change : MethodName := ⟨RX10, "change", "(I)V"⟩
abbrev cX10_swapped : ByteArray := prog_12_method_47_code
def yX10_swapped : MethodName := ⟨RX10, "swapped", "()I"⟩
abbrev cX10_when : ByteArray := prog_12_method_48_code
def yX10_when : MethodName := ⟨RX10, "when", "(II)I"⟩
abbrev cX10_isNobodyLate : ByteArray := prog_12_method_49_code
def yX10_isNobodyLate : MethodName := ⟨RX10, "isNobodyLate", "(IJ)Z"⟩
abbrev cX10_fewest : ByteArray := prog_12_method_50_code
def yX10_fewest : MethodName := ⟨RX10, "fewest", "(II)I"⟩
abbrev cX10_bigger : ByteArray := prog_12_method_51_code
def yX10_bigger : MethodName := ⟨RX10, "bigger", "(II)I"⟩
abbrev cX10_tap : ByteArray := prog_12_method_52_code
def yX10_tap : MethodName := ⟨RX10, "tap", "(IIII)I"⟩
abbrev cX10_tenths : ByteArray := prog_12_method_53_code
def yX10_tenths : MethodName := ⟨RX10, "tenths", "(II)I"⟩
abbrev cX10_told : ByteArray := prog_12_method_54_code
def yX10_told : MethodName := ⟨RX10, "told", "(III)I"⟩
abbrev cX10_grief : ByteArray := prog_12_method_55_code
def yX10_grief : MethodName := ⟨RX10, "grief", "(I)I"⟩
abbrev cX10_looks : ByteArray := prog_12_method_56_code
def yX10_looks : MethodName := ⟨RX10, "looks", "(I)I"⟩
abbrev cX10_keep : ByteArray := prog_12_method_57_code
def yX10_keep : MethodName := ⟨RX10, "keep", "()I"⟩
abbrev cX10_back : ByteArray := prog_12_method_58_code
def yX10_back : MethodName := ⟨RX10, "back", "()I"⟩
abbrev cX10_count : ByteArray := prog_12_method_59_code
def yX10_count : MethodName := ⟨RX10, "count", "(I)I"⟩
def RJ13 : String := "java/lang/Long"
abbrev cJ13_bitCount_95d88 : ByteArray := prog_13_method_50_code
def yJ13_bitCount_95d88 : MethodName := ⟨RJ13, "bitCount", "(J)I"⟩
def RJ9 : String := "java/lang/Math"
abbrev cJ9_max_7cf53 : ByteArray := prog_14_method_65_code
def yJ9_max_7cf53 : MethodName := ⟨RJ9, "max", "(II)I"⟩
abbrev cJ9_min_7cf53 : ByteArray := prog_14_method_69_code
def yJ9_min_7cf53 : MethodName := ⟨RJ9, "min", "(II)I"⟩
def RJ10 : String := "java/lang/System"
def RL : String := "BathNightLaw"
abbrev cL_law : ByteArray := code
def yL_law : MethodName := ⟨RL, "law", "([I)Z"⟩
abbrev vwCl : List vw_C := [(RX0, TX0, 8), (RX1, TX1, 4), (RX2, TX2, 14), (RX3, TX3, 8), (RX4, TX4, 3), (RX5, TX5, 15), (RX6, TX6, 3), (RX7, TX7, 4), (RX8, TX8, 4), (RX9, TX9, 11), (RX10, TX10, 36)]
