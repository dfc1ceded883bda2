/-! calls of the JDK, classes that are made, by program -/
theorem zq_max1 : Cond.static Lib.Math.max.name ∈ zx_G := zg_at (i := 543) (by decide +kernel) (by decide +kernel)
theorem zq_max2 : Cond.initialized "java/lang/Math" ∈ zx_G := zg_at (i := 57) (by decide +kernel) (by decide +kernel)
theorem zq_max3 : Cond.code Lib.Math.max.name Lib.Math.max.code 2 (some .int) ∈ zx_G := zg_at (i := 544) (by decide +kernel) (by decide +kernel)
theorem zq_min1 : Cond.static Lib.Math.min.name ∈ zx_G := zg_at (i := 540) (by decide +kernel) (by decide +kernel)
theorem zq_min2 : Cond.initialized "java/lang/Math" ∈ zx_G := zg_at (i := 57) (by decide +kernel) (by decide +kernel)
theorem zq_min3 : Cond.code Lib.Math.min.name Lib.Math.min.code 2 (some .int) ∈ zx_G := zg_at (i := 541) (by decide +kernel) (by decide +kernel)
theorem zq_cp1 : Cond.native arraycopyName ∈ zx_G := zg_at (i := 608) (by decide +kernel) (by decide +kernel)
theorem zq_cp2 : Cond.static arraycopyName ∈ zx_G := zg_at (i := 607) (by decide +kernel) (by decide +kernel)
theorem zq_cp3 : Cond.initialized "java/lang/System" ∈ zx_G := zg_at (i := 58) (by decide +kernel) (by decide +kernel)
theorem zq_oi1 : Cond.instanceMethod Lib.objectInit ∈ zx_G := zg_at (i := 66) (by decide +kernel) (by decide +kernel)
theorem zq_oi2 : Cond.code Lib.objectInit ⟨#[0xb1]⟩ 1 none ∈ zx_G := zg_at (i := 67) (by decide +kernel) (by decide +kernel)
theorem zm_0_3 : Cond.methodLink RX0 3 Lib.objectInit ∈ zx_G := zg_at (i := 278) (by decide +kernel) (by decide +kernel)
theorem zm_0_34 : zj_cp 0 34 := ⟨_, rfl, zg_at (i := 606) (by decide +kernel) (by decide +kernel), zq_cp1, zq_cp2, zq_cp3⟩
theorem zm_0_49 : zj_min 0 49 := ⟨_, rfl, zg_at (i := 718) (by decide +kernel) (by decide +kernel), zq_min1, zq_min2, zq_min3⟩
theorem zm_1_3 : Cond.methodLink RX1 3 Lib.objectInit ∈ zx_G := zg_at (i := 362) (by decide +kernel) (by decide +kernel)
theorem zm_2_3 : Cond.methodLink RX2 3 Lib.objectInit ∈ zx_G := zg_at (i := 100) (by decide +kernel) (by decide +kernel)
theorem zm_3_3 : Cond.methodLink RX3 3 Lib.objectInit ∈ zx_G := zg_at (i := 318) (by decide +kernel) (by decide +kernel)
theorem zw_3_9 : zcN 3 9 7 4 := ⟨_, _, _, _, rfl, zk_7, zg_at (i := 319) (by decide +kernel) (by decide +kernel), zg_at (i := 320) (by decide +kernel) (by decide +kernel), zg_at (i := 53) (by decide +kernel) (by decide +kernel)⟩
theorem zw_3_18 : zcN 3 18 4 3 := ⟨_, _, _, _, rfl, zk_4, zg_at (i := 339) (by decide +kernel) (by decide +kernel), zg_at (i := 340) (by decide +kernel) (by decide +kernel), zg_at (i := 54) (by decide +kernel) (by decide +kernel)⟩
theorem zw_3_25 : zcN 3 25 1 4 := ⟨_, _, _, _, rfl, zk_1, zg_at (i := 357) (by decide +kernel) (by decide +kernel), zg_at (i := 358) (by decide +kernel) (by decide +kernel), zg_at (i := 55) (by decide +kernel) (by decide +kernel)⟩
theorem zm_3_75 : zj_min 3 75 := ⟨_, rfl, zg_at (i := 675) (by decide +kernel) (by decide +kernel), zq_min1, zq_min2, zq_min3⟩
theorem zm_4_3 : Cond.methodLink RX4 3 Lib.objectInit ∈ zx_G := zg_at (i := 344) (by decide +kernel) (by decide +kernel)
theorem zm_5_3 : Cond.methodLink RX5 3 Lib.objectInit ∈ zx_G := zg_at (i := 93) (by decide +kernel) (by decide +kernel)
theorem zw_5_18 : zcN 5 18 2 14 := ⟨_, _, _, _, rfl, zk_2, zg_at (i := 94) (by decide +kernel) (by decide +kernel), zg_at (i := 96) (by decide +kernel) (by decide +kernel), zg_at (i := 49) (by decide +kernel) (by decide +kernel)⟩
theorem zy_5_18 : zcA 5 18 103 := ⟨_, "BathNight$Bather", rfl, zg_at (i := 94) (by decide +kernel) (by decide +kernel), zg_nat (i := 95) (by decide +kernel) rfl, Or.inl ⟨rfl, rfl⟩⟩
theorem zm_5_68 : zj_cp 5 68 := ⟨_, rfl, zg_at (i := 753) (by decide +kernel) (by decide +kernel), zq_cp1, zq_cp2, zq_cp3⟩
theorem zm_5_78 : zj_min 5 78 := ⟨_, rfl, zg_at (i := 762) (by decide +kernel) (by decide +kernel), zq_min1, zq_min2, zq_min3⟩
theorem zm_5_156 : zj_max 5 156 := ⟨_, rfl, zg_at (i := 696) (by decide +kernel) (by decide +kernel), zq_max1, zq_max2, zq_max3⟩
theorem zm_6_3 : Cond.methodLink RX6 3 Lib.objectInit ∈ zx_G := zg_at (i := 73) (by decide +kernel) (by decide +kernel)
theorem zm_7_3 : Cond.methodLink RX7 3 Lib.objectInit ∈ zx_G := zg_at (i := 324) (by decide +kernel) (by decide +kernel)
theorem zm_7_24 : zj_min 7 24 := ⟨_, rfl, zg_at (i := 539) (by decide +kernel) (by decide +kernel), zq_min1, zq_min2, zq_min3⟩
theorem zm_7_32 : zj_max 7 32 := ⟨_, rfl, zg_at (i := 542) (by decide +kernel) (by decide +kernel), zq_max1, zq_max2, zq_max3⟩
theorem zm_8_3 : Cond.methodLink RX8 3 Lib.objectInit ∈ zx_G := zg_at (i := 247) (by decide +kernel) (by decide +kernel)
theorem zm_8_29 : zj_cp 8 29 := ⟨_, rfl, zg_at (i := 799) (by decide +kernel) (by decide +kernel), zq_cp1, zq_cp2, zq_cp3⟩
theorem zm_9_1 : Cond.methodLink RX9 1 Lib.objectInit ∈ zx_G := zg_at (i := 65) (by decide +kernel) (by decide +kernel)
theorem zw_9_13 : zcN 9 13 6 3 := ⟨_, _, _, _, rfl, zk_6, zg_at (i := 68) (by decide +kernel) (by decide +kernel), zg_at (i := 69) (by decide +kernel) (by decide +kernel), zg_at (i := 47) (by decide +kernel) (by decide +kernel)⟩
theorem zw_9_20 : zcN 9 20 5 15 := ⟨_, _, _, _, rfl, zk_5, zg_at (i := 88) (by decide +kernel) (by decide +kernel), zg_at (i := 89) (by decide +kernel) (by decide +kernel), zg_at (i := 48) (by decide +kernel) (by decide +kernel)⟩
theorem zw_9_30 : zcN 9 30 8 4 := ⟨_, _, _, _, rfl, zk_8, zg_at (i := 242) (by decide +kernel) (by decide +kernel), zg_at (i := 243) (by decide +kernel) (by decide +kernel), zg_at (i := 50) (by decide +kernel) (by decide +kernel)⟩
theorem zy_9_30 : zcA 9 30 104 := ⟨_, "BathNight$Wishes", rfl, zg_at (i := 242) (by decide +kernel) (by decide +kernel), zg_nat (i := 272) (by decide +kernel) rfl, Or.inr ⟨rfl, rfl⟩⟩
theorem zw_9_41 : zcN 9 41 0 8 := ⟨_, _, _, _, rfl, zk_0, zg_at (i := 273) (by decide +kernel) (by decide +kernel), zg_at (i := 274) (by decide +kernel) (by decide +kernel), zg_at (i := 51) (by decide +kernel) (by decide +kernel)⟩
theorem zw_9_48 : zcN 9 48 3 8 := ⟨_, _, _, _, rfl, zk_3, zg_at (i := 313) (by decide +kernel) (by decide +kernel), zg_at (i := 314) (by decide +kernel) (by decide +kernel), zg_at (i := 52) (by decide +kernel) (by decide +kernel)⟩
theorem zm_10_1 : Cond.methodLink RX10 1 Lib.objectInit ∈ zx_G := zg_at (i := 819) (by decide +kernel) (by decide +kernel)
theorem zq_byte : Cond.arrayClass .byte ∈ zx_G := zg_at (i := 86) (by decide +kernel) (by decide +kernel)
theorem zq_int : Cond.arrayClass .int ∈ zx_G := zg_at (i := 87) (by decide +kernel) (by decide +kernel)
theorem zq_long : Cond.arrayClass .long ∈ zx_G := zg_at (i := 936) (by decide +kernel) (by decide +kernel)
