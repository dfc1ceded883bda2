/-! the law: its links, by program -/
def lcV (idx : Nat) (y : MethodName) (np : Nat) : Prop := Cond.methodLink RL idx y ∈ zx_G ∧ Cond.instanceMethod y ∈ zx_G ∧ Cond.selects y.cls y y ∈ zx_G ∧ Cond.initialized y.cls ∈ zx_G ∧ zcP y np
theorem zp_X9_init : zcP yX9_init 0 := ⟨by decide +kernel, by decide +kernel, by decide +kernel⟩
theorem zi_X9_init : Cond.instanceMethod yX9_init ∈ zx_G := zg_at (i := 63) (by decide +kernel) (by decide +kernel)
theorem lm_9 : Cond.methodLink RL 9 yX9_init ∈ zx_G := zg_at (i := 62) (by decide +kernel) (by decide +kernel)
theorem zp_X10_init : zcP yX10_init 0 := ⟨by decide +kernel, by decide +kernel, by decide +kernel⟩
theorem zi_X10_init : Cond.instanceMethod yX10_init ∈ zx_G := zg_at (i := 817) (by decide +kernel) (by decide +kernel)
theorem lm_12 : Cond.methodLink RL 12 yX10_init ∈ zx_G := zg_at (i := 816) (by decide +kernel) (by decide +kernel)
theorem zp_X9_write : zcP yX9_write 2 := ⟨by decide +kernel, by decide +kernel, by decide +kernel⟩
theorem zi_X9_write : Cond.instanceMethod yX9_write ∈ zx_G := zg_at (i := 445) (by decide +kernel) (by decide +kernel)
theorem ze_X9_write : Cond.selects yX9_write.cls yX9_write yX9_write ∈ zx_G := zg_at (i := 446) (by decide +kernel) (by decide +kernel)
theorem lc_15 : lcV 15 yX9_write 2 := ⟨zg_at (i := 444) (by decide +kernel) (by decide +kernel), zi_X9_write, ze_X9_write, zn_X9, zp_X9_write⟩
theorem zp_X10_write : zcP yX10_write 2 := ⟨by decide +kernel, by decide +kernel, by decide +kernel⟩
theorem zi_X10_write : Cond.instanceMethod yX10_write ∈ zx_G := zg_at (i := 938) (by decide +kernel) (by decide +kernel)
theorem ze_X10_write : Cond.selects yX10_write.cls yX10_write yX10_write ∈ zx_G := zg_at (i := 939) (by decide +kernel) (by decide +kernel)
theorem lc_19 : lcV 19 yX10_write 2 := ⟨zg_at (i := 937) (by decide +kernel) (by decide +kernel), zi_X10_write, ze_X10_write, zn_X10, zp_X10_write⟩
theorem zp_X9_wipe : zcP yX9_wipe 0 := ⟨by decide +kernel, by decide +kernel, by decide +kernel⟩
theorem zi_X9_wipe : Cond.instanceMethod yX9_wipe ∈ zx_G := zg_at (i := 449) (by decide +kernel) (by decide +kernel)
theorem ze_X9_wipe : Cond.selects yX9_wipe.cls yX9_wipe yX9_wipe ∈ zx_G := zg_at (i := 450) (by decide +kernel) (by decide +kernel)
theorem lc_20 : lcV 20 yX9_wipe 0 := ⟨zg_at (i := 448) (by decide +kernel) (by decide +kernel), zi_X9_wipe, ze_X9_wipe, zn_X9, zp_X9_wipe⟩
theorem zp_X10_wipe : zcP yX10_wipe 0 := ⟨by decide +kernel, by decide +kernel, by decide +kernel⟩
theorem zi_X10_wipe : Cond.instanceMethod yX10_wipe ∈ zx_G := zg_at (i := 946) (by decide +kernel) (by decide +kernel)
theorem ze_X10_wipe : Cond.selects yX10_wipe.cls yX10_wipe yX10_wipe ∈ zx_G := zg_at (i := 947) (by decide +kernel) (by decide +kernel)
theorem lc_24 : lcV 24 yX10_wipe 0 := ⟨zg_at (i := 945) (by decide +kernel) (by decide +kernel), zi_X10_wipe, ze_X10_wipe, zn_X10, zp_X10_wipe⟩
theorem lc_25 : lcV 25 yX9_fault 0 := ⟨zg_at (i := 452) (by decide +kernel) (by decide +kernel), zi_X9_fault, ze_X9_fault, zn_X9, zp_X9_fault⟩
theorem zp_X10_fault : zcP yX10_fault 0 := ⟨by decide +kernel, by decide +kernel, by decide +kernel⟩
theorem zi_X10_fault : Cond.instanceMethod yX10_fault ∈ zx_G := zg_at (i := 950) (by decide +kernel) (by decide +kernel)
theorem ze_X10_fault : Cond.selects yX10_fault.cls yX10_fault yX10_fault ∈ zx_G := zg_at (i := 951) (by decide +kernel) (by decide +kernel)
theorem lc_28 : lcV 28 yX10_fault 0 := ⟨zg_at (i := 949) (by decide +kernel) (by decide +kernel), zi_X10_fault, ze_X10_fault, zn_X10, zp_X10_fault⟩
theorem zp_X9_lay : zcP yX9_lay 0 := ⟨by decide +kernel, by decide +kernel, by decide +kernel⟩
theorem zi_X9_lay : Cond.instanceMethod yX9_lay ∈ zx_G := zg_at (i := 517) (by decide +kernel) (by decide +kernel)
theorem ze_X9_lay : Cond.selects yX9_lay.cls yX9_lay yX9_lay ∈ zx_G := zg_at (i := 518) (by decide +kernel) (by decide +kernel)
theorem lc_29 : lcV 29 yX9_lay 0 := ⟨zg_at (i := 516) (by decide +kernel) (by decide +kernel), zi_X9_lay, ze_X9_lay, zn_X9, zp_X9_lay⟩
theorem zp_X10_lay : zcP yX10_lay 0 := ⟨by decide +kernel, by decide +kernel, by decide +kernel⟩
theorem zi_X10_lay : Cond.instanceMethod yX10_lay ∈ zx_G := zg_at (i := 986) (by decide +kernel) (by decide +kernel)
theorem ze_X10_lay : Cond.selects yX10_lay.cls yX10_lay yX10_lay ∈ zx_G := zg_at (i := 987) (by decide +kernel) (by decide +kernel)
theorem lc_32 : lcV 32 yX10_lay 0 := ⟨zg_at (i := 985) (by decide +kernel) (by decide +kernel), zi_X10_lay, ze_X10_lay, zn_X10, zp_X10_lay⟩
theorem zp_X9_bather : zcP yX9_bather 2 := ⟨by decide +kernel, by decide +kernel, by decide +kernel⟩
theorem zi_X9_bather : Cond.instanceMethod yX9_bather ∈ zx_G := zg_at (i := 523) (by decide +kernel) (by decide +kernel)
theorem ze_X9_bather : Cond.selects yX9_bather.cls yX9_bather yX9_bather ∈ zx_G := zg_at (i := 524) (by decide +kernel) (by decide +kernel)
theorem lc_33 : lcV 33 yX9_bather 2 := ⟨zg_at (i := 522) (by decide +kernel) (by decide +kernel), zi_X9_bather, ze_X9_bather, zn_X9, zp_X9_bather⟩
theorem zp_X10_bather : zcP yX10_bather 2 := ⟨by decide +kernel, by decide +kernel, by decide +kernel⟩
theorem zi_X10_bather : Cond.instanceMethod yX10_bather ∈ zx_G := zg_at (i := 990) (by decide +kernel) (by decide +kernel)
theorem ze_X10_bather : Cond.selects yX10_bather.cls yX10_bather yX10_bather ∈ zx_G := zg_at (i := 991) (by decide +kernel) (by decide +kernel)
theorem lc_37 : lcV 37 yX10_bather 2 := ⟨zg_at (i := 989) (by decide +kernel) (by decide +kernel), zi_X10_bather, ze_X10_bather, zn_X10, zp_X10_bather⟩
theorem zp_X9_drawn : zcP yX9_drawn 2 := ⟨by decide +kernel, by decide +kernel, by decide +kernel⟩
theorem zi_X9_drawn : Cond.instanceMethod yX9_drawn ∈ zx_G := zg_at (i := 532) (by decide +kernel) (by decide +kernel)
theorem ze_X9_drawn : Cond.selects yX9_drawn.cls yX9_drawn yX9_drawn ∈ zx_G := zg_at (i := 533) (by decide +kernel) (by decide +kernel)
theorem lc_38 : lcV 38 yX9_drawn 2 := ⟨zg_at (i := 531) (by decide +kernel) (by decide +kernel), zi_X9_drawn, ze_X9_drawn, zn_X9, zp_X9_drawn⟩
theorem zp_X10_drawn : zcP yX10_drawn 2 := ⟨by decide +kernel, by decide +kernel, by decide +kernel⟩
theorem zi_X10_drawn : Cond.instanceMethod yX10_drawn ∈ zx_G := zg_at (i := 1006) (by decide +kernel) (by decide +kernel)
theorem ze_X10_drawn : Cond.selects yX10_drawn.cls yX10_drawn yX10_drawn ∈ zx_G := zg_at (i := 1007) (by decide +kernel) (by decide +kernel)
theorem lc_41 : lcV 41 yX10_drawn 2 := ⟨zg_at (i := 1005) (by decide +kernel) (by decide +kernel), zi_X10_drawn, ze_X10_drawn, zn_X10, zp_X10_drawn⟩
theorem zp_X9_bath : zcP yX9_bath 3 := ⟨by decide +kernel, by decide +kernel, by decide +kernel⟩
theorem zi_X9_bath : Cond.instanceMethod yX9_bath ∈ zx_G := zg_at (i := 566) (by decide +kernel) (by decide +kernel)
theorem ze_X9_bath : Cond.selects yX9_bath.cls yX9_bath yX9_bath ∈ zx_G := zg_at (i := 567) (by decide +kernel) (by decide +kernel)
theorem lc_42 : lcV 42 yX9_bath 3 := ⟨zg_at (i := 565) (by decide +kernel) (by decide +kernel), zi_X9_bath, ze_X9_bath, zn_X9, zp_X9_bath⟩
theorem zp_X10_bath : zcP yX10_bath 3 := ⟨by decide +kernel, by decide +kernel, by decide +kernel⟩
theorem zi_X10_bath : Cond.instanceMethod yX10_bath ∈ zx_G := zg_at (i := 1026) (by decide +kernel) (by decide +kernel)
theorem ze_X10_bath : Cond.selects yX10_bath.cls yX10_bath yX10_bath ∈ zx_G := zg_at (i := 1027) (by decide +kernel) (by decide +kernel)
theorem lc_46 : lcV 46 yX10_bath 3 := ⟨zg_at (i := 1025) (by decide +kernel) (by decide +kernel), zi_X10_bath, ze_X10_bath, zn_X10, zp_X10_bath⟩
theorem zp_X9_row : zcP yX9_row 2 := ⟨by decide +kernel, by decide +kernel, by decide +kernel⟩
theorem zi_X9_row : Cond.instanceMethod yX9_row ∈ zx_G := zg_at (i := 579) (by decide +kernel) (by decide +kernel)
theorem ze_X9_row : Cond.selects yX9_row.cls yX9_row yX9_row ∈ zx_G := zg_at (i := 580) (by decide +kernel) (by decide +kernel)
theorem lc_47 : lcV 47 yX9_row 2 := ⟨zg_at (i := 578) (by decide +kernel) (by decide +kernel), zi_X9_row, ze_X9_row, zn_X9, zp_X9_row⟩
theorem zp_X10_row : zcP yX10_row 2 := ⟨by decide +kernel, by decide +kernel, by decide +kernel⟩
theorem zi_X10_row : Cond.instanceMethod yX10_row ∈ zx_G := zg_at (i := 1034) (by decide +kernel) (by decide +kernel)
theorem ze_X10_row : Cond.selects yX10_row.cls yX10_row yX10_row ∈ zx_G := zg_at (i := 1035) (by decide +kernel) (by decide +kernel)
theorem lc_50 : lcV 50 yX10_row 2 := ⟨zg_at (i := 1033) (by decide +kernel) (by decide +kernel), zi_X10_row, ze_X10_row, zn_X10, zp_X10_row⟩
theorem zp_X9_hot : zcP yX9_hot 1 := ⟨by decide +kernel, by decide +kernel, by decide +kernel⟩
theorem zi_X9_hot : Cond.instanceMethod yX9_hot ∈ zx_G := zg_at (i := 583) (by decide +kernel) (by decide +kernel)
theorem ze_X9_hot : Cond.selects yX9_hot.cls yX9_hot yX9_hot ∈ zx_G := zg_at (i := 584) (by decide +kernel) (by decide +kernel)
theorem lc_51 : lcV 51 yX9_hot 1 := ⟨zg_at (i := 582) (by decide +kernel) (by decide +kernel), zi_X9_hot, ze_X9_hot, zn_X9, zp_X9_hot⟩
theorem zp_X10_hot : zcP yX10_hot 1 := ⟨by decide +kernel, by decide +kernel, by decide +kernel⟩
theorem zi_X10_hot : Cond.instanceMethod yX10_hot ∈ zx_G := zg_at (i := 1038) (by decide +kernel) (by decide +kernel)
theorem ze_X10_hot : Cond.selects yX10_hot.cls yX10_hot yX10_hot ∈ zx_G := zg_at (i := 1039) (by decide +kernel) (by decide +kernel)
theorem lc_55 : lcV 55 yX10_hot 1 := ⟨zg_at (i := 1037) (by decide +kernel) (by decide +kernel), zi_X10_hot, ze_X10_hot, zn_X10, zp_X10_hot⟩
theorem zp_X9_plan : zcP yX9_plan 2 := ⟨by decide +kernel, by decide +kernel, by decide +kernel⟩
theorem zi_X9_plan : Cond.instanceMethod yX9_plan ∈ zx_G := zg_at (i := 587) (by decide +kernel) (by decide +kernel)
theorem ze_X9_plan : Cond.selects yX9_plan.cls yX9_plan yX9_plan ∈ zx_G := zg_at (i := 588) (by decide +kernel) (by decide +kernel)
theorem lc_56 : lcV 56 yX9_plan 2 := ⟨zg_at (i := 586) (by decide +kernel) (by decide +kernel), zi_X9_plan, ze_X9_plan, zn_X9, zp_X9_plan⟩
theorem zp_X10_plan : zcP yX10_plan 2 := ⟨by decide +kernel, by decide +kernel, by decide +kernel⟩
theorem zi_X10_plan : Cond.instanceMethod yX10_plan ∈ zx_G := zg_at (i := 1042) (by decide +kernel) (by decide +kernel)
theorem ze_X10_plan : Cond.selects yX10_plan.cls yX10_plan yX10_plan ∈ zx_G := zg_at (i := 1043) (by decide +kernel) (by decide +kernel)
theorem lc_60 : lcV 60 yX10_plan 2 := ⟨zg_at (i := 1041) (by decide +kernel) (by decide +kernel), zi_X10_plan, ze_X10_plan, zn_X10, zp_X10_plan⟩
theorem zp_X9_evening : zcP yX9_evening 3 := ⟨by decide +kernel, by decide +kernel, by decide +kernel⟩
theorem zi_X9_evening : Cond.instanceMethod yX9_evening ∈ zx_G := zg_at (i := 592) (by decide +kernel) (by decide +kernel)
theorem ze_X9_evening : Cond.selects yX9_evening.cls yX9_evening yX9_evening ∈ zx_G := zg_at (i := 593) (by decide +kernel) (by decide +kernel)
theorem lc_61 : lcV 61 yX9_evening 3 := ⟨zg_at (i := 591) (by decide +kernel) (by decide +kernel), zi_X9_evening, ze_X9_evening, zn_X9, zp_X9_evening⟩
theorem zp_X10_evening : zcP yX10_evening 3 := ⟨by decide +kernel, by decide +kernel, by decide +kernel⟩
theorem zi_X10_evening : Cond.instanceMethod yX10_evening ∈ zx_G := zg_at (i := 1047) (by decide +kernel) (by decide +kernel)
theorem ze_X10_evening : Cond.selects yX10_evening.cls yX10_evening yX10_evening ∈ zx_G := zg_at (i := 1048) (by decide +kernel) (by decide +kernel)
theorem lc_65 : lcV 65 yX10_evening 3 := ⟨zg_at (i := 1046) (by decide +kernel) (by decide +kernel), zi_X10_evening, ze_X10_evening, zn_X10, zp_X10_evening⟩
theorem zp_X9_score : zcP yX9_score 2 := ⟨by decide +kernel, by decide +kernel, by decide +kernel⟩
theorem zi_X9_score : Cond.instanceMethod yX9_score ∈ zx_G := zg_at (i := 698) (by decide +kernel) (by decide +kernel)
theorem ze_X9_score : Cond.selects yX9_score.cls yX9_score yX9_score ∈ zx_G := zg_at (i := 699) (by decide +kernel) (by decide +kernel)
theorem lc_66 : lcV 66 yX9_score 2 := ⟨zg_at (i := 697) (by decide +kernel) (by decide +kernel), zi_X9_score, ze_X9_score, zn_X9, zp_X9_score⟩
theorem zp_X10_score : zcP yX10_score 2 := ⟨by decide +kernel, by decide +kernel, by decide +kernel⟩
theorem zi_X10_score : Cond.instanceMethod yX10_score ∈ zx_G := zg_at (i := 1090) (by decide +kernel) (by decide +kernel)
theorem ze_X10_score : Cond.selects yX10_score.cls yX10_score yX10_score ∈ zx_G := zg_at (i := 1091) (by decide +kernel) (by decide +kernel)
theorem lc_69 : lcV 69 yX10_score 2 := ⟨zg_at (i := 1089) (by decide +kernel) (by decide +kernel), zi_X10_score, ze_X10_score, zn_X10, zp_X10_score⟩
theorem zp_X9_left : zcP yX9_left 2 := ⟨by decide +kernel, by decide +kernel, by decide +kernel⟩
theorem zi_X9_left : Cond.instanceMethod yX9_left ∈ zx_G := zg_at (i := 702) (by decide +kernel) (by decide +kernel)
theorem ze_X9_left : Cond.selects yX9_left.cls yX9_left yX9_left ∈ zx_G := zg_at (i := 703) (by decide +kernel) (by decide +kernel)
theorem lc_70 : lcV 70 yX9_left 2 := ⟨zg_at (i := 701) (by decide +kernel) (by decide +kernel), zi_X9_left, ze_X9_left, zn_X9, zp_X9_left⟩
theorem zp_X10_left : zcP yX10_left 2 := ⟨by decide +kernel, by decide +kernel, by decide +kernel⟩
theorem zi_X10_left : Cond.instanceMethod yX10_left ∈ zx_G := zg_at (i := 1094) (by decide +kernel) (by decide +kernel)
theorem ze_X10_left : Cond.selects yX10_left.cls yX10_left yX10_left ∈ zx_G := zg_at (i := 1095) (by decide +kernel) (by decide +kernel)
theorem lc_73 : lcV 73 yX10_left 2 := ⟨zg_at (i := 1093) (by decide +kernel) (by decide +kernel), zi_X10_left, ze_X10_left, zn_X10, zp_X10_left⟩
theorem zp_X9_best : zcP yX9_best 1 := ⟨by decide +kernel, by decide +kernel, by decide +kernel⟩
theorem zi_X9_best : Cond.instanceMethod yX9_best ∈ zx_G := zg_at (i := 707) (by decide +kernel) (by decide +kernel)
theorem ze_X9_best : Cond.selects yX9_best.cls yX9_best yX9_best ∈ zx_G := zg_at (i := 708) (by decide +kernel) (by decide +kernel)
theorem lc_74 : lcV 74 yX9_best 1 := ⟨zg_at (i := 706) (by decide +kernel) (by decide +kernel), zi_X9_best, ze_X9_best, zn_X9, zp_X9_best⟩
theorem zp_X10_best : zcP yX10_best 1 := ⟨by decide +kernel, by decide +kernel, by decide +kernel⟩
theorem zi_X10_best : Cond.instanceMethod yX10_best ∈ zx_G := zg_at (i := 1098) (by decide +kernel) (by decide +kernel)
theorem ze_X10_best : Cond.selects yX10_best.cls yX10_best yX10_best ∈ zx_G := zg_at (i := 1099) (by decide +kernel) (by decide +kernel)
theorem lc_77 : lcV 77 yX10_best 1 := ⟨zg_at (i := 1097) (by decide +kernel) (by decide +kernel), zi_X10_best, ze_X10_best, zn_X10, zp_X10_best⟩
theorem zp_X9_swapped : zcP yX9_swapped 0 := ⟨by decide +kernel, by decide +kernel, by decide +kernel⟩
theorem zi_X9_swapped : Cond.instanceMethod yX9_swapped ∈ zx_G := zg_at (i := 728) (by decide +kernel) (by decide +kernel)
theorem ze_X9_swapped : Cond.selects yX9_swapped.cls yX9_swapped yX9_swapped ∈ zx_G := zg_at (i := 729) (by decide +kernel) (by decide +kernel)
theorem lc_78 : lcV 78 yX9_swapped 0 := ⟨zg_at (i := 727) (by decide +kernel) (by decide +kernel), zi_X9_swapped, ze_X9_swapped, zn_X9, zp_X9_swapped⟩
theorem zp_X10_swapped : zcP yX10_swapped 0 := ⟨by decide +kernel, by decide +kernel, by decide +kernel⟩
theorem zi_X10_swapped : Cond.instanceMethod yX10_swapped ∈ zx_G := zg_at (i := 1106) (by decide +kernel) (by decide +kernel)
theorem ze_X10_swapped : Cond.selects yX10_swapped.cls yX10_swapped yX10_swapped ∈ zx_G := zg_at (i := 1107) (by decide +kernel) (by decide +kernel)
theorem lc_81 : lcV 81 yX10_swapped 0 := ⟨zg_at (i := 1105) (by decide +kernel) (by decide +kernel), zi_X10_swapped, ze_X10_swapped, zn_X10, zp_X10_swapped⟩
theorem zp_X9_when : zcP yX9_when 2 := ⟨by decide +kernel, by decide +kernel, by decide +kernel⟩
theorem zi_X9_when : Cond.instanceMethod yX9_when ∈ zx_G := zg_at (i := 734) (by decide +kernel) (by decide +kernel)
theorem ze_X9_when : Cond.selects yX9_when.cls yX9_when yX9_when ∈ zx_G := zg_at (i := 735) (by decide +kernel) (by decide +kernel)
theorem lc_82 : lcV 82 yX9_when 2 := ⟨zg_at (i := 733) (by decide +kernel) (by decide +kernel), zi_X9_when, ze_X9_when, zn_X9, zp_X9_when⟩
theorem zp_X10_when : zcP yX10_when 2 := ⟨by decide +kernel, by decide +kernel, by decide +kernel⟩
theorem zi_X10_when : Cond.instanceMethod yX10_when ∈ zx_G := zg_at (i := 1114) (by decide +kernel) (by decide +kernel)
theorem ze_X10_when : Cond.selects yX10_when.cls yX10_when yX10_when ∈ zx_G := zg_at (i := 1115) (by decide +kernel) (by decide +kernel)
theorem lc_85 : lcV 85 yX10_when 2 := ⟨zg_at (i := 1113) (by decide +kernel) (by decide +kernel), zi_X10_when, ze_X10_when, zn_X10, zp_X10_when⟩
theorem zp_X9_fewest : zcP yX9_fewest 2 := ⟨by decide +kernel, by decide +kernel, by decide +kernel⟩
theorem zi_X9_fewest : Cond.instanceMethod yX9_fewest ∈ zx_G := zg_at (i := 738) (by decide +kernel) (by decide +kernel)
theorem ze_X9_fewest : Cond.selects yX9_fewest.cls yX9_fewest yX9_fewest ∈ zx_G := zg_at (i := 739) (by decide +kernel) (by decide +kernel)
theorem lc_86 : lcV 86 yX9_fewest 2 := ⟨zg_at (i := 737) (by decide +kernel) (by decide +kernel), zi_X9_fewest, ze_X9_fewest, zn_X9, zp_X9_fewest⟩
theorem zp_X10_fewest : zcP yX10_fewest 2 := ⟨by decide +kernel, by decide +kernel, by decide +kernel⟩
theorem zi_X10_fewest : Cond.instanceMethod yX10_fewest ∈ zx_G := zg_at (i := 1118) (by decide +kernel) (by decide +kernel)
theorem ze_X10_fewest : Cond.selects yX10_fewest.cls yX10_fewest yX10_fewest ∈ zx_G := zg_at (i := 1119) (by decide +kernel) (by decide +kernel)
theorem lc_89 : lcV 89 yX10_fewest 2 := ⟨zg_at (i := 1117) (by decide +kernel) (by decide +kernel), zi_X10_fewest, ze_X10_fewest, zn_X10, zp_X10_fewest⟩
theorem zp_X9_bigger : zcP yX9_bigger 2 := ⟨by decide +kernel, by decide +kernel, by decide +kernel⟩
theorem zi_X9_bigger : Cond.instanceMethod yX9_bigger ∈ zx_G := zg_at (i := 746) (by decide +kernel) (by decide +kernel)
theorem ze_X9_bigger : Cond.selects yX9_bigger.cls yX9_bigger yX9_bigger ∈ zx_G := zg_at (i := 747) (by decide +kernel) (by decide +kernel)
theorem lc_90 : lcV 90 yX9_bigger 2 := ⟨zg_at (i := 745) (by decide +kernel) (by decide +kernel), zi_X9_bigger, ze_X9_bigger, zn_X9, zp_X9_bigger⟩
theorem zp_X10_bigger : zcP yX10_bigger 2 := ⟨by decide +kernel, by decide +kernel, by decide +kernel⟩
theorem zi_X10_bigger : Cond.instanceMethod yX10_bigger ∈ zx_G := zg_at (i := 1126) (by decide +kernel) (by decide +kernel)
theorem ze_X10_bigger : Cond.selects yX10_bigger.cls yX10_bigger yX10_bigger ∈ zx_G := zg_at (i := 1127) (by decide +kernel) (by decide +kernel)
theorem lc_93 : lcV 93 yX10_bigger 2 := ⟨zg_at (i := 1125) (by decide +kernel) (by decide +kernel), zi_X10_bigger, ze_X10_bigger, zn_X10, zp_X10_bigger⟩
theorem zp_X9_tap : zcP yX9_tap 4 := ⟨by decide +kernel, by decide +kernel, by decide +kernel⟩
theorem zi_X9_tap : Cond.instanceMethod yX9_tap ∈ zx_G := zg_at (i := 764) (by decide +kernel) (by decide +kernel)
theorem ze_X9_tap : Cond.selects yX9_tap.cls yX9_tap yX9_tap ∈ zx_G := zg_at (i := 765) (by decide +kernel) (by decide +kernel)
theorem lc_94 : lcV 94 yX9_tap 4 := ⟨zg_at (i := 763) (by decide +kernel) (by decide +kernel), zi_X9_tap, ze_X9_tap, zn_X9, zp_X9_tap⟩
theorem zp_X10_tap : zcP yX10_tap 4 := ⟨by decide +kernel, by decide +kernel, by decide +kernel⟩
theorem zi_X10_tap : Cond.instanceMethod yX10_tap ∈ zx_G := zg_at (i := 1130) (by decide +kernel) (by decide +kernel)
theorem ze_X10_tap : Cond.selects yX10_tap.cls yX10_tap yX10_tap ∈ zx_G := zg_at (i := 1131) (by decide +kernel) (by decide +kernel)
theorem lc_98 : lcV 98 yX10_tap 4 := ⟨zg_at (i := 1129) (by decide +kernel) (by decide +kernel), zi_X10_tap, ze_X10_tap, zn_X10, zp_X10_tap⟩
theorem zp_X9_tenths : zcP yX9_tenths 2 := ⟨by decide +kernel, by decide +kernel, by decide +kernel⟩
theorem zi_X9_tenths : Cond.instanceMethod yX9_tenths ∈ zx_G := zg_at (i := 768) (by decide +kernel) (by decide +kernel)
theorem ze_X9_tenths : Cond.selects yX9_tenths.cls yX9_tenths yX9_tenths ∈ zx_G := zg_at (i := 769) (by decide +kernel) (by decide +kernel)
theorem lc_99 : lcV 99 yX9_tenths 2 := ⟨zg_at (i := 767) (by decide +kernel) (by decide +kernel), zi_X9_tenths, ze_X9_tenths, zn_X9, zp_X9_tenths⟩
theorem zp_X10_tenths : zcP yX10_tenths 2 := ⟨by decide +kernel, by decide +kernel, by decide +kernel⟩
theorem zi_X10_tenths : Cond.instanceMethod yX10_tenths ∈ zx_G := zg_at (i := 1134) (by decide +kernel) (by decide +kernel)
theorem ze_X10_tenths : Cond.selects yX10_tenths.cls yX10_tenths yX10_tenths ∈ zx_G := zg_at (i := 1135) (by decide +kernel) (by decide +kernel)
theorem lc_102 : lcV 102 yX10_tenths 2 := ⟨zg_at (i := 1133) (by decide +kernel) (by decide +kernel), zi_X10_tenths, ze_X10_tenths, zn_X10, zp_X10_tenths⟩
theorem zp_X9_told : zcP yX9_told 3 := ⟨by decide +kernel, by decide +kernel, by decide +kernel⟩
theorem zi_X9_told : Cond.instanceMethod yX9_told ∈ zx_G := zg_at (i := 772) (by decide +kernel) (by decide +kernel)
theorem ze_X9_told : Cond.selects yX9_told.cls yX9_told yX9_told ∈ zx_G := zg_at (i := 773) (by decide +kernel) (by decide +kernel)
theorem lc_103 : lcV 103 yX9_told 3 := ⟨zg_at (i := 771) (by decide +kernel) (by decide +kernel), zi_X9_told, ze_X9_told, zn_X9, zp_X9_told⟩
theorem zp_X10_told : zcP yX10_told 3 := ⟨by decide +kernel, by decide +kernel, by decide +kernel⟩
theorem zi_X10_told : Cond.instanceMethod yX10_told ∈ zx_G := zg_at (i := 1138) (by decide +kernel) (by decide +kernel)
theorem ze_X10_told : Cond.selects yX10_told.cls yX10_told yX10_told ∈ zx_G := zg_at (i := 1139) (by decide +kernel) (by decide +kernel)
theorem lc_106 : lcV 106 yX10_told 3 := ⟨zg_at (i := 1137) (by decide +kernel) (by decide +kernel), zi_X10_told, ze_X10_told, zn_X10, zp_X10_told⟩
theorem zp_X9_looks : zcP yX9_looks 1 := ⟨by decide +kernel, by decide +kernel, by decide +kernel⟩
theorem zi_X9_looks : Cond.instanceMethod yX9_looks ∈ zx_G := zg_at (i := 784) (by decide +kernel) (by decide +kernel)
theorem ze_X9_looks : Cond.selects yX9_looks.cls yX9_looks yX9_looks ∈ zx_G := zg_at (i := 785) (by decide +kernel) (by decide +kernel)
theorem lc_107 : lcV 107 yX9_looks 1 := ⟨zg_at (i := 783) (by decide +kernel) (by decide +kernel), zi_X9_looks, ze_X9_looks, zn_X9, zp_X9_looks⟩
theorem zp_X10_looks : zcP yX10_looks 1 := ⟨by decide +kernel, by decide +kernel, by decide +kernel⟩
theorem zi_X10_looks : Cond.instanceMethod yX10_looks ∈ zx_G := zg_at (i := 1142) (by decide +kernel) (by decide +kernel)
theorem ze_X10_looks : Cond.selects yX10_looks.cls yX10_looks yX10_looks ∈ zx_G := zg_at (i := 1143) (by decide +kernel) (by decide +kernel)
theorem lc_110 : lcV 110 yX10_looks 1 := ⟨zg_at (i := 1141) (by decide +kernel) (by decide +kernel), zi_X10_looks, ze_X10_looks, zn_X10, zp_X10_looks⟩
theorem zp_X9_keep : zcP yX9_keep 0 := ⟨by decide +kernel, by decide +kernel, by decide +kernel⟩
theorem zi_X9_keep : Cond.instanceMethod yX9_keep ∈ zx_G := zg_at (i := 792) (by decide +kernel) (by decide +kernel)
theorem ze_X9_keep : Cond.selects yX9_keep.cls yX9_keep yX9_keep ∈ zx_G := zg_at (i := 793) (by decide +kernel) (by decide +kernel)
theorem lc_111 : lcV 111 yX9_keep 0 := ⟨zg_at (i := 791) (by decide +kernel) (by decide +kernel), zi_X9_keep, ze_X9_keep, zn_X9, zp_X9_keep⟩
theorem zp_X10_keep : zcP yX10_keep 0 := ⟨by decide +kernel, by decide +kernel, by decide +kernel⟩
theorem zi_X10_keep : Cond.instanceMethod yX10_keep ∈ zx_G := zg_at (i := 1150) (by decide +kernel) (by decide +kernel)
theorem ze_X10_keep : Cond.selects yX10_keep.cls yX10_keep yX10_keep ∈ zx_G := zg_at (i := 1151) (by decide +kernel) (by decide +kernel)
theorem lc_114 : lcV 114 yX10_keep 0 := ⟨zg_at (i := 1149) (by decide +kernel) (by decide +kernel), zi_X10_keep, ze_X10_keep, zn_X10, zp_X10_keep⟩
theorem zp_X9_back : zcP yX9_back 0 := ⟨by decide +kernel, by decide +kernel, by decide +kernel⟩
theorem zi_X9_back : Cond.instanceMethod yX9_back ∈ zx_G := zg_at (i := 801) (by decide +kernel) (by decide +kernel)
theorem ze_X9_back : Cond.selects yX9_back.cls yX9_back yX9_back ∈ zx_G := zg_at (i := 802) (by decide +kernel) (by decide +kernel)
theorem lc_115 : lcV 115 yX9_back 0 := ⟨zg_at (i := 800) (by decide +kernel) (by decide +kernel), zi_X9_back, ze_X9_back, zn_X9, zp_X9_back⟩
theorem zp_X10_back : zcP yX10_back 0 := ⟨by decide +kernel, by decide +kernel, by decide +kernel⟩
theorem zi_X10_back : Cond.instanceMethod yX10_back ∈ zx_G := zg_at (i := 1154) (by decide +kernel) (by decide +kernel)
theorem ze_X10_back : Cond.selects yX10_back.cls yX10_back yX10_back ∈ zx_G := zg_at (i := 1155) (by decide +kernel) (by decide +kernel)
theorem lc_118 : lcV 118 yX10_back 0 := ⟨zg_at (i := 1153) (by decide +kernel) (by decide +kernel), zi_X10_back, ze_X10_back, zn_X10, zp_X10_back⟩
theorem zp_X9_count : zcP yX9_count 1 := ⟨by decide +kernel, by decide +kernel, by decide +kernel⟩
theorem zi_X9_count : Cond.instanceMethod yX9_count ∈ zx_G := zg_at (i := 805) (by decide +kernel) (by decide +kernel)
theorem ze_X9_count : Cond.selects yX9_count.cls yX9_count yX9_count ∈ zx_G := zg_at (i := 806) (by decide +kernel) (by decide +kernel)
theorem lc_119 : lcV 119 yX9_count 1 := ⟨zg_at (i := 804) (by decide +kernel) (by decide +kernel), zi_X9_count, ze_X9_count, zn_X9, zp_X9_count⟩
theorem zp_X10_count : zcP yX10_count 1 := ⟨by decide +kernel, by decide +kernel, by decide +kernel⟩
theorem zi_X10_count : Cond.instanceMethod yX10_count ∈ zx_G := zg_at (i := 1158) (by decide +kernel) (by decide +kernel)
theorem ze_X10_count : Cond.selects yX10_count.cls yX10_count yX10_count ∈ zx_G := zg_at (i := 1159) (by decide +kernel) (by decide +kernel)
theorem lc_122 : lcV 122 yX10_count 1 := ⟨zg_at (i := 1157) (by decide +kernel) (by decide +kernel), zi_X10_count, ze_X10_count, zn_X10, zp_X10_count⟩
theorem lx_7 : Cond.classLink RL 7 RX9 ∈ zx_G := zg_at (i := 60) (by decide +kernel) (by decide +kernel)
theorem ly_7 : ∃ N, Cond.instantiable RX9 N ∈ zx_G ∧ N = 11 := ⟨_, zg_at (i := 61) (by decide +kernel) (by decide +kernel), rfl⟩
theorem lx_10 : Cond.classLink RL 10 RX10 ∈ zx_G := zg_at (i := 814) (by decide +kernel) (by decide +kernel)
theorem ly_10 : ∃ N, Cond.instantiable RX10 N ∈ zx_G ∧ N = 36 := ⟨_, zg_at (i := 815) (by decide +kernel) (by decide +kernel), rfl⟩
