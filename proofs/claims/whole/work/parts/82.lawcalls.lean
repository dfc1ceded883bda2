/-! the law: its 25 calls, by program -/
section
variable {p : Program} {l : Launch} {e : Env} {s : State} {m : MethodId} {below : List Frame} {meth : Method} {c : Code} {b n : Nat} {xs : Nat → Int32} {Z : State → Prop} {ls : Array Slot} {a1 a2 i : Nat}
theorem lk_148 (C : LWC p s m c b n xs) (hn : n ≤ 320) (hi : i + 5 ≤ n) : LKs p l e s m below meth c b n xs Z ls i 148 := by
  intro D cA ad1 ad2 H locs h sp la I L J M hl X hS hW kk
  have E1 : AEv p l e s m below meth c b Z ls (148 + 1) 174 [.int (xs (i + 1)), .long (lwv (xs (i + 2)) (xs (i + 3)))] := (AEv_app (AEv_int (pc := 149) (k := 1) (kc := 1) C hl (by omega) hn rfl (dL1 rfl) (dL1 rfl) (dL2 rfl) (dL2 rfl) (dL2 rfl)) (AEv_long (pc := 154) (k := 2) (kc := 2) (k' := 3) (kc' := 3) C hl (by omega) (by omega) hn rfl rfl lk_13 (dL2 rfl) (dL2 rfl) (dL2 rfl) (dL2 rfl) (dL2 rfl) (dL2 rfl) (dL2 rfl) (dL2 rfl) (dL2 rfl) (dL2 rfl) (dL2 rfl) (dL2 rfl) (dL2 rfl) (dL2 rfl) (dL2 rfl) (dL2 rfl) (dL2 rfl)))
  have E2 : AEv p l e s m below meth c b Z ls (174 + 4) 203 [.int (xs (i + 1)), .long (lwv (xs (i + 2)) (xs (i + 3)))] := (AEv_app (AEv_int (pc := 178) (k := 1) (kc := 1) C hl (by omega) hn rfl (dL2 rfl) (dL2 rfl) (dL2 rfl) (dL3 rfl) (dL3 rfl)) (AEv_long (pc := 183) (k := 2) (kc := 2) (k' := 3) (kc' := 3) C hl (by omega) (by omega) hn rfl rfl lk_13 (dL3 rfl) (dL3 rfl) (dL3 rfl) (dL3 rfl) (dL3 rfl) (dL3 rfl) (dL3 rfl) (dL3 rfl) (dL3 rfl) (dL3 rfl) (dL3 rfl) (dL3 rfl) (dL3 rfl) (dL3 rfl) (dL3 rfl) (dL3 rfl) (dL3 rfl)))
  have K : CR mm_X9_write mm_X10_write [.int (xs (i + 1)), .long (lwv (xs (i + 2)) (xs (i + 3)))] h sp la I L J M := cr_write _ _ hW
  exact law_case (pc := 148) (pc1 := 174) (pc2 := 203) (off := 719) C hl lc_15 lc_19 gd_X9_write gd_X10_write rfl rfl rfl (plain_i (plain_l plain_nil)) (dL1 rfl) E1 (dL2 rfl) (dL2 rfl) E2 (dL3 rfl) (dL3 rfl) (by decide) X hS K kk
theorem lk_211 (C : LWC p s m c b n xs) (hn : n ≤ 320) (hi : i + 5 ≤ n) : LKs p l e s m below meth c b n xs Z ls i 211 := by
  intro D cA ad1 ad2 H locs h sp la I L J M hl X hS hW kk
  have E1 : AEv p l e s m below meth c b Z ls (211 + 1) 212 [] := AEv_nil
  have E2 : AEv p l e s m below meth c b Z ls (212 + 4) 216 [] := AEv_nil
  have K : CR mm_X9_wipe mm_X10_wipe [] h sp la I L J M := cr_wipe  hW
  exact law_case (pc := 211) (pc1 := 212) (pc2 := 216) (off := 706) C hl lc_20 lc_24 gd_X9_wipe gd_X10_wipe rfl rfl rfl plain_nil (dL3 rfl) E1 (dL3 rfl) (dL4 rfl) E2 (dL4 rfl) (dL4 rfl) (by decide) X hS K kk
theorem lk_224 (C : LWC p s m c b n xs) (hn : n ≤ 320) (hi : i + 5 ≤ n) : LKs p l e s m below meth c b n xs Z ls i 224 := by
  intro D cA ad1 ad2 H locs h sp la I L J M hl X hS hW kk
  have E1 : AEv p l e s m below meth c b Z ls (224 + 1) 225 [] := AEv_nil
  have E2 : AEv p l e s m below meth c b Z ls (225 + 4) 229 [] := AEv_nil
  have K : CR mm_X9_fault mm_X10_fault [] h sp la I L J M := cr_fault  hW
  exact law_case (pc := 224) (pc1 := 225) (pc2 := 229) (off := 693) C hl lc_25 lc_28 gd_X9_fault gd_X10_fault rfl rfl rfl plain_nil (dL4 rfl) E1 (dL4 rfl) (dL4 rfl) E2 (dL4 rfl) (dL4 rfl) (by decide) X hS K kk
theorem lk_237 (C : LWC p s m c b n xs) (hn : n ≤ 320) (hi : i + 5 ≤ n) : LKs p l e s m below meth c b n xs Z ls i 237 := by
  intro D cA ad1 ad2 H locs h sp la I L J M hl X hS hW kk
  have E1 : AEv p l e s m below meth c b Z ls (237 + 1) 238 [] := AEv_nil
  have E2 : AEv p l e s m below meth c b Z ls (238 + 4) 242 [] := AEv_nil
  have K : CR mm_X9_lay mm_X10_lay [] h sp la I L J M := cr_lay  hW
  exact law_case (pc := 237) (pc1 := 238) (pc2 := 242) (off := 680) C hl lc_29 lc_32 gd_X9_lay gd_X10_lay rfl rfl rfl plain_nil (dL4 rfl) E1 (dL4 rfl) (dL4 rfl) E2 (dL4 rfl) (dL4 rfl) (by decide) X hS K kk
theorem lk_250 (C : LWC p s m c b n xs) (hn : n ≤ 320) (hi : i + 5 ≤ n) : LKs p l e s m below meth c b n xs Z ls i 250 := by
  intro D cA ad1 ad2 H locs h sp la I L J M hl X hS hW kk
  have E1 : AEv p l e s m below meth c b Z ls (250 + 1) 261 [.int (xs (i + 1)), .int (xs (i + 2))] := (AEv_app (AEv_int (pc := 251) (k := 1) (kc := 1) C hl (by omega) hn rfl (dL4 rfl) (dL4 rfl) (dL4 rfl) (dL4 rfl) (dL4 rfl)) (AEv_int (pc := 256) (k := 2) (kc := 2) C hl (by omega) hn rfl (dL5 rfl) (dL5 rfl) (dL5 rfl) (dL5 rfl) (dL5 rfl)))
  have E2 : AEv p l e s m below meth c b Z ls (261 + 4) 275 [.int (xs (i + 1)), .int (xs (i + 2))] := (AEv_app (AEv_int (pc := 265) (k := 1) (kc := 1) C hl (by omega) hn rfl (dL5 rfl) (dL5 rfl) (dL5 rfl) (dL5 rfl) (dL5 rfl)) (AEv_int (pc := 270) (k := 2) (kc := 2) C hl (by omega) hn rfl (dL5 rfl) (dL5 rfl) (dL5 rfl) (dL5 rfl) (dL5 rfl)))
  have K : CR mm_X9_bather mm_X10_bather [.int (xs (i + 1)), .int (xs (i + 2))] h sp la I L J M := cr_bather _ _ hW
  exact law_case (pc := 250) (pc1 := 261) (pc2 := 275) (off := 647) C hl lc_33 lc_37 gd_X9_bather gd_X10_bather rfl rfl rfl (plain_i (plain_i plain_nil)) (dL4 rfl) E1 (dL5 rfl) (dL5 rfl) E2 (dL5 rfl) (dL5 rfl) (by decide) X hS K kk
theorem lk_283 (C : LWC p s m c b n xs) (hn : n ≤ 320) (hi : i + 5 ≤ n) : LKs p l e s m below meth c b n xs Z ls i 283 := by
  intro D cA ad1 ad2 H locs h sp la I L J M hl X hS hW kk
  have E1 : AEv p l e s m below meth c b Z ls (283 + 1) 294 [.int (xs (i + 1)), .int (xs (i + 2))] := (AEv_app (AEv_int (pc := 284) (k := 1) (kc := 1) C hl (by omega) hn rfl (dL5 rfl) (dL5 rfl) (dL5 rfl) (dL6 rfl) (dL6 rfl)) (AEv_int (pc := 289) (k := 2) (kc := 2) C hl (by omega) hn rfl (dL6 rfl) (dL6 rfl) (dL6 rfl) (dL6 rfl) (dL6 rfl)))
  have E2 : AEv p l e s m below meth c b Z ls (294 + 4) 308 [.int (xs (i + 1)), .int (xs (i + 2))] := (AEv_app (AEv_int (pc := 298) (k := 1) (kc := 1) C hl (by omega) hn rfl (dL6 rfl) (dL6 rfl) (dL6 rfl) (dL6 rfl) (dL6 rfl)) (AEv_int (pc := 303) (k := 2) (kc := 2) C hl (by omega) hn rfl (dL6 rfl) (dL6 rfl) (dL6 rfl) (dL6 rfl) (dL6 rfl)))
  have K : CR mm_X9_drawn mm_X10_drawn [.int (xs (i + 1)), .int (xs (i + 2))] h sp la I L J M := cr_drawn _ _ hW
  exact law_case (pc := 283) (pc1 := 294) (pc2 := 308) (off := 614) C hl lc_38 lc_41 gd_X9_drawn gd_X10_drawn rfl rfl rfl (plain_i (plain_i plain_nil)) (dL5 rfl) E1 (dL6 rfl) (dL6 rfl) E2 (dL6 rfl) (dL6 rfl) (by decide) X hS K kk
theorem lk_316 (C : LWC p s m c b n xs) (hn : n ≤ 320) (hi : i + 5 ≤ n) : LKs p l e s m below meth c b n xs Z ls i 316 := by
  intro D cA ad1 ad2 H locs h sp la I L J M hl X hS hW kk
  have E1 : AEv p l e s m below meth c b Z ls (316 + 1) 340 [.int (xs (i + 1)), .int (if xs (i + 2) = 0 then 0 else 1), .int (xs (i + 3))] := (AEv_app (AEv_int (pc := 317) (k := 1) (kc := 1) C hl (by omega) hn rfl (dL6 rfl) (dL7 rfl) (dL7 rfl) (dL7 rfl) (dL7 rfl)) (AEv_app (AEv_bool (pc := 322) (k := 2) (kc := 2) C hl (by omega) hn rfl (dL7 rfl) (dL7 rfl) (dL7 rfl) (dL7 rfl) (dL7 rfl) (dL7 rfl) (dL7 rfl) (dL7 rfl) (dL7 rfl)) (AEv_int (pc := 335) (k := 3) (kc := 3) C hl (by omega) hn rfl (dL7 rfl) (dL7 rfl) (dL7 rfl) (dL7 rfl) (dL7 rfl))))
  have E2 : AEv p l e s m below meth c b Z ls (340 + 4) 367 [.int (xs (i + 1)), .int (if xs (i + 2) = 0 then 0 else 1), .int (xs (i + 3))] := (AEv_app (AEv_int (pc := 344) (k := 1) (kc := 1) C hl (by omega) hn rfl (dL7 rfl) (dL7 rfl) (dL7 rfl) (dL7 rfl) (dL7 rfl)) (AEv_app (AEv_bool (pc := 349) (k := 2) (kc := 2) C hl (by omega) hn rfl (dL8 rfl) (dL8 rfl) (dL8 rfl) (dL8 rfl) (dL8 rfl) (dL8 rfl) (dL8 rfl) (dL8 rfl) (dL8 rfl)) (AEv_int (pc := 362) (k := 3) (kc := 3) C hl (by omega) hn rfl (dL8 rfl) (dL8 rfl) (dL8 rfl) (dL8 rfl) (dL8 rfl))))
  have K : CR mm_X9_bath mm_X10_bath [.int (xs (i + 1)), .int (if xs (i + 2) = 0 then 0 else 1), .int (xs (i + 3))] h sp la I L J M := cr_bath _ _ _ hW
  exact law_case (pc := 316) (pc1 := 340) (pc2 := 367) (off := 555) C hl lc_42 lc_46 gd_X9_bath gd_X10_bath rfl rfl rfl (plain_i (plain_i (plain_i plain_nil))) (dL6 rfl) E1 (dL7 rfl) (dL7 rfl) E2 (dL8 rfl) (dL8 rfl) (by decide) X hS K kk
theorem lk_375 (C : LWC p s m c b n xs) (hn : n ≤ 320) (hi : i + 5 ≤ n) : LKs p l e s m below meth c b n xs Z ls i 375 := by
  intro D cA ad1 ad2 H locs h sp la I L J M hl X hS hW kk
  have E1 : AEv p l e s m below meth c b Z ls (375 + 1) 386 [.int (xs (i + 1)), .int (xs (i + 2))] := (AEv_app (AEv_int (pc := 376) (k := 1) (kc := 1) C hl (by omega) hn rfl (dL8 rfl) (dL8 rfl) (dL8 rfl) (dL8 rfl) (dL8 rfl)) (AEv_int (pc := 381) (k := 2) (kc := 2) C hl (by omega) hn rfl (dL8 rfl) (dL9 rfl) (dL9 rfl) (dL9 rfl) (dL9 rfl)))
  have E2 : AEv p l e s m below meth c b Z ls (386 + 4) 400 [.int (xs (i + 1)), .int (xs (i + 2))] := (AEv_app (AEv_int (pc := 390) (k := 1) (kc := 1) C hl (by omega) hn rfl (dL9 rfl) (dL9 rfl) (dL9 rfl) (dL9 rfl) (dL9 rfl)) (AEv_int (pc := 395) (k := 2) (kc := 2) C hl (by omega) hn rfl (dL9 rfl) (dL9 rfl) (dL9 rfl) (dL9 rfl) (dL9 rfl)))
  have K : CR mm_X9_row mm_X10_row [.int (xs (i + 1)), .int (xs (i + 2))] h sp la I L J M := cr_row _ _ hW
  exact law_case (pc := 375) (pc1 := 386) (pc2 := 400) (off := 522) C hl lc_47 lc_50 gd_X9_row gd_X10_row rfl rfl rfl (plain_i (plain_i plain_nil)) (dL8 rfl) E1 (dL9 rfl) (dL9 rfl) E2 (dL9 rfl) (dL9 rfl) (by decide) X hS K kk
theorem lk_408 (C : LWC p s m c b n xs) (hn : n ≤ 320) (hi : i + 5 ≤ n) : LKs p l e s m below meth c b n xs Z ls i 408 := by
  intro D cA ad1 ad2 H locs h sp la I L J M hl X hS hW kk
  have E1 : AEv p l e s m below meth c b Z ls (408 + 1) 414 [.int (xs (i + 1))] := (AEv_int (pc := 409) (k := 1) (kc := 1) C hl (by omega) hn rfl (dL9 rfl) (dL9 rfl) (dL9 rfl) (dL9 rfl) (dL10 rfl))
  have E2 : AEv p l e s m below meth c b Z ls (414 + 4) 423 [.int (xs (i + 1))] := (AEv_int (pc := 418) (k := 1) (kc := 1) C hl (by omega) hn rfl (dL10 rfl) (dL10 rfl) (dL10 rfl) (dL10 rfl) (dL10 rfl))
  have K : CR mm_X9_hot mm_X10_hot [.int (xs (i + 1))] h sp la I L J M := cr_hot _ hW
  exact law_case (pc := 408) (pc1 := 414) (pc2 := 423) (off := 499) C hl lc_51 lc_55 gd_X9_hot gd_X10_hot rfl rfl rfl (plain_i plain_nil) (dL9 rfl) E1 (dL10 rfl) (dL10 rfl) E2 (dL10 rfl) (dL10 rfl) (by decide) X hS K kk
theorem lk_431 (C : LWC p s m c b n xs) (hn : n ≤ 320) (hi : i + 5 ≤ n) : LKs p l e s m below meth c b n xs Z ls i 431 := by
  intro D cA ad1 ad2 H locs h sp la I L J M hl X hS hW kk
  have E1 : AEv p l e s m below meth c b Z ls (431 + 1) 450 [.int (xs (i + 1)), .int (if xs (i + 2) = 0 then 0 else 1)] := (AEv_app (AEv_int (pc := 432) (k := 1) (kc := 1) C hl (by omega) hn rfl (dL10 rfl) (dL10 rfl) (dL10 rfl) (dL10 rfl) (dL10 rfl)) (AEv_bool (pc := 437) (k := 2) (kc := 2) C hl (by omega) hn rfl (dL10 rfl) (dL10 rfl) (dL10 rfl) (dL10 rfl) (dL10 rfl) (dL10 rfl) (dL10 rfl) (dL11 rfl) (dL11 rfl)))
  have E2 : AEv p l e s m below meth c b Z ls (450 + 4) 472 [.int (xs (i + 1)), .int (if xs (i + 2) = 0 then 0 else 1)] := (AEv_app (AEv_int (pc := 454) (k := 1) (kc := 1) C hl (by omega) hn rfl (dL11 rfl) (dL11 rfl) (dL11 rfl) (dL11 rfl) (dL11 rfl)) (AEv_bool (pc := 459) (k := 2) (kc := 2) C hl (by omega) hn rfl (dL11 rfl) (dL11 rfl) (dL11 rfl) (dL11 rfl) (dL11 rfl) (dL11 rfl) (dL11 rfl) (dL11 rfl) (dL11 rfl)))
  have K : CR mm_X9_plan mm_X10_plan [.int (xs (i + 1)), .int (if xs (i + 2) = 0 then 0 else 1)] h sp la I L J M := cr_plan _ _ hW
  exact law_case (pc := 431) (pc1 := 450) (pc2 := 472) (off := 450) C hl lc_56 lc_60 gd_X9_plan gd_X10_plan rfl rfl rfl (plain_i (plain_i plain_nil)) (dL10 rfl) E1 (dL11 rfl) (dL11 rfl) E2 (dL11 rfl) (dL11 rfl) (by decide) X hS K kk
theorem lk_480 (C : LWC p s m c b n xs) (hn : n ≤ 320) (hi : i + 5 ≤ n) : LKs p l e s m below meth c b n xs Z ls i 480 := by
  intro D cA ad1 ad2 H locs h sp la I L J M hl X hS hW kk
  have E1 : AEv p l e s m below meth c b Z ls (480 + 1) 496 [.int (xs (i + 1)), .int (xs (i + 2)), .int (xs (i + 3))] := (AEv_app (AEv_int (pc := 481) (k := 1) (kc := 1) C hl (by omega) hn rfl (dL11 rfl) (dL11 rfl) (dL12 rfl) (dL12 rfl) (dL12 rfl)) (AEv_app (AEv_int (pc := 486) (k := 2) (kc := 2) C hl (by omega) hn rfl (dL12 rfl) (dL12 rfl) (dL12 rfl) (dL12 rfl) (dL12 rfl)) (AEv_int (pc := 491) (k := 3) (kc := 3) C hl (by omega) hn rfl (dL12 rfl) (dL12 rfl) (dL12 rfl) (dL12 rfl) (dL12 rfl))))
  have E2 : AEv p l e s m below meth c b Z ls (496 + 4) 515 [.int (xs (i + 1)), .int (xs (i + 2)), .int (xs (i + 3))] := (AEv_app (AEv_int (pc := 500) (k := 1) (kc := 1) C hl (by omega) hn rfl (dL12 rfl) (dL12 rfl) (dL12 rfl) (dL12 rfl) (dL12 rfl)) (AEv_app (AEv_int (pc := 505) (k := 2) (kc := 2) C hl (by omega) hn rfl (dL12 rfl) (dL12 rfl) (dL12 rfl) (dL12 rfl) (dL12 rfl)) (AEv_int (pc := 510) (k := 3) (kc := 3) C hl (by omega) hn rfl (dL13 rfl) (dL13 rfl) (dL13 rfl) (dL13 rfl) (dL13 rfl))))
  have K : CR mm_X9_evening mm_X10_evening [.int (xs (i + 1)), .int (xs (i + 2)), .int (xs (i + 3))] h sp la I L J M := cr_evening _ _ _ hW
  exact law_case (pc := 480) (pc1 := 496) (pc2 := 515) (off := 407) C hl lc_61 lc_65 gd_X9_evening gd_X10_evening rfl rfl rfl (plain_i (plain_i (plain_i plain_nil))) (dL11 rfl) E1 (dL12 rfl) (dL12 rfl) E2 (dL13 rfl) (dL13 rfl) (by decide) X hS K kk
theorem lk_523 (C : LWC p s m c b n xs) (hn : n ≤ 320) (hi : i + 5 ≤ n) : LKs p l e s m below meth c b n xs Z ls i 523 := by
  intro D cA ad1 ad2 H locs h sp la I L J M hl X hS hW kk
  have E1 : AEv p l e s m below meth c b Z ls (523 + 1) 534 [.int (xs (i + 1)), .int (xs (i + 2))] := (AEv_app (AEv_int (pc := 524) (k := 1) (kc := 1) C hl (by omega) hn rfl (dL13 rfl) (dL13 rfl) (dL13 rfl) (dL13 rfl) (dL13 rfl)) (AEv_int (pc := 529) (k := 2) (kc := 2) C hl (by omega) hn rfl (dL13 rfl) (dL13 rfl) (dL13 rfl) (dL13 rfl) (dL13 rfl)))
  have E2 : AEv p l e s m below meth c b Z ls (534 + 4) 548 [.int (xs (i + 1)), .int (xs (i + 2))] := (AEv_app (AEv_int (pc := 538) (k := 1) (kc := 1) C hl (by omega) hn rfl (dL13 rfl) (dL13 rfl) (dL13 rfl) (dL14 rfl) (dL14 rfl)) (AEv_int (pc := 543) (k := 2) (kc := 2) C hl (by omega) hn rfl (dL14 rfl) (dL14 rfl) (dL14 rfl) (dL14 rfl) (dL14 rfl)))
  have K : CR mm_X9_score mm_X10_score [.int (xs (i + 1)), .int (xs (i + 2))] h sp la I L J M := cr_score _ _ hW
  exact law_case (pc := 523) (pc1 := 534) (pc2 := 548) (off := 374) C hl lc_66 lc_69 gd_X9_score gd_X10_score rfl rfl rfl (plain_i (plain_i plain_nil)) (dL13 rfl) E1 (dL13 rfl) (dL13 rfl) E2 (dL14 rfl) (dL14 rfl) (by decide) X hS K kk
theorem lk_556 (C : LWC p s m c b n xs) (hn : n ≤ 320) (hi : i + 5 ≤ n) : LKs p l e s m below meth c b n xs Z ls i 556 := by
  intro D cA ad1 ad2 H locs h sp la I L J M hl X hS hW kk
  have E1 : AEv p l e s m below meth c b Z ls (556 + 1) 567 [.int (xs (i + 1)), .int (xs (i + 2))] := (AEv_app (AEv_int (pc := 557) (k := 1) (kc := 1) C hl (by omega) hn rfl (dL14 rfl) (dL14 rfl) (dL14 rfl) (dL14 rfl) (dL14 rfl)) (AEv_int (pc := 562) (k := 2) (kc := 2) C hl (by omega) hn rfl (dL14 rfl) (dL14 rfl) (dL14 rfl) (dL14 rfl) (dL14 rfl)))
  have E2 : AEv p l e s m below meth c b Z ls (567 + 4) 581 [.int (xs (i + 1)), .int (xs (i + 2))] := (AEv_app (AEv_int (pc := 571) (k := 1) (kc := 1) C hl (by omega) hn rfl (dL14 rfl) (dL15 rfl) (dL15 rfl) (dL15 rfl) (dL15 rfl)) (AEv_int (pc := 576) (k := 2) (kc := 2) C hl (by omega) hn rfl (dL15 rfl) (dL15 rfl) (dL15 rfl) (dL15 rfl) (dL15 rfl)))
  have K : CR mm_X9_left mm_X10_left [.int (xs (i + 1)), .int (xs (i + 2))] h sp la I L J M := cr_left _ _ hW
  exact law_case (pc := 556) (pc1 := 567) (pc2 := 581) (off := 341) C hl lc_70 lc_73 gd_X9_left gd_X10_left rfl rfl rfl (plain_i (plain_i plain_nil)) (dL14 rfl) E1 (dL14 rfl) (dL14 rfl) E2 (dL15 rfl) (dL15 rfl) (by decide) X hS K kk
theorem lk_589 (C : LWC p s m c b n xs) (hn : n ≤ 320) (hi : i + 5 ≤ n) : LKs p l e s m below meth c b n xs Z ls i 589 := by
  intro D cA ad1 ad2 H locs h sp la I L J M hl X hS hW kk
  have E1 : AEv p l e s m below meth c b Z ls (589 + 1) 595 [.int (xs (i + 1))] := (AEv_int (pc := 590) (k := 1) (kc := 1) C hl (by omega) hn rfl (dL15 rfl) (dL15 rfl) (dL15 rfl) (dL15 rfl) (dL15 rfl))
  have E2 : AEv p l e s m below meth c b Z ls (595 + 4) 604 [.int (xs (i + 1))] := (AEv_int (pc := 599) (k := 1) (kc := 1) C hl (by omega) hn rfl (dL15 rfl) (dL15 rfl) (dL15 rfl) (dL15 rfl) (dL16 rfl))
  have K : CR mm_X9_best mm_X10_best [.int (xs (i + 1))] h sp la I L J M := cr_best _ hW
  exact law_case (pc := 589) (pc1 := 595) (pc2 := 604) (off := 318) C hl lc_74 lc_77 gd_X9_best gd_X10_best rfl rfl rfl (plain_i plain_nil) (dL15 rfl) E1 (dL15 rfl) (dL15 rfl) E2 (dL16 rfl) (dL16 rfl) (by decide) X hS K kk
theorem lk_612 (C : LWC p s m c b n xs) (hn : n ≤ 320) (hi : i + 5 ≤ n) : LKs p l e s m below meth c b n xs Z ls i 612 := by
  intro D cA ad1 ad2 H locs h sp la I L J M hl X hS hW kk
  have E1 : AEv p l e s m below meth c b Z ls (612 + 1) 613 [] := AEv_nil
  have E2 : AEv p l e s m below meth c b Z ls (613 + 4) 617 [] := AEv_nil
  have K : CR mm_X9_swapped mm_X10_swapped [] h sp la I L J M := cr_swapped  hW
  exact law_case (pc := 612) (pc1 := 613) (pc2 := 617) (off := 305) C hl lc_78 lc_81 gd_X9_swapped gd_X10_swapped rfl rfl rfl plain_nil (dL16 rfl) E1 (dL16 rfl) (dL16 rfl) E2 (dL16 rfl) (dL16 rfl) (by decide) X hS K kk
theorem lk_625 (C : LWC p s m c b n xs) (hn : n ≤ 320) (hi : i + 5 ≤ n) : LKs p l e s m below meth c b n xs Z ls i 625 := by
  intro D cA ad1 ad2 H locs h sp la I L J M hl X hS hW kk
  have E1 : AEv p l e s m below meth c b Z ls (625 + 1) 636 [.int (xs (i + 1)), .int (xs (i + 2))] := (AEv_app (AEv_int (pc := 626) (k := 1) (kc := 1) C hl (by omega) hn rfl (dL16 rfl) (dL16 rfl) (dL16 rfl) (dL16 rfl) (dL16 rfl)) (AEv_int (pc := 631) (k := 2) (kc := 2) C hl (by omega) hn rfl (dL16 rfl) (dL16 rfl) (dL16 rfl) (dL16 rfl) (dL16 rfl)))
  have E2 : AEv p l e s m below meth c b Z ls (636 + 4) 650 [.int (xs (i + 1)), .int (xs (i + 2))] := (AEv_app (AEv_int (pc := 640) (k := 1) (kc := 1) C hl (by omega) hn rfl (dL17 rfl) (dL17 rfl) (dL17 rfl) (dL17 rfl) (dL17 rfl)) (AEv_int (pc := 645) (k := 2) (kc := 2) C hl (by omega) hn rfl (dL17 rfl) (dL17 rfl) (dL17 rfl) (dL17 rfl) (dL17 rfl)))
  have K : CR mm_X9_when mm_X10_when [.int (xs (i + 1)), .int (xs (i + 2))] h sp la I L J M := cr_when _ _ hW
  exact law_case (pc := 625) (pc1 := 636) (pc2 := 650) (off := 272) C hl lc_82 lc_85 gd_X9_when gd_X10_when rfl rfl rfl (plain_i (plain_i plain_nil)) (dL16 rfl) E1 (dL16 rfl) (dL16 rfl) E2 (dL17 rfl) (dL17 rfl) (by decide) X hS K kk
theorem lk_658 (C : LWC p s m c b n xs) (hn : n ≤ 320) (hi : i + 5 ≤ n) : LKs p l e s m below meth c b n xs Z ls i 658 := by
  intro D cA ad1 ad2 H locs h sp la I L J M hl X hS hW kk
  have E1 : AEv p l e s m below meth c b Z ls (658 + 1) 669 [.int (xs (i + 1)), .int (xs (i + 2))] := (AEv_app (AEv_int (pc := 659) (k := 1) (kc := 1) C hl (by omega) hn rfl (dL17 rfl) (dL17 rfl) (dL17 rfl) (dL17 rfl) (dL17 rfl)) (AEv_int (pc := 664) (k := 2) (kc := 2) C hl (by omega) hn rfl (dL17 rfl) (dL17 rfl) (dL17 rfl) (dL17 rfl) (dL17 rfl)))
  have E2 : AEv p l e s m below meth c b Z ls (669 + 4) 683 [.int (xs (i + 1)), .int (xs (i + 2))] := (AEv_app (AEv_int (pc := 673) (k := 1) (kc := 1) C hl (by omega) hn rfl (dL18 rfl) (dL18 rfl) (dL18 rfl) (dL18 rfl) (dL18 rfl)) (AEv_int (pc := 678) (k := 2) (kc := 2) C hl (by omega) hn rfl (dL18 rfl) (dL18 rfl) (dL18 rfl) (dL18 rfl) (dL18 rfl)))
  have K : CR mm_X9_fewest mm_X10_fewest [.int (xs (i + 1)), .int (xs (i + 2))] h sp la I L J M := cr_fewest _ _ hW
  exact law_case (pc := 658) (pc1 := 669) (pc2 := 683) (off := 239) C hl lc_86 lc_89 gd_X9_fewest gd_X10_fewest rfl rfl rfl (plain_i (plain_i plain_nil)) (dL17 rfl) E1 (dL18 rfl) (dL18 rfl) E2 (dL18 rfl) (dL18 rfl) (by decide) X hS K kk
theorem lk_691 (C : LWC p s m c b n xs) (hn : n ≤ 320) (hi : i + 5 ≤ n) : LKs p l e s m below meth c b n xs Z ls i 691 := by
  intro D cA ad1 ad2 H locs h sp la I L J M hl X hS hW kk
  have E1 : AEv p l e s m below meth c b Z ls (691 + 1) 702 [.int (xs (i + 1)), .int (xs (i + 2))] := (AEv_app (AEv_int (pc := 692) (k := 1) (kc := 1) C hl (by omega) hn rfl (dL18 rfl) (dL18 rfl) (dL18 rfl) (dL18 rfl) (dL18 rfl)) (AEv_int (pc := 697) (k := 2) (kc := 2) C hl (by omega) hn rfl (dL18 rfl) (dL18 rfl) (dL18 rfl) (dL19 rfl) (dL19 rfl)))
  have E2 : AEv p l e s m below meth c b Z ls (702 + 4) 716 [.int (xs (i + 1)), .int (xs (i + 2))] := (AEv_app (AEv_int (pc := 706) (k := 1) (kc := 1) C hl (by omega) hn rfl (dL19 rfl) (dL19 rfl) (dL19 rfl) (dL19 rfl) (dL19 rfl)) (AEv_int (pc := 711) (k := 2) (kc := 2) C hl (by omega) hn rfl (dL19 rfl) (dL19 rfl) (dL19 rfl) (dL19 rfl) (dL19 rfl)))
  have K : CR mm_X9_bigger mm_X10_bigger [.int (xs (i + 1)), .int (xs (i + 2))] h sp la I L J M := cr_bigger _ _ hW
  exact law_case (pc := 691) (pc1 := 702) (pc2 := 716) (off := 206) C hl lc_90 lc_93 gd_X9_bigger gd_X10_bigger rfl rfl rfl (plain_i (plain_i plain_nil)) (dL18 rfl) E1 (dL19 rfl) (dL19 rfl) E2 (dL19 rfl) (dL19 rfl) (by decide) X hS K kk
theorem lk_724 (C : LWC p s m c b n xs) (hn : n ≤ 320) (hi : i + 5 ≤ n) : LKs p l e s m below meth c b n xs Z ls i 724 := by
  intro D cA ad1 ad2 H locs h sp la I L J M hl X hS hW kk
  have E1 : AEv p l e s m below meth c b Z ls (724 + 1) 745 [.int (xs (i + 1)), .int (xs (i + 2)), .int (xs (i + 3)), .int (xs (i + 4))] := (AEv_app (AEv_int (pc := 725) (k := 1) (kc := 1) C hl (by omega) hn rfl (dL19 rfl) (dL19 rfl) (dL19 rfl) (dL19 rfl) (dL19 rfl)) (AEv_app (AEv_int (pc := 730) (k := 2) (kc := 2) C hl (by omega) hn rfl (dL19 rfl) (dL20 rfl) (dL20 rfl) (dL20 rfl) (dL20 rfl)) (AEv_app (AEv_int (pc := 735) (k := 3) (kc := 3) C hl (by omega) hn rfl (dL20 rfl) (dL20 rfl) (dL20 rfl) (dL20 rfl) (dL20 rfl)) (AEv_int (pc := 740) (k := 4) (kc := 4) C hl (by omega) hn rfl (dL20 rfl) (dL20 rfl) (dL20 rfl) (dL20 rfl) (dL20 rfl)))))
  have E2 : AEv p l e s m below meth c b Z ls (745 + 4) 769 [.int (xs (i + 1)), .int (xs (i + 2)), .int (xs (i + 3)), .int (xs (i + 4))] := (AEv_app (AEv_int (pc := 749) (k := 1) (kc := 1) C hl (by omega) hn rfl (dL20 rfl) (dL20 rfl) (dL20 rfl) (dL20 rfl) (dL20 rfl)) (AEv_app (AEv_int (pc := 754) (k := 2) (kc := 2) C hl (by omega) hn rfl (dL20 rfl) (dL20 rfl) (dL20 rfl) (dL20 rfl) (dL21 rfl)) (AEv_app (AEv_int (pc := 759) (k := 3) (kc := 3) C hl (by omega) hn rfl (dL21 rfl) (dL21 rfl) (dL21 rfl) (dL21 rfl) (dL21 rfl)) (AEv_int (pc := 764) (k := 4) (kc := 4) C hl (by omega) hn rfl (dL21 rfl) (dL21 rfl) (dL21 rfl) (dL21 rfl) (dL21 rfl)))))
  have K : CR mm_X9_tap mm_X10_tap [.int (xs (i + 1)), .int (xs (i + 2)), .int (xs (i + 3)), .int (xs (i + 4))] h sp la I L J M := cr_tap _ _ _ _ hW
  exact law_case (pc := 724) (pc1 := 745) (pc2 := 769) (off := 153) C hl lc_94 lc_98 gd_X9_tap gd_X10_tap rfl rfl rfl (plain_i (plain_i (plain_i (plain_i plain_nil)))) (dL19 rfl) E1 (dL20 rfl) (dL20 rfl) E2 (dL21 rfl) (dL21 rfl) (by decide) X hS K kk
theorem lk_777 (C : LWC p s m c b n xs) (hn : n ≤ 320) (hi : i + 5 ≤ n) : LKs p l e s m below meth c b n xs Z ls i 777 := by
  intro D cA ad1 ad2 H locs h sp la I L J M hl X hS hW kk
  have E1 : AEv p l e s m below meth c b Z ls (777 + 1) 788 [.int (xs (i + 1)), .int (xs (i + 2))] := (AEv_app (AEv_int (pc := 778) (k := 1) (kc := 1) C hl (by omega) hn rfl (dL21 rfl) (dL21 rfl) (dL21 rfl) (dL21 rfl) (dL21 rfl)) (AEv_int (pc := 783) (k := 2) (kc := 2) C hl (by omega) hn rfl (dL21 rfl) (dL21 rfl) (dL21 rfl) (dL21 rfl) (dL22 rfl)))
  have E2 : AEv p l e s m below meth c b Z ls (788 + 4) 802 [.int (xs (i + 1)), .int (xs (i + 2))] := (AEv_app (AEv_int (pc := 792) (k := 1) (kc := 1) C hl (by omega) hn rfl (dL22 rfl) (dL22 rfl) (dL22 rfl) (dL22 rfl) (dL22 rfl)) (AEv_int (pc := 797) (k := 2) (kc := 2) C hl (by omega) hn rfl (dL22 rfl) (dL22 rfl) (dL22 rfl) (dL22 rfl) (dL22 rfl)))
  have K : CR mm_X9_tenths mm_X10_tenths [.int (xs (i + 1)), .int (xs (i + 2))] h sp la I L J M := cr_tenths _ _ hW
  exact law_case (pc := 777) (pc1 := 788) (pc2 := 802) (off := 120) C hl lc_99 lc_102 gd_X9_tenths gd_X10_tenths rfl rfl rfl (plain_i (plain_i plain_nil)) (dL21 rfl) E1 (dL22 rfl) (dL22 rfl) E2 (dL22 rfl) (dL22 rfl) (by decide) X hS K kk
theorem lk_810 (C : LWC p s m c b n xs) (hn : n ≤ 320) (hi : i + 5 ≤ n) : LKs p l e s m below meth c b n xs Z ls i 810 := by
  intro D cA ad1 ad2 H locs h sp la I L J M hl X hS hW kk
  have E1 : AEv p l e s m below meth c b Z ls (810 + 1) 826 [.int (xs (i + 1)), .int (xs (i + 2)), .int (xs (i + 3))] := (AEv_app (AEv_int (pc := 811) (k := 1) (kc := 1) C hl (by omega) hn rfl (dL22 rfl) (dL22 rfl) (dL22 rfl) (dL22 rfl) (dL22 rfl)) (AEv_app (AEv_int (pc := 816) (k := 2) (kc := 2) C hl (by omega) hn rfl (dL22 rfl) (dL22 rfl) (dL23 rfl) (dL23 rfl) (dL23 rfl)) (AEv_int (pc := 821) (k := 3) (kc := 3) C hl (by omega) hn rfl (dL23 rfl) (dL23 rfl) (dL23 rfl) (dL23 rfl) (dL23 rfl))))
  have E2 : AEv p l e s m below meth c b Z ls (826 + 4) 845 [.int (xs (i + 1)), .int (xs (i + 2)), .int (xs (i + 3))] := (AEv_app (AEv_int (pc := 830) (k := 1) (kc := 1) C hl (by omega) hn rfl (dL23 rfl) (dL23 rfl) (dL23 rfl) (dL23 rfl) (dL23 rfl)) (AEv_app (AEv_int (pc := 835) (k := 2) (kc := 2) C hl (by omega) hn rfl (dL23 rfl) (dL23 rfl) (dL23 rfl) (dL23 rfl) (dL23 rfl)) (AEv_int (pc := 840) (k := 3) (kc := 3) C hl (by omega) hn rfl (dL23 rfl) (dL23 rfl) (dL23 rfl) (dL23 rfl) (dL23 rfl))))
  have K : CR mm_X9_told mm_X10_told [.int (xs (i + 1)), .int (xs (i + 2)), .int (xs (i + 3))] h sp la I L J M := cr_told _ _ _ hW
  exact law_case (pc := 810) (pc1 := 826) (pc2 := 845) (off := 77) C hl lc_103 lc_106 gd_X9_told gd_X10_told rfl rfl rfl (plain_i (plain_i (plain_i plain_nil))) (dL22 rfl) E1 (dL23 rfl) (dL23 rfl) E2 (dL24 rfl) (dL24 rfl) (by decide) X hS K kk
theorem lk_853 (C : LWC p s m c b n xs) (hn : n ≤ 320) (hi : i + 5 ≤ n) : LKs p l e s m below meth c b n xs Z ls i 853 := by
  intro D cA ad1 ad2 H locs h sp la I L J M hl X hS hW kk
  have E1 : AEv p l e s m below meth c b Z ls (853 + 1) 859 [.int (xs (i + 1))] := (AEv_int (pc := 854) (k := 1) (kc := 1) C hl (by omega) hn rfl (dL24 rfl) (dL24 rfl) (dL24 rfl) (dL24 rfl) (dL24 rfl))
  have E2 : AEv p l e s m below meth c b Z ls (859 + 4) 868 [.int (xs (i + 1))] := (AEv_int (pc := 863) (k := 1) (kc := 1) C hl (by omega) hn rfl (dL24 rfl) (dL24 rfl) (dL24 rfl) (dL24 rfl) (dL24 rfl))
  have K : CR mm_X9_looks mm_X10_looks [.int (xs (i + 1))] h sp la I L J M := cr_looks _ hW
  exact law_case (pc := 853) (pc1 := 859) (pc2 := 868) (off := 54) C hl lc_107 lc_110 gd_X9_looks gd_X10_looks rfl rfl rfl (plain_i plain_nil) (dL24 rfl) E1 (dL24 rfl) (dL24 rfl) E2 (dL24 rfl) (dL24 rfl) (by decide) X hS K kk
theorem lk_876 (C : LWC p s m c b n xs) (hn : n ≤ 320) (hi : i + 5 ≤ n) : LKs p l e s m below meth c b n xs Z ls i 876 := by
  intro D cA ad1 ad2 H locs h sp la I L J M hl X hS hW kk
  have E1 : AEv p l e s m below meth c b Z ls (876 + 1) 877 [] := AEv_nil
  have E2 : AEv p l e s m below meth c b Z ls (877 + 4) 881 [] := AEv_nil
  have K : CR mm_X9_keep mm_X10_keep [] h sp la I L J M := cr_keep  hW
  exact law_case (pc := 876) (pc1 := 877) (pc2 := 881) (off := 41) C hl lc_111 lc_114 gd_X9_keep gd_X10_keep rfl rfl rfl plain_nil (dL24 rfl) E1 (dL24 rfl) (dL24 rfl) E2 (dL24 rfl) (dL25 rfl) (by decide) X hS K kk
theorem lk_889 (C : LWC p s m c b n xs) (hn : n ≤ 320) (hi : i + 5 ≤ n) : LKs p l e s m below meth c b n xs Z ls i 889 := by
  intro D cA ad1 ad2 H locs h sp la I L J M hl X hS hW kk
  have E1 : AEv p l e s m below meth c b Z ls (889 + 1) 890 [] := AEv_nil
  have E2 : AEv p l e s m below meth c b Z ls (890 + 4) 894 [] := AEv_nil
  have K : CR mm_X9_back mm_X10_back [] h sp la I L J M := cr_back  hW
  exact law_case (pc := 889) (pc1 := 890) (pc2 := 894) (off := 28) C hl lc_115 lc_118 gd_X9_back gd_X10_back rfl rfl rfl plain_nil (dL25 rfl) E1 (dL25 rfl) (dL25 rfl) E2 (dL25 rfl) (dL25 rfl) (by decide) X hS K kk
theorem lk_902 (C : LWC p s m c b n xs) (hn : n ≤ 320) (hi : i + 5 ≤ n) : LKs p l e s m below meth c b n xs Z ls i 902 := by
  intro D cA ad1 ad2 H locs h sp la I L J M hl X hS hW kk
  have E1 : AEv p l e s m below meth c b Z ls (902 + 1) 908 [.int (xs (i + 1))] := (AEv_int (pc := 903) (k := 1) (kc := 1) C hl (by omega) hn rfl (dL25 rfl) (dL25 rfl) (dL25 rfl) (dL25 rfl) (dL25 rfl))
  have E2 : AEv p l e s m below meth c b Z ls (908 + 4) 917 [.int (xs (i + 1))] := (AEv_int (pc := 912) (k := 1) (kc := 1) C hl (by omega) hn rfl (dL25 rfl) (dL25 rfl) (dL25 rfl) (dL25 rfl) (dL25 rfl))
  have K : CR mm_X9_count mm_X10_count [.int (xs (i + 1))] h sp la I L J M := cr_count _ hW
  exact law_case (pc := 902) (pc1 := 908) (pc2 := 917) (off := 5) C hl lc_119 lc_122 gd_X9_count gd_X10_count rfl rfl rfl (plain_i plain_nil) (dL25 rfl) E1 (dL25 rfl) (dL25 rfl) E2 (dL25 rfl) (dL25 rfl) (by decide) X hS K kk
end
