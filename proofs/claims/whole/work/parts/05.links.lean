/-! links: what the tables say of classes, fields and calls -/
theorem zg_at {i : Nat} {w : Cond} (h : lw_tbl[i]? = some w) (g : goodWord w = true) : w ∈ zx_G := List.mem_filter.mpr ⟨List.mem_of_getElem? h, g⟩
theorem zg_nat {i : Nat} {w : Cond} (h : lw_tbl[i]? = some w) (g : zx_nest w = true) : w ∈ zx_N := List.mem_filter.mpr ⟨List.mem_of_getElem? h, g⟩
theorem zg_good : ∀ w ∈ zx_G, goodWord w = true := fun _ h => (List.mem_filter.mp h).2
theorem zg_nest : ∀ w ∈ zx_N, zx_nest w = true := fun _ h => (List.mem_filter.mp h).2
def zk_code : FieldType → Nat
  | .long => 1
  | .object _ => 2
  | .array _ => 2
  | .boolean => 3
  | _ => 0
def zk_C (ci : Nat) (C : String) (T : u_T) (N : Nat) (ty : Nat → FieldType) : Prop := vwCl[ci]? = some (C, T, N) ∧ (∀ w ∈ u_ws C T N, w ∈ zx_G) ∧ (∀ k, k < N → parseFieldDescriptor (T k).2.2.1 = some (ty k)) ∧ (∀ a, a < N → ∀ b, b < N → a ≠ b → (T a).2.1 ≠ (T b).2.1) ∧ (∀ k, k < N → (zt_T.getD ci [])[k]? = some (zk_code (ty k))) ∧ ci < 100 ∧ (zt_T.getD ci []).length = N ∧ (∀ k, k < N → (T k).1 = C) ∧ (∀ k, k < N → ty k = .int ∨ ty k = .long ∨ ty k = .boolean ∨ zk_code (ty k) = 2)
theorem zk_G {C : String} {T : u_T} {N : Nat} (h : ∀ w ∈ u_ws C T N, w ∈ lw_tbl) (g : (u_ws C T N).all goodWord = true) : ∀ w ∈ u_ws C T N, w ∈ zx_G := fun w hw => List.mem_filter.mpr ⟨h w hw, List.all_eq_true.mp g w hw⟩
set_option maxRecDepth 20000 in
theorem zk_0 : zk_C 0 RX0 TX0 8 tyX0 := ⟨rfl, zk_G (by decide +kernel) (by decide +kernel), tyX0_ok, nmX0, by decide +kernel, by decide, rfl, by decide +kernel, by decide +kernel⟩
set_option maxRecDepth 20000 in
theorem zk_1 : zk_C 1 RX1 TX1 4 tyX1 := ⟨rfl, zk_G (by decide +kernel) (by decide +kernel), tyX1_ok, nmX1, by decide +kernel, by decide, rfl, by decide +kernel, by decide +kernel⟩
set_option maxRecDepth 20000 in
theorem zk_2 : zk_C 2 RX2 TX2 14 tyX2 := ⟨rfl, zk_G (by decide +kernel) (by decide +kernel), tyX2_ok, nmX2, by decide +kernel, by decide, rfl, by decide +kernel, by decide +kernel⟩
set_option maxRecDepth 20000 in
theorem zk_3 : zk_C 3 RX3 TX3 8 tyX3 := ⟨rfl, zk_G (by decide +kernel) (by decide +kernel), tyX3_ok, nmX3, by decide +kernel, by decide, rfl, by decide +kernel, by decide +kernel⟩
set_option maxRecDepth 20000 in
theorem zk_4 : zk_C 4 RX4 TX4 3 tyX4 := ⟨rfl, zk_G (by decide +kernel) (by decide +kernel), tyX4_ok, nmX4, by decide +kernel, by decide, rfl, by decide +kernel, by decide +kernel⟩
set_option maxRecDepth 20000 in
theorem zk_5 : zk_C 5 RX5 TX5 15 tyX5 := ⟨rfl, zk_G (by decide +kernel) (by decide +kernel), tyX5_ok, nmX5, by decide +kernel, by decide, rfl, by decide +kernel, by decide +kernel⟩
set_option maxRecDepth 20000 in
theorem zk_6 : zk_C 6 RX6 TX6 3 tyX6 := ⟨rfl, zk_G (by decide +kernel) (by decide +kernel), tyX6_ok, nmX6, by decide +kernel, by decide, rfl, by decide +kernel, by decide +kernel⟩
set_option maxRecDepth 20000 in
theorem zk_7 : zk_C 7 RX7 TX7 4 tyX7 := ⟨rfl, zk_G (by decide +kernel) (by decide +kernel), tyX7_ok, nmX7, by decide +kernel, by decide, rfl, by decide +kernel, by decide +kernel⟩
set_option maxRecDepth 20000 in
theorem zk_8 : zk_C 8 RX8 TX8 4 tyX8 := ⟨rfl, zk_G (by decide +kernel) (by decide +kernel), tyX8_ok, nmX8, by decide +kernel, by decide, rfl, by decide +kernel, by decide +kernel⟩
set_option maxRecDepth 20000 in
theorem zk_9 : zk_C 9 RX9 TX9 11 tyX9 := ⟨rfl, zk_G (by decide +kernel) (by decide +kernel), tyX9_ok, nmX9, by decide +kernel, by decide, rfl, by decide +kernel, by decide +kernel⟩
set_option maxRecDepth 20000 in
theorem zk_10 : zk_C 10 RX10 TX10 36 tyX10 := ⟨rfl, zk_G (by decide +kernel) (by decide +kernel), tyX10_ok, nmX10, by decide +kernel, by decide, rfl, by decide +kernel, by decide +kernel⟩
theorem zk_all {ci : Nat} {C : String} {T : u_T} {N : Nat} (h : vwCl[ci]? = some (C, T, N)) : ∃ ty, zk_C ci C T N ty := by
  have hl : ci < 11 := (List.getElem?_eq_some_iff.mp h).1
  match ci, hl, h with
  | 0, _, h => exact (by cases h; exact ⟨_, zk_0⟩)
  | 1, _, h => exact (by cases h; exact ⟨_, zk_1⟩)
  | 2, _, h => exact (by cases h; exact ⟨_, zk_2⟩)
  | 3, _, h => exact (by cases h; exact ⟨_, zk_3⟩)
  | 4, _, h => exact (by cases h; exact ⟨_, zk_4⟩)
  | 5, _, h => exact (by cases h; exact ⟨_, zk_5⟩)
  | 6, _, h => exact (by cases h; exact ⟨_, zk_6⟩)
  | 7, _, h => exact (by cases h; exact ⟨_, zk_7⟩)
  | 8, _, h => exact (by cases h; exact ⟨_, zk_8⟩)
  | 9, _, h => exact (by cases h; exact ⟨_, zk_9⟩)
  | 10, _, h => exact (by cases h; exact ⟨_, zk_10⟩)
  | n + 11, hl, _ => exact absurd hl (by omega)
/-- field links: the pool's number, the class, the field, the place of the word -/
def zl_F : List (List (Nat × Nat × Nat × Nat)) := [[(9, 0, 4, 288), (15, 0, 0, 279), (19, 8, 1, 255), (24, 0, 1, 281), (25, 0, 2, 284), (28, 8, 2, 258), (32, 0, 3, 286), (33, 8, 0, 253), (40, 0, 5, 289), (43, 0, 6, 291), (46, 0, 7, 293), (59, 2, 1, 107), (64, 2, 9, 129)],
  [(9, 1, 0, 363), (15, 1, 2, 369), (18, 1, 3, 371), (22, 2, 12, 138), (27, 2, 4, 112), (30, 1, 1, 366), (31, 2, 8, 123), (34, 2, 0, 102), (37, 2, 2, 109), (40, 2, 3, 111), (43, 2, 1, 106), (44, 7, 3, 329)],
  [(9, 2, 0, 101), (21, 2, 1, 105), (24, 2, 2, 108), (27, 2, 3, 110), (30, 2, 4, 113), (33, 2, 5, 115), (36, 2, 6, 118), (39, 2, 7, 120), (42, 2, 8, 124), (45, 2, 9, 126), (48, 2, 10, 131), (51, 2, 11, 134), (54, 2, 12, 139), (57, 2, 13, 142)],
  [(12, 3, 0, 382), (21, 3, 1, 384), (28, 3, 2, 386), (32, 0, 2, 283), (42, 5, 12, 203), (54, 3, 5, 390), (68, 0, 7, 294), (92, 5, 5, 189), (102, 3, 3, 388), (113, 3, 4, 389), (117, 3, 6, 391), (120, 3, 7, 392), (123, 5, 14, 210), (132, 0, 0, 280), (150, 0, 1, 282), (153, 5, 13, 207), (160, 1, 3, 372), (164, 2, 9, 127), (167, 2, 0, 103), (170, 2, 7, 121), (173, 2, 11, 135), (176, 5, 11, 202), (183, 5, 10, 200), (186, 5, 9, 197), (193, 1, 0, 364), (196, 1, 2, 370), (197, 2, 10, 132), (200, 2, 4, 114), (203, 1, 1, 367), (206, 2, 12, 140), (207, 2, 13, 143)],
  [(9, 4, 0, 345), (15, 4, 1, 347), (18, 4, 2, 348), (21, 5, 6, 191), (27, 5, 7, 193)],
  [(9, 5, 6, 190), (15, 5, 7, 192), (20, 5, 14, 209), (30, 5, 0, 178), (34, 5, 1, 180), (38, 5, 2, 182), (41, 5, 3, 184), (44, 5, 4, 186), (47, 5, 5, 188), (50, 5, 8, 194), (53, 5, 9, 196), (56, 5, 10, 199), (59, 5, 11, 201), (62, 5, 12, 204), (65, 5, 13, 206), (84, 2, 5, 116), (87, 2, 9, 128), (90, 6, 1, 76), (114, 6, 2, 78), (137, 2, 7, 122), (140, 2, 0, 104), (143, 2, 8, 125), (150, 2, 11, 137), (153, 2, 6, 119)],
  [(9, 6, 0, 74), (15, 6, 2, 77), (19, 6, 1, 75)],
  [(9, 7, 0, 325), (15, 7, 2, 327), (19, 5, 1, 179), (30, 7, 1, 326), (31, 5, 2, 183), (35, 5, 3, 185), (38, 7, 3, 328), (39, 5, 4, 187)],
  [(9, 8, 0, 252), (15, 8, 3, 261), (21, 8, 1, 256), (25, 8, 2, 259)],
  [(9, 9, 0, 410), (16, 9, 2, 412), (23, 9, 3, 413), (27, 9, 4, 414), (33, 9, 5, 415), (37, 9, 6, 416), (44, 9, 8, 418), (51, 9, 9, 419), (55, 9, 10, 420), (59, 9, 1, 411), (79, 9, 7, 417), (82, 5, 13, 208), (95, 3, 0, 383), (108, 5, 1, 181), (121, 3, 2, 387), (125, 5, 9, 198), (134, 1, 0, 365), (137, 1, 1, 368), (140, 8, 0, 254), (143, 8, 1, 257), (146, 8, 2, 260), (163, 2, 10, 133), (166, 2, 11, 136), (169, 2, 12, 141), (170, 2, 13, 144), (173, 3, 1, 385), (177, 4, 2, 349), (182, 4, 0, 346), (203, 5, 8, 195), (206, 0, 2, 285), (207, 5, 12, 205), (210, 0, 3, 287), (221, 0, 5, 290), (224, 0, 6, 292), (227, 0, 7, 295), (230, 8, 3, 262), (236, 2, 5, 117), (243, 2, 9, 130)],
  [(7, 10, 1, 828), (13, 10, 5, 832), (16, 10, 6, 833), (19, 10, 7, 834), (22, 10, 10, 837), (25, 10, 12, 839), (28, 10, 13, 840), (31, 10, 14, 841), (35, 10, 15, 842), (38, 10, 16, 843), (41, 10, 17, 844), (44, 10, 18, 845), (47, 10, 19, 846), (50, 10, 20, 847), (53, 10, 21, 848), (56, 10, 22, 849), (59, 10, 23, 850), (62, 10, 34, 861), (65, 10, 35, 862), (75, 10, 8, 835), (79, 10, 9, 836), (83, 10, 11, 838), (90, 10, 0, 827), (95, 10, 2, 829), (98, 10, 4, 831), (123, 10, 3, 830), (156, 10, 31, 858), (159, 10, 32, 859), (168, 10, 33, 860), (172, 10, 27, 854), (178, 10, 24, 851), (181, 10, 25, 852), (184, 10, 26, 853), (191, 10, 28, 855), (194, 10, 29, 856), (197, 10, 30, 857)],
  [],
  []]
def zl_fgo : List (Nat × Nat × Nat × Nat) → Nat → Option (Nat × Nat)
  | [], _ => none
  | (i, ci, k, _) :: r, idx => if i = idx then some (ci, k) else zl_fgo r idx
def zfl (oc idx : Nat) : Option (Nat × Nat) := zl_fgo (zl_F.getD oc []) idx
def zl_nst (own : String) (idx : Nat) (C f d : String) : Cond → Bool
  | .fieldLinkNest a b c x y _ => decide (a = own) && decide (b = idx) && decide (c = C) && decide (x = f) && decide (y = d)
  | _ => false
def zl_chk (oc : Nat) (q : Nat × Nat × Nat × Nat) : Bool := match zt_own[oc]?, vwCl[q.2.1]?, lw_tbl[q.2.2.2]? with
  | some own, some (C, T, N), some w => decide (q.2.2.1 < N) && ((decide (w = .fieldLink own q.1 C (T q.2.2.1).2.1 (T q.2.2.1).2.2.1) && goodWord w) || zl_nst own q.1 C (T q.2.2.1).2.1 (T q.2.2.1).2.2.1 w)
  | _, _, _ => false
def zl_all : List (List (Nat × Nat × Nat × Nat)) → Nat → Bool
  | [], _ => true
  | r :: l, i => r.all (zl_chk i) && zl_all l (i + 1)
set_option maxRecDepth 20000 in
theorem zl_F_ok : zl_all zl_F 0 = true := by decide +kernel
theorem zl_all_at : ∀ (l : List (List (Nat × Nat × Nat × Nat))) (i j : Nat), zl_all l i = true → ∀ q ∈ l.getD j [], zl_chk (i + j) q = true
  | [], i, j, _, q, hq => by simp at hq
  | r :: l, i, 0, h, q, hq => by
    simp only [zl_all, Bool.and_eq_true] at h
    exact List.all_eq_true.mp h.1 q (by simpa using hq)
  | r :: l, i, j + 1, h, q, hq => by
    simp only [zl_all, Bool.and_eq_true] at h
    rw [show i + (j + 1) = i + 1 + j by omega]
    exact zl_all_at l (i + 1) j h.2 q (by simpa using hq)
theorem zl_fgo_mem : ∀ (l : List (Nat × Nat × Nat × Nat)) (idx ci k : Nat), zl_fgo l idx = some (ci, k) → ∃ p, (idx, ci, k, p) ∈ l
  | [], _, _, _, h => by simp [zl_fgo] at h
  | (i, a, b, p) :: r, idx, ci, k, h => by
    unfold zl_fgo at h
    by_cases hi : i = idx
    · rw [if_pos hi] at h
      cases h
      exact ⟨p, by rw [hi]; exact List.mem_cons_self⟩
    · rw [if_neg hi] at h
      obtain ⟨p, hp⟩ := zl_fgo_mem r idx ci k h
      exact ⟨p, List.mem_cons_of_mem _ hp⟩
/-- a field link, and what is known of the class -/
def zfo (oc idx ci k : Nat) : Prop := ∃ (own C : String) (T : u_T) (N : Nat) (ty : Nat → FieldType), zt_own[oc]? = some own ∧ zk_C ci C T N ty ∧ k < N ∧ (Cond.fieldLink own idx C (T k).2.1 (T k).2.2.1 ∈ zx_G ∨ ∃ h, Cond.fieldLinkNest own idx C (T k).2.1 (T k).2.2.1 h ∈ zx_N)
theorem zf_ok {oc idx ci k : Nat} (h : zfl oc idx = some (ci, k)) : zfo oc idx ci k := by
  obtain ⟨p, hp⟩ := zl_fgo_mem _ _ _ _ h
  have hc := zl_all_at zl_F 0 oc zl_F_ok _ hp
  rw [Nat.zero_add] at hc
  unfold zl_chk at hc
  dsimp only at hc
  cases h1 : zt_own[oc]? with
  | none => rw [h1] at hc; simp at hc
  | some own =>
    cases h2 : vwCl[ci]? with
    | none => rw [h1, h2] at hc; simp at hc
    | some q =>
      obtain ⟨C, T, N⟩ := q
      cases h3 : lw_tbl[p]? with
      | none => rw [h1, h2, h3] at hc; simp at hc
      | some w =>
        rw [h1, h2, h3] at hc
        simp only [Bool.and_eq_true, Bool.or_eq_true, decide_eq_true_eq] at hc
        obtain ⟨hk, hw⟩ := hc
        obtain ⟨ty, hty⟩ := zk_all h2
        refine ⟨own, C, T, N, ty, h1, hty, hk, ?_⟩
        rcases hw with ⟨rfl, hg⟩ | hw
        · exact Or.inl (zg_at h3 hg)
        · unfold zl_nst at hw
          split at hw
          · simp only [Bool.and_eq_true, decide_eq_true_eq] at hw
            obtain ⟨⟨⟨⟨rfl, rfl⟩, rfl⟩, rfl⟩, rfl⟩ := hw
            exact Or.inr ⟨_, zg_nat h3 rfl⟩
          · cases hw
/-- call links -/
def zcP (y : MethodName) (np : Nat) : Prop := y.cls ≠ "java/lang/invoke/MethodHandle" ∧ y.cls ≠ "java/lang/invoke/VarHandle" ∧ (parseMethodDescriptor y.desc).map (fun d => d.parameters.length) = some np
def zcV (oc idx : Nat) (y : MethodName) (np : Nat) : Prop := ∃ own, zt_own[oc]? = some own ∧ Cond.methodLink own idx y ∈ zx_G ∧ Cond.instanceMethod y ∈ zx_G ∧ Cond.selects y.cls y y ∈ zx_G ∧ Cond.initialized y.cls ∈ zx_G ∧ zcP y np
def zcS (oc idx : Nat) (y : MethodName) (np : Nat) : Prop := ∃ own, zt_own[oc]? = some own ∧ Cond.methodLink own idx y ∈ zx_G ∧ Cond.static y ∈ zx_G ∧ Cond.initialized y.cls ∈ zx_G ∧ zcP y np
def zcI (oc idx : Nat) (y : MethodName) (np : Nat) : Prop := ∃ own, zt_own[oc]? = some own ∧ (Cond.methodLink own idx y ∈ zx_G ∨ ∃ h, Cond.methodLinkNest own idx y h ∈ zx_N) ∧ Cond.instanceMethod y ∈ zx_G ∧ Cond.initialized y.cls ∈ zx_G ∧ y.name = "<init>" ∧ zcP y np
theorem zp_J9_min_7cf53 : zcP yJ9_min_7cf53 2 := ⟨by decide +kernel, by decide +kernel, by decide +kernel⟩
theorem zs_J9_min_7cf53 : Cond.static yJ9_min_7cf53 ∈ zx_G := zg_at (i := 540) (by decide +kernel) (by decide +kernel)
theorem zn_J9 : Cond.initialized RJ9 ∈ zx_G := zg_at (i := 57) (by decide +kernel) (by decide +kernel)
theorem zc_0_49 : zcS 0 49 yJ9_min_7cf53 2 := ⟨_, rfl, zg_at (i := 718) (by decide +kernel) (by decide +kernel), zs_J9_min_7cf53, zn_J9, zp_J9_min_7cf53⟩
theorem zp_X0_changePlaces : zcP yX0_changePlaces 2 := ⟨by decide +kernel, by decide +kernel, by decide +kernel⟩
theorem zi_X0_changePlaces : Cond.instanceMethod yX0_changePlaces ∈ zx_G := zg_at (i := 724) (by decide +kernel) (by decide +kernel)
theorem ze_X0_changePlaces : Cond.selects yX0_changePlaces.cls yX0_changePlaces yX0_changePlaces ∈ zx_G := zg_at (i := 725) (by decide +kernel) (by decide +kernel)
theorem zn_X0 : Cond.initialized RX0 ∈ zx_G := zg_at (i := 51) (by decide +kernel) (by decide +kernel)
theorem zc_0_55 : zcV 0 55 yX0_changePlaces 2 := ⟨_, rfl, zg_at (i := 723) (by decide +kernel) (by decide +kernel), zi_X0_changePlaces, ze_X0_changePlaces, zn_X0, zp_X0_changePlaces⟩
theorem zp_X7_pintsFor : zcP yX7_pintsFor 2 := ⟨by decide +kernel, by decide +kernel, by decide +kernel⟩
theorem zi_X7_pintsFor : Cond.instanceMethod yX7_pintsFor ∈ zx_G := zg_at (i := 574) (by decide +kernel) (by decide +kernel)
theorem ze_X7_pintsFor : Cond.selects yX7_pintsFor.cls yX7_pintsFor yX7_pintsFor ∈ zx_G := zg_at (i := 575) (by decide +kernel) (by decide +kernel)
theorem zn_X7 : Cond.initialized RX7 ∈ zx_G := zg_at (i := 53) (by decide +kernel) (by decide +kernel)
theorem zc_1_49 : zcV 1 49 yX7_pintsFor 2 := ⟨_, rfl, zg_at (i := 573) (by decide +kernel) (by decide +kernel), zi_X7_pintsFor, ze_X7_pintsFor, zn_X7, zp_X7_pintsFor⟩
theorem zp_X7_unitsOfTop : zcP yX7_unitsOfTop 1 := ⟨by decide +kernel, by decide +kernel, by decide +kernel⟩
theorem zi_X7_unitsOfTop : Cond.instanceMethod yX7_unitsOfTop ∈ zx_G := zg_at (i := 550) (by decide +kernel) (by decide +kernel)
theorem ze_X7_unitsOfTop : Cond.selects yX7_unitsOfTop.cls yX7_unitsOfTop yX7_unitsOfTop ∈ zx_G := zg_at (i := 551) (by decide +kernel) (by decide +kernel)
theorem zc_1_53 : zcV 1 53 yX7_unitsOfTop 1 := ⟨_, rfl, zg_at (i := 577) (by decide +kernel) (by decide +kernel), zi_X7_unitsOfTop, ze_X7_unitsOfTop, zn_X7, zp_X7_unitsOfTop⟩
theorem zp_X6_number : zcP yX6_number 1 := ⟨by decide +kernel, by decide +kernel, by decide +kernel⟩
theorem zi_X6_number : Cond.instanceMethod yX6_number ∈ zx_G := zg_at (i := 474) (by decide +kernel) (by decide +kernel)
theorem ze_X6_number : Cond.selects yX6_number.cls yX6_number yX6_number ∈ zx_G := zg_at (i := 475) (by decide +kernel) (by decide +kernel)
theorem zn_X6 : Cond.initialized RX6 ∈ zx_G := zg_at (i := 47) (by decide +kernel) (by decide +kernel)
theorem zc_2_15 : zcV 2 15 yX6_number 1 := ⟨_, rfl, zg_at (i := 490) (by decide +kernel) (by decide +kernel), zi_X6_number, ze_X6_number, zn_X6, zp_X6_number⟩
theorem zp_X7_init : zcP yX7_init 0 := ⟨by decide +kernel, by decide +kernel, by decide +kernel⟩
theorem zi_X7_init : Cond.instanceMethod yX7_init ∈ zx_G := zg_at (i := 322) (by decide +kernel) (by decide +kernel)
theorem zc_3_11 : zcI 3 11 yX7_init 0 := ⟨_, rfl, Or.inr ⟨"BathNight", zg_nat (i := 321) (by decide +kernel) (by decide +kernel)⟩, zi_X7_init, zn_X7, rfl, zp_X7_init⟩
theorem zp_X4_init : zcP yX4_init 0 := ⟨by decide +kernel, by decide +kernel, by decide +kernel⟩
theorem zi_X4_init : Cond.instanceMethod yX4_init ∈ zx_G := zg_at (i := 342) (by decide +kernel) (by decide +kernel)
theorem zn_X4 : Cond.initialized RX4 ∈ zx_G := zg_at (i := 54) (by decide +kernel) (by decide +kernel)
theorem zc_3_20 : zcI 3 20 yX4_init 0 := ⟨_, rfl, Or.inr ⟨"BathNight", zg_nat (i := 341) (by decide +kernel) (by decide +kernel)⟩, zi_X4_init, zn_X4, rfl, zp_X4_init⟩
theorem zp_X1_init : zcP yX1_init 0 := ⟨by decide +kernel, by decide +kernel, by decide +kernel⟩
theorem zi_X1_init : Cond.instanceMethod yX1_init ∈ zx_G := zg_at (i := 360) (by decide +kernel) (by decide +kernel)
theorem zn_X1 : Cond.initialized RX1 ∈ zx_G := zg_at (i := 55) (by decide +kernel) (by decide +kernel)
theorem zc_3_27 : zcI 3 27 yX1_init 0 := ⟨_, rfl, Or.inr ⟨"BathNight", zg_nat (i := 359) (by decide +kernel) (by decide +kernel)⟩, zi_X1_init, zn_X1, rfl, zp_X1_init⟩
theorem zp_X3_begin : zcP yX3_begin 2 := ⟨by decide +kernel, by decide +kernel, by decide +kernel⟩
theorem zi_X3_begin : Cond.instanceMethod yX3_begin ∈ zx_G := zg_at (i := 619) (by decide +kernel) (by decide +kernel)
theorem ze_X3_begin : Cond.selects yX3_begin.cls yX3_begin yX3_begin ∈ zx_G := zg_at (i := 8) (by decide +kernel) (by decide +kernel)
theorem zn_X3 : Cond.initialized RX3 ∈ zx_G := zg_at (i := 52) (by decide +kernel) (by decide +kernel)
theorem zc_3_38 : zcV 3 38 yX3_begin 2 := ⟨_, rfl, zg_at (i := 617) (by decide +kernel) (by decide +kernel), zi_X3_begin, ze_X3_begin, zn_X3, zp_X3_begin⟩
theorem zp_X0_plansFor : zcP yX0_plansFor 1 := ⟨by decide +kernel, by decide +kernel, by decide +kernel⟩
theorem zi_X0_plansFor : Cond.instanceMethod yX0_plansFor ∈ zx_G := zg_at (i := 631) (by decide +kernel) (by decide +kernel)
theorem ze_X0_plansFor : Cond.selects yX0_plansFor.cls yX0_plansFor yX0_plansFor ∈ zx_G := zg_at (i := 632) (by decide +kernel) (by decide +kernel)
theorem zc_3_47 : zcV 3 47 yX0_plansFor 1 := ⟨_, rfl, zg_at (i := 630) (by decide +kernel) (by decide +kernel), zi_X0_plansFor, ze_X0_plansFor, zn_X0, zp_X0_plansFor⟩
theorem zp_X4_makeUp : zcP yX4_makeUp 0 := ⟨by decide +kernel, by decide +kernel, by decide +kernel⟩
theorem zi_X4_makeUp : Cond.instanceMethod yX4_makeUp ∈ zx_G := zg_at (i := 635) (by decide +kernel) (by decide +kernel)
theorem ze_X4_makeUp : Cond.selects yX4_makeUp.cls yX4_makeUp yX4_makeUp ∈ zx_G := zg_at (i := 636) (by decide +kernel) (by decide +kernel)
theorem zc_3_51 : zcV 3 51 yX4_makeUp 0 := ⟨_, rfl, zg_at (i := 634) (by decide +kernel) (by decide +kernel), zi_X4_makeUp, ze_X4_makeUp, zn_X4, zp_X4_makeUp⟩
theorem zp_X3_chosen : zcP yX3_chosen 3 := ⟨by decide +kernel, by decide +kernel, by decide +kernel⟩
theorem zi_X3_chosen : Cond.instanceMethod yX3_chosen ∈ zx_G := zg_at (i := 640) (by decide +kernel) (by decide +kernel)
theorem ze_X3_chosen : Cond.selects yX3_chosen.cls yX3_chosen yX3_chosen ∈ zx_G := zg_at (i := 9) (by decide +kernel) (by decide +kernel)
theorem zc_3_57 : zcV 3 57 yX3_chosen 3 := ⟨_, rfl, zg_at (i := 638) (by decide +kernel) (by decide +kernel), zi_X3_chosen, ze_X3_chosen, zn_X3, zp_X3_chosen⟩
theorem zp_X3_goesIn : zcP yX3_goesIn 3 := ⟨by decide +kernel, by decide +kernel, by decide +kernel⟩
theorem zi_X3_goesIn : Cond.instanceMethod yX3_goesIn ∈ zx_G := zg_at (i := 667) (by decide +kernel) (by decide +kernel)
theorem ze_X3_goesIn : Cond.selects yX3_goesIn.cls yX3_goesIn yX3_goesIn ∈ zx_G := zg_at (i := 11) (by decide +kernel) (by decide +kernel)
theorem zc_3_61 : zcV 3 61 yX3_goesIn 3 := ⟨_, rfl, zg_at (i := 665) (by decide +kernel) (by decide +kernel), zi_X3_goesIn, ze_X3_goesIn, zn_X3, zp_X3_goesIn⟩
theorem zp_X0_tapsAt : zcP yX0_tapsAt 1 := ⟨by decide +kernel, by decide +kernel, by decide +kernel⟩
theorem zi_X0_tapsAt : Cond.instanceMethod yX0_tapsAt ∈ zx_G := zg_at (i := 671) (by decide +kernel) (by decide +kernel)
theorem ze_X0_tapsAt : Cond.selects yX0_tapsAt.cls yX0_tapsAt yX0_tapsAt ∈ zx_G := zg_at (i := 672) (by decide +kernel) (by decide +kernel)
theorem zc_3_65 : zcV 3 65 yX0_tapsAt 1 := ⟨_, rfl, zg_at (i := 670) (by decide +kernel) (by decide +kernel), zi_X0_tapsAt, ze_X0_tapsAt, zn_X0, zp_X0_tapsAt⟩
theorem zp_X7_holds : zcP yX7_holds 0 := ⟨by decide +kernel, by decide +kernel, by decide +kernel⟩
theorem zi_X7_holds : Cond.instanceMethod yX7_holds ∈ zx_G := zg_at (i := 546) (by decide +kernel) (by decide +kernel)
theorem ze_X7_holds : Cond.selects yX7_holds.cls yX7_holds yX7_holds ∈ zx_G := zg_at (i := 547) (by decide +kernel) (by decide +kernel)
theorem zc_3_71 : zcV 3 71 yX7_holds 0 := ⟨_, rfl, zg_at (i := 674) (by decide +kernel) (by decide +kernel), zi_X7_holds, ze_X7_holds, zn_X7, zp_X7_holds⟩
theorem zc_3_75 : zcS 3 75 yJ9_min_7cf53 2 := ⟨_, rfl, zg_at (i := 675) (by decide +kernel) (by decide +kernel), zs_J9_min_7cf53, zn_J9, zp_J9_min_7cf53⟩
theorem zp_X7_draw : zcP yX7_draw 1 := ⟨by decide +kernel, by decide +kernel, by decide +kernel⟩
theorem zi_X7_draw : Cond.instanceMethod yX7_draw ∈ zx_G := zg_at (i := 554) (by decide +kernel) (by decide +kernel)
theorem ze_X7_draw : Cond.selects yX7_draw.cls yX7_draw yX7_draw ∈ zx_G := zg_at (i := 555) (by decide +kernel) (by decide +kernel)
theorem zc_3_81 : zcV 3 81 yX7_draw 1 := ⟨_, rfl, zg_at (i := 669) (by decide +kernel) (by decide +kernel), zi_X7_draw, ze_X7_draw, zn_X7, zp_X7_draw⟩
theorem zp_X4_gives : zcP yX4_gives 1 := ⟨by decide +kernel, by decide +kernel, by decide +kernel⟩
theorem zi_X4_gives : Cond.instanceMethod yX4_gives ∈ zx_G := zg_at (i := 677) (by decide +kernel) (by decide +kernel)
theorem ze_X4_gives : Cond.selects yX4_gives.cls yX4_gives yX4_gives ∈ zx_G := zg_at (i := 678) (by decide +kernel) (by decide +kernel)
theorem zc_3_85 : zcV 3 85 yX4_gives 1 := ⟨_, rfl, zg_at (i := 676) (by decide +kernel) (by decide +kernel), zi_X4_gives, ze_X4_gives, zn_X4, zp_X4_gives⟩
theorem zp_X7_warm : zcP yX7_warm 1 := ⟨by decide +kernel, by decide +kernel, by decide +kernel⟩
theorem zi_X7_warm : Cond.instanceMethod yX7_warm ∈ zx_G := zg_at (i := 681) (by decide +kernel) (by decide +kernel)
theorem ze_X7_warm : Cond.selects yX7_warm.cls yX7_warm yX7_warm ∈ zx_G := zg_at (i := 682) (by decide +kernel) (by decide +kernel)
theorem zc_3_89 : zcV 3 89 yX7_warm 1 := ⟨_, rfl, zg_at (i := 680) (by decide +kernel) (by decide +kernel), zi_X7_warm, ze_X7_warm, zn_X7, zp_X7_warm⟩
theorem zp_X7_lose : zcP yX7_lose 1 := ⟨by decide +kernel, by decide +kernel, by decide +kernel⟩
theorem zi_X7_lose : Cond.instanceMethod yX7_lose ∈ zx_G := zg_at (i := 685) (by decide +kernel) (by decide +kernel)
theorem ze_X7_lose : Cond.selects yX7_lose.cls yX7_lose yX7_lose ∈ zx_G := zg_at (i := 686) (by decide +kernel) (by decide +kernel)
theorem zc_3_95 : zcV 3 95 yX7_lose 1 := ⟨_, rfl, zg_at (i := 684) (by decide +kernel) (by decide +kernel), zi_X7_lose, ze_X7_lose, zn_X7, zp_X7_lose⟩
theorem zp_X4_getOlder : zcP yX4_getOlder 1 := ⟨by decide +kernel, by decide +kernel, by decide +kernel⟩
theorem zi_X4_getOlder : Cond.instanceMethod yX4_getOlder ∈ zx_G := zg_at (i := 689) (by decide +kernel) (by decide +kernel)
theorem ze_X4_getOlder : Cond.selects yX4_getOlder.cls yX4_getOlder yX4_getOlder ∈ zx_G := zg_at (i := 690) (by decide +kernel) (by decide +kernel)
theorem zc_3_98 : zcV 3 98 yX4_getOlder 1 := ⟨_, rfl, zg_at (i := 688) (by decide +kernel) (by decide +kernel), zi_X4_getOlder, ze_X4_getOlder, zn_X4, zp_X4_getOlder⟩
theorem zp_X5_scoreOfEvening : zcP yX5_scoreOfEvening 0 := ⟨by decide +kernel, by decide +kernel, by decide +kernel⟩
theorem zi_X5_scoreOfEvening : Cond.instanceMethod yX5_scoreOfEvening ∈ zx_G := zg_at (i := 693) (by decide +kernel) (by decide +kernel)
theorem ze_X5_scoreOfEvening : Cond.selects yX5_scoreOfEvening.cls yX5_scoreOfEvening yX5_scoreOfEvening ∈ zx_G := zg_at (i := 694) (by decide +kernel) (by decide +kernel)
theorem zn_X5 : Cond.initialized RX5 ∈ zx_G := zg_at (i := 48) (by decide +kernel) (by decide +kernel)
theorem zc_3_105 : zcV 3 105 yX5_scoreOfEvening 0 := ⟨_, rfl, zg_at (i := 692) (by decide +kernel) (by decide +kernel), zi_X5_scoreOfEvening, ze_X5_scoreOfEvening, zn_X5, zp_X5_scoreOfEvening⟩
theorem zp_X7_fill : zcP yX7_fill 1 := ⟨by decide +kernel, by decide +kernel, by decide +kernel⟩
theorem zi_X7_fill : Cond.instanceMethod yX7_fill ∈ zx_G := zg_at (i := 536) (by decide +kernel) (by decide +kernel)
theorem ze_X7_fill : Cond.selects yX7_fill.cls yX7_fill yX7_fill ∈ zx_G := zg_at (i := 537) (by decide +kernel) (by decide +kernel)
theorem zc_3_108 : zcV 3 108 yX7_fill 1 := ⟨_, rfl, zg_at (i := 621) (by decide +kernel) (by decide +kernel), zi_X7_fill, ze_X7_fill, zn_X7, zp_X7_fill⟩
theorem zp_X4_begin : zcP yX4_begin 1 := ⟨by decide +kernel, by decide +kernel, by decide +kernel⟩
theorem zi_X4_begin : Cond.instanceMethod yX4_begin ∈ zx_G := zg_at (i := 623) (by decide +kernel) (by decide +kernel)
theorem ze_X4_begin : Cond.selects yX4_begin.cls yX4_begin yX4_begin ∈ zx_G := zg_at (i := 624) (by decide +kernel) (by decide +kernel)
theorem zc_3_111 : zcV 3 111 yX4_begin 1 := ⟨_, rfl, zg_at (i := 622) (by decide +kernel) (by decide +kernel), zi_X4_begin, ze_X4_begin, zn_X4, zp_X4_begin⟩
theorem zp_X2_isNotInYet : zcP yX2_isNotInYet 0 := ⟨by decide +kernel, by decide +kernel, by decide +kernel⟩
theorem zi_X2_isNotInYet : Cond.instanceMethod yX2_isNotInYet ∈ zx_G := zg_at (i := 627) (by decide +kernel) (by decide +kernel)
theorem ze_X2_isNotInYet : Cond.selects yX2_isNotInYet.cls yX2_isNotInYet yX2_isNotInYet ∈ zx_G := zg_at (i := 628) (by decide +kernel) (by decide +kernel)
theorem zn_X2 : Cond.initialized RX2 ∈ zx_G := zg_at (i := 49) (by decide +kernel) (by decide +kernel)
theorem zc_3_127 : zcV 3 127 yX2_isNotInYet 0 := ⟨_, rfl, zg_at (i := 626) (by decide +kernel) (by decide +kernel), zi_X2_isNotInYet, ze_X2_isNotInYet, zn_X2, zp_X2_isNotInYet⟩
theorem zp_X0_placeInRow : zcP yX0_placeInRow 1 := ⟨by decide +kernel, by decide +kernel, by decide +kernel⟩
theorem zi_X0_placeInRow : Cond.instanceMethod yX0_placeInRow ∈ zx_G := zg_at (i := 643) (by decide +kernel) (by decide +kernel)
theorem ze_X0_placeInRow : Cond.selects yX0_placeInRow.cls yX0_placeInRow yX0_placeInRow ∈ zx_G := zg_at (i := 644) (by decide +kernel) (by decide +kernel)
theorem zc_3_135 : zcV 3 135 yX0_placeInRow 1 := ⟨_, rfl, zg_at (i := 642) (by decide +kernel) (by decide +kernel), zi_X0_placeInRow, ze_X0_placeInRow, zn_X0, zp_X0_placeInRow⟩
theorem zp_X5_who : zcP yX5_who 1 := ⟨by decide +kernel, by decide +kernel, by decide +kernel⟩
theorem zi_X5_who : Cond.instanceMethod yX5_who ∈ zx_G := zg_at (i := 496) (by decide +kernel) (by decide +kernel)
theorem ze_X5_who : Cond.selects yX5_who.cls yX5_who yX5_who ∈ zx_G := zg_at (i := 497) (by decide +kernel) (by decide +kernel)
theorem zc_3_139 : zcV 3 139 yX5_who 1 := ⟨_, rfl, zg_at (i := 646) (by decide +kernel) (by decide +kernel), zi_X5_who, ze_X5_who, zn_X5, zp_X5_who⟩
theorem zp_X3_can : zcP yX3_can 3 := ⟨by decide +kernel, by decide +kernel, by decide +kernel⟩
theorem zi_X3_can : Cond.instanceMethod yX3_can ∈ zx_G := zg_at (i := 649) (by decide +kernel) (by decide +kernel)
theorem ze_X3_can : Cond.selects yX3_can.cls yX3_can yX3_can ∈ zx_G := zg_at (i := 10) (by decide +kernel) (by decide +kernel)
theorem zc_3_143 : zcV 3 143 yX3_can 3 := ⟨_, rfl, zg_at (i := 647) (by decide +kernel) (by decide +kernel), zi_X3_can, ze_X3_can, zn_X3, zp_X3_can⟩
theorem zp_X7_heatOf : zcP yX7_heatOf 1 := ⟨by decide +kernel, by decide +kernel, by decide +kernel⟩
theorem zi_X7_heatOf : Cond.instanceMethod yX7_heatOf ∈ zx_G := zg_at (i := 657) (by decide +kernel) (by decide +kernel)
theorem ze_X7_heatOf : Cond.selects yX7_heatOf.cls yX7_heatOf yX7_heatOf ∈ zx_G := zg_at (i := 658) (by decide +kernel) (by decide +kernel)
theorem zc_3_147 : zcV 3 147 yX7_heatOf 1 := ⟨_, rfl, zg_at (i := 656) (by decide +kernel) (by decide +kernel), zi_X7_heatOf, ze_X7_heatOf, zn_X7, zp_X7_heatOf⟩
theorem zp_X0_prefers : zcP yX0_prefers 2 := ⟨by decide +kernel, by decide +kernel, by decide +kernel⟩
theorem zi_X0_prefers : Cond.instanceMethod yX0_prefers ∈ zx_G := zg_at (i := 662) (by decide +kernel) (by decide +kernel)
theorem ze_X0_prefers : Cond.selects yX0_prefers.cls yX0_prefers yX0_prefers ∈ zx_G := zg_at (i := 663) (by decide +kernel) (by decide +kernel)
theorem zc_3_156 : zcV 3 156 yX0_prefers 2 := ⟨_, rfl, zg_at (i := 661) (by decide +kernel) (by decide +kernel), zi_X0_prefers, ze_X0_prefers, zn_X0, zp_X0_prefers⟩
theorem zp_X1_isLeftBy : zcP yX1_isLeftBy 3 := ⟨by decide +kernel, by decide +kernel, by decide +kernel⟩
theorem zi_X1_isLeftBy : Cond.instanceMethod yX1_isLeftBy ∈ zx_G := zg_at (i := 652) (by decide +kernel) (by decide +kernel)
theorem ze_X1_isLeftBy : Cond.selects yX1_isLeftBy.cls yX1_isLeftBy yX1_isLeftBy ∈ zx_G := zg_at (i := 653) (by decide +kernel) (by decide +kernel)
theorem zc_3_179 : zcV 3 179 yX1_isLeftBy 3 := ⟨_, rfl, zg_at (i := 651) (by decide +kernel) (by decide +kernel), zi_X1_isLeftBy, ze_X1_isLeftBy, zn_X1, zp_X1_isLeftBy⟩
theorem zp_X1_comesFrom : zcP yX1_comesFrom 3 := ⟨by decide +kernel, by decide +kernel, by decide +kernel⟩
theorem zi_X1_comesFrom : Cond.instanceMethod yX1_comesFrom ∈ zx_G := zg_at (i := 570) (by decide +kernel) (by decide +kernel)
theorem ze_X1_comesFrom : Cond.selects yX1_comesFrom.cls yX1_comesFrom yX1_comesFrom ∈ zx_G := zg_at (i := 571) (by decide +kernel) (by decide +kernel)
theorem zc_3_189 : zcV 3 189 yX1_comesFrom 3 := ⟨_, rfl, zg_at (i := 655) (by decide +kernel) (by decide +kernel), zi_X1_comesFrom, ze_X1_comesFrom, zn_X1, zp_X1_comesFrom⟩
theorem zp_X2_init : zcP yX2_init 1 := ⟨by decide +kernel, by decide +kernel, by decide +kernel⟩
theorem zi_X2_init : Cond.instanceMethod yX2_init ∈ zx_G := zg_at (i := 98) (by decide +kernel) (by decide +kernel)
theorem zc_5_24 : zcI 5 24 yX2_init 1 := ⟨_, rfl, Or.inl (zg_at (i := 97) (by decide +kernel) (by decide +kernel)), zi_X2_init, zn_X2, rfl, zp_X2_init⟩
theorem zp_X5_clear : zcP yX5_clear 0 := ⟨by decide +kernel, by decide +kernel, by decide +kernel⟩
theorem zi_X5_clear : Cond.instanceMethod yX5_clear ∈ zx_G := zg_at (i := 175) (by decide +kernel) (by decide +kernel)
theorem ze_X5_clear : Cond.selects yX5_clear.cls yX5_clear yX5_clear ∈ zx_G := zg_at (i := 176) (by decide +kernel) (by decide +kernel)
theorem zc_5_27 : zcV 5 27 yX5_clear 0 := ⟨_, rfl, zg_at (i := 174) (by decide +kernel) (by decide +kernel), zi_X5_clear, ze_X5_clear, zn_X5, zp_X5_clear⟩
theorem zp_X2_becomeLike : zcP yX2_becomeLike 1 := ⟨by decide +kernel, by decide +kernel, by decide +kernel⟩
theorem zi_X2_becomeLike : Cond.instanceMethod yX2_becomeLike ∈ zx_G := zg_at (i := 755) (by decide +kernel) (by decide +kernel)
theorem ze_X2_becomeLike : Cond.selects yX2_becomeLike.cls yX2_becomeLike yX2_becomeLike ∈ zx_G := zg_at (i := 756) (by decide +kernel) (by decide +kernel)
theorem zc_5_74 : zcV 5 74 yX2_becomeLike 1 := ⟨_, rfl, zg_at (i := 754) (by decide +kernel) (by decide +kernel), zi_X2_becomeLike, ze_X2_becomeLike, zn_X2, zp_X2_becomeLike⟩
theorem zc_5_78 : zcS 5 78 yJ9_min_7cf53 2 := ⟨_, rfl, zg_at (i := 762) (by decide +kernel) (by decide +kernel), zs_J9_min_7cf53, zn_J9, zp_J9_min_7cf53⟩
theorem zp_X5_takesTank : zcP yX5_takesTank 1 := ⟨by decide +kernel, by decide +kernel, by decide +kernel⟩
theorem zi_X5_takesTank : Cond.instanceMethod yX5_takesTank ∈ zx_G := zg_at (i := 467) (by decide +kernel) (by decide +kernel)
theorem ze_X5_takesTank : Cond.selects yX5_takesTank.cls yX5_takesTank yX5_takesTank ∈ zx_G := zg_at (i := 0) (by decide +kernel) (by decide +kernel)
theorem zc_5_95 : zcV 5 95 yX5_takesTank 1 := ⟨_, rfl, zg_at (i := 465) (by decide +kernel) (by decide +kernel), zi_X5_takesTank, ze_X5_takesTank, zn_X5, zp_X5_takesTank⟩
theorem zp_X5_takesStage : zcP yX5_takesStage 1 := ⟨by decide +kernel, by decide +kernel, by decide +kernel⟩
theorem zi_X5_takesStage : Cond.instanceMethod yX5_takesStage ∈ zx_G := zg_at (i := 480) (by decide +kernel) (by decide +kernel)
theorem ze_X5_takesStage : Cond.selects yX5_takesStage.cls yX5_takesStage yX5_takesStage ∈ zx_G := zg_at (i := 1) (by decide +kernel) (by decide +kernel)
theorem zc_5_99 : zcV 5 99 yX5_takesStage 1 := ⟨_, rfl, zg_at (i := 478) (by decide +kernel) (by decide +kernel), zi_X5_takesStage, ze_X5_takesStage, zn_X5, zp_X5_takesStage⟩
theorem zp_X5_takesBather : zcP yX5_takesBather 1 := ⟨by decide +kernel, by decide +kernel, by decide +kernel⟩
theorem zi_X5_takesBather : Cond.instanceMethod yX5_takesBather ∈ zx_G := zg_at (i := 484) (by decide +kernel) (by decide +kernel)
theorem ze_X5_takesBather : Cond.selects yX5_takesBather.cls yX5_takesBather yX5_takesBather ∈ zx_G := zg_at (i := 2) (by decide +kernel) (by decide +kernel)
theorem zc_5_102 : zcV 5 102 yX5_takesBather 1 := ⟨_, rfl, zg_at (i := 482) (by decide +kernel) (by decide +kernel), zi_X5_takesBather, ze_X5_takesBather, zn_X5, zp_X5_takesBather⟩
theorem zp_X5_takesPair : zcP yX5_takesPair 1 := ⟨by decide +kernel, by decide +kernel, by decide +kernel⟩
theorem zi_X5_takesPair : Cond.instanceMethod yX5_takesPair ∈ zx_G := zg_at (i := 493) (by decide +kernel) (by decide +kernel)
theorem ze_X5_takesPair : Cond.selects yX5_takesPair.cls yX5_takesPair yX5_takesPair ∈ zx_G := zg_at (i := 3) (by decide +kernel) (by decide +kernel)
theorem zc_5_105 : zcV 5 105 yX5_takesPair 1 := ⟨_, rfl, zg_at (i := 491) (by decide +kernel) (by decide +kernel), zi_X5_takesPair, ze_X5_takesPair, zn_X5, zp_X5_takesPair⟩
theorem zp_X5_takesKettle : zcP yX5_takesKettle 1 := ⟨by decide +kernel, by decide +kernel, by decide +kernel⟩
theorem zi_X5_takesKettle : Cond.instanceMethod yX5_takesKettle ∈ zx_G := zg_at (i := 506) (by decide +kernel) (by decide +kernel)
theorem ze_X5_takesKettle : Cond.selects yX5_takesKettle.cls yX5_takesKettle yX5_takesKettle ∈ zx_G := zg_at (i := 4) (by decide +kernel) (by decide +kernel)
theorem zc_5_108 : zcV 5 108 yX5_takesKettle 1 := ⟨_, rfl, zg_at (i := 504) (by decide +kernel) (by decide +kernel), zi_X5_takesKettle, ze_X5_takesKettle, zn_X5, zp_X5_takesKettle⟩
theorem zp_X5_takesNumber : zcP yX5_takesNumber 1 := ⟨by decide +kernel, by decide +kernel, by decide +kernel⟩
theorem zi_X5_takesNumber : Cond.instanceMethod yX5_takesNumber ∈ zx_G := zg_at (i := 510) (by decide +kernel) (by decide +kernel)
theorem ze_X5_takesNumber : Cond.selects yX5_takesNumber.cls yX5_takesNumber yX5_takesNumber ∈ zx_G := zg_at (i := 5) (by decide +kernel) (by decide +kernel)
theorem zc_5_111 : zcV 5 111 yX5_takesNumber 1 := ⟨_, rfl, zg_at (i := 508) (by decide +kernel) (by decide +kernel), zi_X5_takesNumber, ze_X5_takesNumber, zn_X5, zp_X5_takesNumber⟩
theorem zp_X6_isWithin : zcP yX6_isWithin 3 := ⟨by decide +kernel, by decide +kernel, by decide +kernel⟩
theorem zi_X6_isWithin : Cond.instanceMethod yX6_isWithin ∈ zx_G := zg_at (i := 470) (by decide +kernel) (by decide +kernel)
theorem ze_X6_isWithin : Cond.selects yX6_isWithin.cls yX6_isWithin yX6_isWithin ∈ zx_G := zg_at (i := 471) (by decide +kernel) (by decide +kernel)
theorem zc_5_117 : zcV 5 117 yX6_isWithin 3 := ⟨_, rfl, zg_at (i := 469) (by decide +kernel) (by decide +kernel), zi_X6_isWithin, ze_X6_isWithin, zn_X6, zp_X6_isWithin⟩
theorem zc_5_121 : zcV 5 121 yX6_number 1 := ⟨_, rfl, zg_at (i := 477) (by decide +kernel) (by decide +kernel), zi_X6_number, ze_X6_number, zn_X6, zp_X6_number⟩
theorem zp_X2_become : zcP yX2_become 1 := ⟨by decide +kernel, by decide +kernel, by decide +kernel⟩
theorem zi_X2_become : Cond.instanceMethod yX2_become ∈ zx_G := zg_at (i := 487) (by decide +kernel) (by decide +kernel)
theorem ze_X2_become : Cond.selects yX2_become.cls yX2_become yX2_become ∈ zx_G := zg_at (i := 488) (by decide +kernel) (by decide +kernel)
theorem zc_5_125 : zcV 5 125 yX2_become 1 := ⟨_, rfl, zg_at (i := 486) (by decide +kernel) (by decide +kernel), zi_X2_become, ze_X2_become, zn_X2, zp_X2_become⟩
theorem zc_5_129 : zcV 5 129 yX5_who 1 := ⟨_, rfl, zg_at (i := 495) (by decide +kernel) (by decide +kernel), zi_X5_who, ze_X5_who, zn_X5, zp_X5_who⟩
theorem zp_X6_isPairOf : zcP yX6_isPairOf 1 := ⟨by decide +kernel, by decide +kernel, by decide +kernel⟩
theorem zi_X6_isPairOf : Cond.instanceMethod yX6_isPairOf ∈ zx_G := zg_at (i := 500) (by decide +kernel) (by decide +kernel)
theorem ze_X6_isPairOf : Cond.selects yX6_isPairOf.cls yX6_isPairOf yX6_isPairOf ∈ zx_G := zg_at (i := 501) (by decide +kernel) (by decide +kernel)
theorem zc_5_133 : zcV 5 133 yX6_isPairOf 1 := ⟨_, rfl, zg_at (i := 499) (by decide +kernel) (by decide +kernel), zi_X6_isPairOf, ze_X6_isPairOf, zn_X6, zp_X6_isPairOf⟩
theorem zp_X6_isOneWithin : zcP yX6_isOneWithin 2 := ⟨by decide +kernel, by decide +kernel, by decide +kernel⟩
theorem zi_X6_isOneWithin : Cond.instanceMethod yX6_isOneWithin ∈ zx_G := zg_at (i := 513) (by decide +kernel) (by decide +kernel)
theorem ze_X6_isOneWithin : Cond.selects yX6_isOneWithin.cls yX6_isOneWithin yX6_isOneWithin ∈ zx_G := zg_at (i := 514) (by decide +kernel) (by decide +kernel)
theorem zc_5_146 : zcV 5 146 yX6_isOneWithin 2 := ⟨_, rfl, zg_at (i := 512) (by decide +kernel) (by decide +kernel), zi_X6_isOneWithin, ze_X6_isOneWithin, zn_X6, zp_X6_isOneWithin⟩
theorem zp_J9_max_7cf53 : zcP yJ9_max_7cf53 2 := ⟨by decide +kernel, by decide +kernel, by decide +kernel⟩
theorem zs_J9_max_7cf53 : Cond.static yJ9_max_7cf53 ∈ zx_G := zg_at (i := 543) (by decide +kernel) (by decide +kernel)
theorem zc_5_156 : zcS 5 156 yJ9_max_7cf53 2 := ⟨_, rfl, zg_at (i := 696) (by decide +kernel) (by decide +kernel), zs_J9_max_7cf53, zn_J9, zp_J9_max_7cf53⟩
theorem zc_6_22 : zcV 6 22 yX6_number 1 := ⟨_, rfl, zg_at (i := 473) (by decide +kernel) (by decide +kernel), zi_X6_number, ze_X6_number, zn_X6, zp_X6_number⟩
theorem zc_6_26 : zcV 6 26 yX6_isWithin 3 := ⟨_, rfl, zg_at (i := 503) (by decide +kernel) (by decide +kernel), zi_X6_isWithin, ze_X6_isWithin, zn_X6, zp_X6_isWithin⟩
theorem zc_7_24 : zcS 7 24 yJ9_min_7cf53 2 := ⟨_, rfl, zg_at (i := 539) (by decide +kernel) (by decide +kernel), zs_J9_min_7cf53, zn_J9, zp_J9_min_7cf53⟩
theorem zc_7_32 : zcS 7 32 yJ9_max_7cf53 2 := ⟨_, rfl, zg_at (i := 542) (by decide +kernel) (by decide +kernel), zs_J9_max_7cf53, zn_J9, zp_J9_max_7cf53⟩
theorem zp_X7_unitsIn : zcP yX7_unitsIn 1 := ⟨by decide +kernel, by decide +kernel, by decide +kernel⟩
theorem zi_X7_unitsIn : Cond.instanceMethod yX7_unitsIn ∈ zx_G := zg_at (i := 562) (by decide +kernel) (by decide +kernel)
theorem ze_X7_unitsIn : Cond.selects yX7_unitsIn.cls yX7_unitsIn yX7_unitsIn ∈ zx_G := zg_at (i := 563) (by decide +kernel) (by decide +kernel)
theorem zc_7_42 : zcV 7 42 yX7_unitsIn 1 := ⟨_, rfl, zg_at (i := 660) (by decide +kernel) (by decide +kernel), zi_X7_unitsIn, ze_X7_unitsIn, zn_X7, zp_X7_unitsIn⟩
theorem zp_X7_unitsOfPart : zcP yX7_unitsOfPart 2 := ⟨by decide +kernel, by decide +kernel, by decide +kernel⟩
theorem zi_X7_unitsOfPart : Cond.instanceMethod yX7_unitsOfPart ∈ zx_G := zg_at (i := 559) (by decide +kernel) (by decide +kernel)
theorem ze_X7_unitsOfPart : Cond.selects yX7_unitsOfPart.cls yX7_unitsOfPart yX7_unitsOfPart ∈ zx_G := zg_at (i := 6) (by decide +kernel) (by decide +kernel)
theorem zc_7_46 : zcV 7 46 yX7_unitsOfPart 2 := ⟨_, rfl, zg_at (i := 557) (by decide +kernel) (by decide +kernel), zi_X7_unitsOfPart, ze_X7_unitsOfPart, zn_X7, zp_X7_unitsOfPart⟩
theorem zp_X8_clear : zcP yX8_clear 0 := ⟨by decide +kernel, by decide +kernel, by decide +kernel⟩
theorem zi_X8_clear : Cond.instanceMethod yX8_clear ∈ zx_G := zg_at (i := 249) (by decide +kernel) (by decide +kernel)
theorem ze_X8_clear : Cond.selects yX8_clear.cls yX8_clear yX8_clear ∈ zx_G := zg_at (i := 250) (by decide +kernel) (by decide +kernel)
theorem zn_X8 : Cond.initialized RX8 ∈ zx_G := zg_at (i := 50) (by decide +kernel) (by decide +kernel)
theorem zc_8_18 : zcV 8 18 yX8_clear 0 := ⟨_, rfl, zg_at (i := 248) (by decide +kernel) (by decide +kernel), zi_X8_clear, ze_X8_clear, zn_X8, zp_X8_clear⟩
theorem zp_X6_init : zcP yX6_init 0 := ⟨by decide +kernel, by decide +kernel, by decide +kernel⟩
theorem zi_X6_init : Cond.instanceMethod yX6_init ∈ zx_G := zg_at (i := 71) (by decide +kernel) (by decide +kernel)
theorem zc_9_15 : zcI 9 15 yX6_init 0 := ⟨_, rfl, Or.inr ⟨"BathNight", zg_nat (i := 70) (by decide +kernel) (by decide +kernel)⟩, zi_X6_init, zn_X6, rfl, zp_X6_init⟩
theorem zp_X5_init : zcP yX5_init 0 := ⟨by decide +kernel, by decide +kernel, by decide +kernel⟩
theorem zi_X5_init : Cond.instanceMethod yX5_init ∈ zx_G := zg_at (i := 91) (by decide +kernel) (by decide +kernel)
theorem zc_9_22 : zcI 9 22 yX5_init 0 := ⟨_, rfl, Or.inl (zg_at (i := 90) (by decide +kernel) (by decide +kernel)), zi_X5_init, zn_X5, rfl, zp_X5_init⟩
theorem zp_X8_init : zcP yX8_init 0 := ⟨by decide +kernel, by decide +kernel, by decide +kernel⟩
theorem zi_X8_init : Cond.instanceMethod yX8_init ∈ zx_G := zg_at (i := 245) (by decide +kernel) (by decide +kernel)
theorem zc_9_32 : zcI 9 32 yX8_init 0 := ⟨_, rfl, Or.inl (zg_at (i := 244) (by decide +kernel) (by decide +kernel)), zi_X8_init, zn_X8, rfl, zp_X8_init⟩
theorem zp_X0_init : zcP yX0_init 0 := ⟨by decide +kernel, by decide +kernel, by decide +kernel⟩
theorem zi_X0_init : Cond.instanceMethod yX0_init ∈ zx_G := zg_at (i := 276) (by decide +kernel) (by decide +kernel)
theorem zc_9_43 : zcI 9 43 yX0_init 0 := ⟨_, rfl, Or.inr ⟨"BathNight", zg_nat (i := 275) (by decide +kernel) (by decide +kernel)⟩, zi_X0_init, zn_X0, rfl, zp_X0_init⟩
theorem zp_X3_init : zcP yX3_init 0 := ⟨by decide +kernel, by decide +kernel, by decide +kernel⟩
theorem zi_X3_init : Cond.instanceMethod yX3_init ∈ zx_G := zg_at (i := 316) (by decide +kernel) (by decide +kernel)
theorem zc_9_50 : zcI 9 50 yX3_init 0 := ⟨_, rfl, Or.inr ⟨"BathNight", zg_nat (i := 315) (by decide +kernel) (by decide +kernel)⟩, zi_X3_init, zn_X3, rfl, zp_X3_init⟩
theorem zc_9_63 : zcV 9 63 yX5_clear 0 := ⟨_, rfl, zg_at (i := 456) (by decide +kernel) (by decide +kernel), zi_X5_clear, ze_X5_clear, zn_X5, zp_X5_clear⟩
theorem zp_X6_readFrom : zcP yX6_readFrom 3 := ⟨by decide +kernel, by decide +kernel, by decide +kernel⟩
theorem zi_X6_readFrom : Cond.instanceMethod yX6_readFrom ∈ zx_G := zg_at (i := 458) (by decide +kernel) (by decide +kernel)
theorem ze_X6_readFrom : Cond.selects yX6_readFrom.cls yX6_readFrom yX6_readFrom ∈ zx_G := zg_at (i := 459) (by decide +kernel) (by decide +kernel)
theorem zc_9_66 : zcV 9 66 yX6_readFrom 3 := ⟨_, rfl, zg_at (i := 457) (by decide +kernel) (by decide +kernel), zi_X6_readFrom, ze_X6_readFrom, zn_X6, zp_X6_readFrom⟩
theorem zp_X5_takes : zcP yX5_takes 1 := ⟨by decide +kernel, by decide +kernel, by decide +kernel⟩
theorem zi_X5_takes : Cond.instanceMethod yX5_takes ∈ zx_G := zg_at (i := 462) (by decide +kernel) (by decide +kernel)
theorem ze_X5_takes : Cond.selects yX5_takes.cls yX5_takes yX5_takes ∈ zx_G := zg_at (i := 463) (by decide +kernel) (by decide +kernel)
theorem zc_9_70 : zcV 9 70 yX5_takes 1 := ⟨_, rfl, zg_at (i := 461) (by decide +kernel) (by decide +kernel), zi_X5_takes, ze_X5_takes, zn_X5, zp_X5_takes⟩
theorem zp_X9_fault : zcP yX9_fault 0 := ⟨by decide +kernel, by decide +kernel, by decide +kernel⟩
theorem zi_X9_fault : Cond.instanceMethod yX9_fault ∈ zx_G := zg_at (i := 453) (by decide +kernel) (by decide +kernel)
theorem ze_X9_fault : Cond.selects yX9_fault.cls yX9_fault yX9_fault ∈ zx_G := zg_at (i := 454) (by decide +kernel) (by decide +kernel)
theorem zn_X9 : Cond.initialized RX9 ∈ zx_G := zg_at (i := 46) (by decide +kernel) (by decide +kernel)
theorem zc_9_74 : zcV 9 74 yX9_fault 0 := ⟨_, rfl, zg_at (i := 520) (by decide +kernel) (by decide +kernel), zi_X9_fault, ze_X9_fault, zn_X9, zp_X9_fault⟩
theorem zc_9_78 : zcV 9 78 yX8_clear 0 := ⟨_, rfl, zg_at (i := 521) (by decide +kernel) (by decide +kernel), zi_X8_clear, ze_X8_clear, zn_X8, zp_X8_clear⟩
theorem zc_9_85 : zcV 9 85 yX5_who 1 := ⟨_, rfl, zg_at (i := 526) (by decide +kernel) (by decide +kernel), zi_X5_who, ze_X5_who, zn_X5, zp_X5_who⟩
theorem zp_X2_toldOf : zcP yX2_toldOf 1 := ⟨by decide +kernel, by decide +kernel, by decide +kernel⟩
theorem zi_X2_toldOf : Cond.instanceMethod yX2_toldOf ∈ zx_G := zg_at (i := 528) (by decide +kernel) (by decide +kernel)
theorem ze_X2_toldOf : Cond.selects yX2_toldOf.cls yX2_toldOf yX2_toldOf ∈ zx_G := zg_at (i := 529) (by decide +kernel) (by decide +kernel)
theorem zc_9_89 : zcV 9 89 yX2_toldOf 1 := ⟨_, rfl, zg_at (i := 527) (by decide +kernel) (by decide +kernel), zi_X2_toldOf, ze_X2_toldOf, zn_X2, zp_X2_toldOf⟩
theorem zc_9_99 : zcV 9 99 yX7_fill 1 := ⟨_, rfl, zg_at (i := 535) (by decide +kernel) (by decide +kernel), zi_X7_fill, ze_X7_fill, zn_X7, zp_X7_fill⟩
theorem zc_9_105 : zcV 9 105 yX7_holds 0 := ⟨_, rfl, zg_at (i := 545) (by decide +kernel) (by decide +kernel), zi_X7_holds, ze_X7_holds, zn_X7, zp_X7_holds⟩
theorem zc_9_111 : zcV 9 111 yX7_unitsOfTop 1 := ⟨_, rfl, zg_at (i := 549) (by decide +kernel) (by decide +kernel), zi_X7_unitsOfTop, ze_X7_unitsOfTop, zn_X7, zp_X7_unitsOfTop⟩
theorem zc_9_114 : zcV 9 114 yX7_draw 1 := ⟨_, rfl, zg_at (i := 553) (by decide +kernel) (by decide +kernel), zi_X7_draw, ze_X7_draw, zn_X7, zp_X7_draw⟩
theorem zc_9_118 : zcV 9 118 yX7_unitsIn 1 := ⟨_, rfl, zg_at (i := 561) (by decide +kernel) (by decide +kernel), zi_X7_unitsIn, ze_X7_unitsIn, zn_X7, zp_X7_unitsIn⟩
theorem zc_9_128 : zcV 9 128 yX1_comesFrom 3 := ⟨_, rfl, zg_at (i := 569) (by decide +kernel) (by decide +kernel), zi_X1_comesFrom, ze_X1_comesFrom, zn_X1, zp_X1_comesFrom⟩
theorem zp_X9_isRule : zcP yX9_isRule 1 := ⟨by decide +kernel, by decide +kernel, by decide +kernel⟩
theorem zs_X9_isRule : Cond.static yX9_isRule ∈ zx_G := zg_at (i := 596) (by decide +kernel) (by decide +kernel)
theorem zc_9_152 : zcS 9 152 yX9_isRule 1 := ⟨_, rfl, zg_at (i := 595) (by decide +kernel) (by decide +kernel), zs_X9_isRule, zn_X9, zp_X9_isRule⟩
theorem zp_X9_ask : zcP yX9_ask 1 := ⟨by decide +kernel, by decide +kernel, by decide +kernel⟩
theorem zi_X9_ask : Cond.instanceMethod yX9_ask ∈ zx_G := zg_at (i := 600) (by decide +kernel) (by decide +kernel)
theorem ze_X9_ask : Cond.selects yX9_ask.cls yX9_ask yX9_ask ∈ zx_G := zg_at (i := 7) (by decide +kernel) (by decide +kernel)
theorem zc_9_156 : zcV 9 156 yX9_ask 1 := ⟨_, rfl, zg_at (i := 598) (by decide +kernel) (by decide +kernel), zi_X9_ask, ze_X9_ask, zn_X9, zp_X9_ask⟩
theorem zp_X3_run : zcP yX3_run 2 := ⟨by decide +kernel, by decide +kernel, by decide +kernel⟩
theorem zi_X3_run : Cond.instanceMethod yX3_run ∈ zx_G := zg_at (i := 614) (by decide +kernel) (by decide +kernel)
theorem ze_X3_run : Cond.selects yX3_run.cls yX3_run yX3_run ∈ zx_G := zg_at (i := 615) (by decide +kernel) (by decide +kernel)
theorem zc_9_159 : zcV 9 159 yX3_run 2 := ⟨_, rfl, zg_at (i := 613) (by decide +kernel) (by decide +kernel), zi_X3_run, ze_X3_run, zn_X3, zp_X3_run⟩
theorem zc_9_185 : zcV 9 185 yX7_heatOf 1 := ⟨_, rfl, zg_at (i := 705) (by decide +kernel) (by decide +kernel), zi_X7_heatOf, ze_X7_heatOf, zn_X7, zp_X7_heatOf⟩
theorem zp_X0_rowByNumbers : zcP yX0_rowByNumbers 0 := ⟨by decide +kernel, by decide +kernel, by decide +kernel⟩
theorem zi_X0_rowByNumbers : Cond.instanceMethod yX0_rowByNumbers ∈ zx_G := zg_at (i := 711) (by decide +kernel) (by decide +kernel)
theorem ze_X0_rowByNumbers : Cond.selects yX0_rowByNumbers.cls yX0_rowByNumbers yX0_rowByNumbers ∈ zx_G := zg_at (i := 712) (by decide +kernel) (by decide +kernel)
theorem zc_9_188 : zcV 9 188 yX0_rowByNumbers 0 := ⟨_, rfl, zg_at (i := 710) (by decide +kernel) (by decide +kernel), zi_X0_rowByNumbers, ze_X0_rowByNumbers, zn_X0, zp_X0_rowByNumbers⟩
theorem zp_X0_copyRowTo : zcP yX0_copyRowTo 1 := ⟨by decide +kernel, by decide +kernel, by decide +kernel⟩
theorem zi_X0_copyRowTo : Cond.instanceMethod yX0_copyRowTo ∈ zx_G := zg_at (i := 715) (by decide +kernel) (by decide +kernel)
theorem ze_X0_copyRowTo : Cond.selects yX0_copyRowTo.cls yX0_copyRowTo yX0_copyRowTo ∈ zx_G := zg_at (i := 716) (by decide +kernel) (by decide +kernel)
theorem zc_9_191 : zcV 9 191 yX0_copyRowTo 1 := ⟨_, rfl, zg_at (i := 714) (by decide +kernel) (by decide +kernel), zi_X0_copyRowTo, ze_X0_copyRowTo, zn_X0, zp_X0_copyRowTo⟩
theorem zp_X0_nextRow : zcP yX0_nextRow 1 := ⟨by decide +kernel, by decide +kernel, by decide +kernel⟩
theorem zi_X0_nextRow : Cond.instanceMethod yX0_nextRow ∈ zx_G := zg_at (i := 720) (by decide +kernel) (by decide +kernel)
theorem ze_X0_nextRow : Cond.selects yX0_nextRow.cls yX0_nextRow yX0_nextRow ∈ zx_G := zg_at (i := 721) (by decide +kernel) (by decide +kernel)
theorem zc_9_195 : zcV 9 195 yX0_nextRow 1 := ⟨_, rfl, zg_at (i := 719) (by decide +kernel) (by decide +kernel), zi_X0_nextRow, ze_X0_nextRow, zn_X0, zp_X0_nextRow⟩
theorem zc_9_199 : zcV 9 199 yX0_changePlaces 2 := ⟨_, rfl, zg_at (i := 732) (by decide +kernel) (by decide +kernel), zi_X0_changePlaces, ze_X0_changePlaces, zn_X0, zp_X0_changePlaces⟩
theorem zp_X9_nobodyLate : zcP yX9_nobodyLate 1 := ⟨by decide +kernel, by decide +kernel, by decide +kernel⟩
theorem zi_X9_nobodyLate : Cond.instanceMethod yX9_nobodyLate ∈ zx_G := zg_at (i := 743) (by decide +kernel) (by decide +kernel)
theorem ze_X9_nobodyLate : Cond.selects yX9_nobodyLate.cls yX9_nobodyLate yX9_nobodyLate ∈ zx_G := zg_at (i := 12) (by decide +kernel) (by decide +kernel)
theorem zc_9_211 : zcV 9 211 yX9_nobodyLate 1 := ⟨_, rfl, zg_at (i := 741) (by decide +kernel) (by decide +kernel), zi_X9_nobodyLate, ze_X9_nobodyLate, zn_X9, zp_X9_nobodyLate⟩
theorem zp_X5_becomeLike : zcP yX5_becomeLike 1 := ⟨by decide +kernel, by decide +kernel, by decide +kernel⟩
theorem zi_X5_becomeLike : Cond.instanceMethod yX5_becomeLike ∈ zx_G := zg_at (i := 750) (by decide +kernel) (by decide +kernel)
theorem ze_X5_becomeLike : Cond.selects yX5_becomeLike.cls yX5_becomeLike yX5_becomeLike ∈ zx_G := zg_at (i := 751) (by decide +kernel) (by decide +kernel)
theorem zc_9_215 : zcV 9 215 yX5_becomeLike 1 := ⟨_, rfl, zg_at (i := 749) (by decide +kernel) (by decide +kernel), zi_X5_becomeLike, ze_X5_becomeLike, zn_X5, zp_X5_becomeLike⟩
theorem zp_X5_grow : zcP yX5_grow 1 := ⟨by decide +kernel, by decide +kernel, by decide +kernel⟩
theorem zi_X5_grow : Cond.instanceMethod yX5_grow ∈ zx_G := zg_at (i := 759) (by decide +kernel) (by decide +kernel)
theorem ze_X5_grow : Cond.selects yX5_grow.cls yX5_grow yX5_grow ∈ zx_G := zg_at (i := 760) (by decide +kernel) (by decide +kernel)
theorem zc_9_218 : zcV 9 218 yX5_grow 1 := ⟨_, rfl, zg_at (i := 758) (by decide +kernel) (by decide +kernel), zi_X5_grow, ze_X5_grow, zn_X5, zp_X5_grow⟩
theorem zp_X8_sumOfTenths : zcP yX8_sumOfTenths 0 := ⟨by decide +kernel, by decide +kernel, by decide +kernel⟩
theorem zi_X8_sumOfTenths : Cond.instanceMethod yX8_sumOfTenths ∈ zx_G := zg_at (i := 776) (by decide +kernel) (by decide +kernel)
theorem ze_X8_sumOfTenths : Cond.selects yX8_sumOfTenths.cls yX8_sumOfTenths yX8_sumOfTenths ∈ zx_G := zg_at (i := 777) (by decide +kernel) (by decide +kernel)
theorem zc_9_233 : zcV 9 233 yX8_sumOfTenths 0 := ⟨_, rfl, zg_at (i := 775) (by decide +kernel) (by decide +kernel), zi_X8_sumOfTenths, ze_X8_sumOfTenths, zn_X8, zp_X8_sumOfTenths⟩
theorem zp_X9_sumToldAt : zcP yX9_sumToldAt 2 := ⟨by decide +kernel, by decide +kernel, by decide +kernel⟩
theorem zi_X9_sumToldAt : Cond.instanceMethod yX9_sumToldAt ∈ zx_G := zg_at (i := 781) (by decide +kernel) (by decide +kernel)
theorem ze_X9_sumToldAt : Cond.selects yX9_sumToldAt.cls yX9_sumToldAt yX9_sumToldAt ∈ zx_G := zg_at (i := 13) (by decide +kernel) (by decide +kernel)
theorem zc_9_239 : zcV 9 239 yX9_sumToldAt 2 := ⟨_, rfl, zg_at (i := 779) (by decide +kernel) (by decide +kernel), zi_X9_sumToldAt, ze_X9_sumToldAt, zn_X9, zp_X9_sumToldAt⟩
theorem zp_X9_bestToCome : zcP yX9_bestToCome 1 := ⟨by decide +kernel, by decide +kernel, by decide +kernel⟩
theorem zi_X9_bestToCome : Cond.instanceMethod yX9_bestToCome ∈ zx_G := zg_at (i := 789) (by decide +kernel) (by decide +kernel)
theorem ze_X9_bestToCome : Cond.selects yX9_bestToCome.cls yX9_bestToCome yX9_bestToCome ∈ zx_G := zg_at (i := 14) (by decide +kernel) (by decide +kernel)
theorem zc_9_246 : zcV 9 246 yX9_bestToCome 1 := ⟨_, rfl, zg_at (i := 787) (by decide +kernel) (by decide +kernel), zi_X9_bestToCome, ze_X9_bestToCome, zn_X9, zp_X9_bestToCome⟩
theorem zp_X8_becomeLike : zcP yX8_becomeLike 1 := ⟨by decide +kernel, by decide +kernel, by decide +kernel⟩
theorem zi_X8_becomeLike : Cond.instanceMethod yX8_becomeLike ∈ zx_G := zg_at (i := 796) (by decide +kernel) (by decide +kernel)
theorem ze_X8_becomeLike : Cond.selects yX8_becomeLike.cls yX8_becomeLike yX8_becomeLike ∈ zx_G := zg_at (i := 797) (by decide +kernel) (by decide +kernel)
theorem zc_9_250 : zcV 9 250 yX8_becomeLike 1 := ⟨_, rfl, zg_at (i := 795) (by decide +kernel) (by decide +kernel), zi_X8_becomeLike, ze_X8_becomeLike, zn_X8, zp_X8_becomeLike⟩
theorem zp_J13_bitCount_95d88 : zcP yJ13_bitCount_95d88 1 := ⟨by decide +kernel, by decide +kernel, by decide +kernel⟩
theorem zs_J13_bitCount_95d88 : Cond.static yJ13_bitCount_95d88 ∈ zx_G := zg_at (i := 809) (by decide +kernel) (by decide +kernel)
theorem zn_J13 : Cond.initialized RJ13 ∈ zx_G := zg_at (i := 59) (by decide +kernel) (by decide +kernel)
theorem zc_9_253 : zcS 9 253 yJ13_bitCount_95d88 1 := ⟨_, rfl, zg_at (i := 808) (by decide +kernel) (by decide +kernel), zs_J13_bitCount_95d88, zn_J13, zp_J13_bitCount_95d88⟩
theorem zp_X0_become : zcP yX0_become 3 := ⟨by decide +kernel, by decide +kernel, by decide +kernel⟩
theorem zi_X0_become : Cond.instanceMethod yX0_become ∈ zx_G := zg_at (i := 603) (by decide +kernel) (by decide +kernel)
theorem ze_X0_become : Cond.selects yX0_become.cls yX0_become yX0_become ∈ zx_G := zg_at (i := 604) (by decide +kernel) (by decide +kernel)
theorem zc_9_259 : zcV 9 259 yX0_become 3 := ⟨_, rfl, zg_at (i := 602) (by decide +kernel) (by decide +kernel), zi_X0_become, ze_X0_become, zn_X0, zp_X0_become⟩
theorem zp_X5_allComeAsTold : zcP yX5_allComeAsTold 0 := ⟨by decide +kernel, by decide +kernel, by decide +kernel⟩
theorem zi_X5_allComeAsTold : Cond.instanceMethod yX5_allComeAsTold ∈ zx_G := zg_at (i := 610) (by decide +kernel) (by decide +kernel)
theorem ze_X5_allComeAsTold : Cond.selects yX5_allComeAsTold.cls yX5_allComeAsTold yX5_allComeAsTold ∈ zx_G := zg_at (i := 611) (by decide +kernel) (by decide +kernel)
theorem zc_9_263 : zcV 9 263 yX5_allComeAsTold 0 := ⟨_, rfl, zg_at (i := 609) (by decide +kernel) (by decide +kernel), zi_X5_allComeAsTold, ze_X5_allComeAsTold, zn_X5, zp_X5_allComeAsTold⟩
theorem zp_X10_firstHouse : zcP yX10_firstHouse 1 := ⟨by decide +kernel, by decide +kernel, by decide +kernel⟩
theorem zs_X10_firstHouse : Cond.static yX10_firstHouse ∈ zx_G := zg_at (i := 821) (by decide +kernel) (by decide +kernel)
theorem zn_X10 : Cond.initialized RX10 ∈ zx_G := zg_at (i := 56) (by decide +kernel) (by decide +kernel)
theorem zc_10_68 : zcS 10 68 yX10_firstHouse 1 := ⟨_, rfl, zg_at (i := 820) (by decide +kernel) (by decide +kernel), zs_X10_firstHouse, zn_X10, zp_X10_firstHouse⟩
theorem zp_X10_layDown : zcP yX10_layDown 0 := ⟨by decide +kernel, by decide +kernel, by decide +kernel⟩
theorem zi_X10_layDown : Cond.instanceMethod yX10_layDown ∈ zx_G := zg_at (i := 825) (by decide +kernel) (by decide +kernel)
theorem ze_X10_layDown : Cond.selects yX10_layDown.cls yX10_layDown yX10_layDown ∈ zx_G := zg_at (i := 15) (by decide +kernel) (by decide +kernel)
theorem zc_10_72 : zcV 10 72 yX10_layDown 0 := ⟨_, rfl, zg_at (i := 823) (by decide +kernel) (by decide +kernel), zi_X10_layDown, ze_X10_layDown, zn_X10, zp_X10_layDown⟩
theorem zp_X10_in : zcP yX10_in 3 := ⟨by decide +kernel, by decide +kernel, by decide +kernel⟩
theorem zs_X10_in : Cond.static yX10_in ∈ zx_G := zg_at (i := 942) (by decide +kernel) (by decide +kernel)
theorem zc_10_86 : zcS 10 86 yX10_in 3 := ⟨_, rfl, zg_at (i := 941) (by decide +kernel) (by decide +kernel), zs_X10_in, zn_X10, zp_X10_in⟩
theorem zp_X10_byteNow : zcP yX10_byteNow 0 := ⟨by decide +kernel, by decide +kernel, by decide +kernel⟩
theorem zi_X10_byteNow : Cond.instanceMethod yX10_byteNow ∈ zx_G := zg_at (i := 963) (by decide +kernel) (by decide +kernel)
theorem ze_X10_byteNow : Cond.selects yX10_byteNow.cls yX10_byteNow yX10_byteNow ∈ zx_G := zg_at (i := 18) (by decide +kernel) (by decide +kernel)
theorem zc_10_101 : zcV 10 101 yX10_byteNow 0 := ⟨_, rfl, zg_at (i := 961) (by decide +kernel) (by decide +kernel), zi_X10_byteNow, ze_X10_byteNow, zn_X10, zp_X10_byteNow⟩
theorem zp_X10_isNumber : zcP yX10_isNumber 3 := ⟨by decide +kernel, by decide +kernel, by decide +kernel⟩
theorem zi_X10_isNumber : Cond.instanceMethod yX10_isNumber ∈ zx_G := zg_at (i := 971) (by decide +kernel) (by decide +kernel)
theorem ze_X10_isNumber : Cond.selects yX10_isNumber.cls yX10_isNumber yX10_isNumber ∈ zx_G := zg_at (i := 20) (by decide +kernel) (by decide +kernel)
theorem zc_10_105 : zcV 10 105 yX10_isNumber 3 := ⟨_, rfl, zg_at (i := 969) (by decide +kernel) (by decide +kernel), zi_X10_isNumber, ze_X10_isNumber, zn_X10, zp_X10_isNumber⟩
theorem zp_X10_isPut : zcP yX10_isPut 4 := ⟨by decide +kernel, by decide +kernel, by decide +kernel⟩
theorem zi_X10_isPut : Cond.instanceMethod yX10_isPut ∈ zx_G := zg_at (i := 967) (by decide +kernel) (by decide +kernel)
theorem ze_X10_isPut : Cond.selects yX10_isPut.cls yX10_isPut yX10_isPut ∈ zx_G := zg_at (i := 19) (by decide +kernel) (by decide +kernel)
theorem zc_10_108 : zcV 10 108 yX10_isPut 4 := ⟨_, rfl, zg_at (i := 965) (by decide +kernel) (by decide +kernel), zi_X10_isPut, ze_X10_isPut, zn_X10, zp_X10_isPut⟩
theorem zp_X10_isFire : zcP yX10_isFire 0 := ⟨by decide +kernel, by decide +kernel, by decide +kernel⟩
theorem zi_X10_isFire : Cond.instanceMethod yX10_isFire ∈ zx_G := zg_at (i := 975) (by decide +kernel) (by decide +kernel)
theorem ze_X10_isFire : Cond.selects yX10_isFire.cls yX10_isFire yX10_isFire ∈ zx_G := zg_at (i := 21) (by decide +kernel) (by decide +kernel)
theorem zc_10_112 : zcV 10 112 yX10_isFire 0 := ⟨_, rfl, zg_at (i := 973) (by decide +kernel) (by decide +kernel), zi_X10_isFire, ze_X10_isFire, zn_X10, zp_X10_isFire⟩
theorem zp_X10_isBather : zcP yX10_isBather 0 := ⟨by decide +kernel, by decide +kernel, by decide +kernel⟩
theorem zi_X10_isBather : Cond.instanceMethod yX10_isBather ∈ zx_G := zg_at (i := 979) (by decide +kernel) (by decide +kernel)
theorem ze_X10_isBather : Cond.selects yX10_isBather.cls yX10_isBather yX10_isBather ∈ zx_G := zg_at (i := 22) (by decide +kernel) (by decide +kernel)
theorem zc_10_116 : zcV 10 116 yX10_isBather 0 := ⟨_, rfl, zg_at (i := 977) (by decide +kernel) (by decide +kernel), zi_X10_isBather, ze_X10_isBather, zn_X10, zp_X10_isBather⟩
theorem zp_X10_isPair : zcP yX10_isPair 1 := ⟨by decide +kernel, by decide +kernel, by decide +kernel⟩
theorem zi_X10_isPair : Cond.instanceMethod yX10_isPair ∈ zx_G := zg_at (i := 983) (by decide +kernel) (by decide +kernel)
theorem ze_X10_isPair : Cond.selects yX10_isPair.cls yX10_isPair yX10_isPair ∈ zx_G := zg_at (i := 23) (by decide +kernel) (by decide +kernel)
theorem zc_10_119 : zcV 10 119 yX10_isPair 1 := ⟨_, rfl, zg_at (i := 981) (by decide +kernel) (by decide +kernel), zi_X10_isPair, ze_X10_isPair, zn_X10, zp_X10_isPair⟩
theorem zp_X10_isItem : zcP yX10_isItem 1 := ⟨by decide +kernel, by decide +kernel, by decide +kernel⟩
theorem zi_X10_isItem : Cond.instanceMethod yX10_isItem ∈ zx_G := zg_at (i := 959) (by decide +kernel) (by decide +kernel)
theorem ze_X10_isItem : Cond.selects yX10_isItem.cls yX10_isItem yX10_isItem ∈ zx_G := zg_at (i := 17) (by decide +kernel) (by decide +kernel)
theorem zc_10_126 : zcV 10 126 yX10_isItem 1 := ⟨_, rfl, zg_at (i := 957) (by decide +kernel) (by decide +kernel), zi_X10_isItem, ze_X10_isItem, zn_X10, zp_X10_isItem⟩
theorem zp_X10_isRead : zcP yX10_isRead 0 := ⟨by decide +kernel, by decide +kernel, by decide +kernel⟩
theorem zi_X10_isRead : Cond.instanceMethod yX10_isRead ∈ zx_G := zg_at (i := 955) (by decide +kernel) (by decide +kernel)
theorem ze_X10_isRead : Cond.selects yX10_isRead.cls yX10_isRead yX10_isRead ∈ zx_G := zg_at (i := 16) (by decide +kernel) (by decide +kernel)
theorem zc_10_130 : zcV 10 130 yX10_isRead 0 := ⟨_, rfl, zg_at (i := 953) (by decide +kernel) (by decide +kernel), zi_X10_isRead, ze_X10_isRead, zn_X10, zp_X10_isRead⟩
theorem zp_X10_many : zcP yX10_many 0 := ⟨by decide +kernel, by decide +kernel, by decide +kernel⟩
theorem zi_X10_many : Cond.instanceMethod yX10_many ∈ zx_G := zg_at (i := 999) (by decide +kernel) (by decide +kernel)
theorem ze_X10_many : Cond.selects yX10_many.cls yX10_many yX10_many ∈ zx_G := zg_at (i := 25) (by decide +kernel) (by decide +kernel)
theorem zc_10_133 : zcV 10 133 yX10_many 0 := ⟨_, rfl, zg_at (i := 997) (by decide +kernel) (by decide +kernel), zi_X10_many, ze_X10_many, zn_X10, zp_X10_many⟩
theorem zp_X10_isBatherOf : zcP yX10_isBatherOf 1 := ⟨by decide +kernel, by decide +kernel, by decide +kernel⟩
theorem zi_X10_isBatherOf : Cond.instanceMethod yX10_isBatherOf ∈ zx_G := zg_at (i := 995) (by decide +kernel) (by decide +kernel)
theorem ze_X10_isBatherOf : Cond.selects yX10_isBatherOf.cls yX10_isBatherOf yX10_isBatherOf ∈ zx_G := zg_at (i := 24) (by decide +kernel) (by decide +kernel)
theorem zc_10_136 : zcV 10 136 yX10_isBatherOf 1 := ⟨_, rfl, zg_at (i := 993) (by decide +kernel) (by decide +kernel), zi_X10_isBatherOf, ze_X10_isBatherOf, zn_X10, zp_X10_isBatherOf⟩
theorem zp_X10_of : zcP yX10_of 2 := ⟨by decide +kernel, by decide +kernel, by decide +kernel⟩
theorem zi_X10_of : Cond.instanceMethod yX10_of ∈ zx_G := zg_at (i := 1003) (by decide +kernel) (by decide +kernel)
theorem ze_X10_of : Cond.selects yX10_of.cls yX10_of yX10_of ∈ zx_G := zg_at (i := 26) (by decide +kernel) (by decide +kernel)
theorem zc_10_139 : zcV 10 139 yX10_of 2 := ⟨_, rfl, zg_at (i := 1001) (by decide +kernel) (by decide +kernel), zi_X10_of, ze_X10_of, zn_X10, zp_X10_of⟩
theorem zp_X10_holds : zcP yX10_holds 0 := ⟨by decide +kernel, by decide +kernel, by decide +kernel⟩
theorem zi_X10_holds : Cond.instanceMethod yX10_holds ∈ zx_G := zg_at (i := 1011) (by decide +kernel) (by decide +kernel)
theorem ze_X10_holds : Cond.selects yX10_holds.cls yX10_holds yX10_holds ∈ zx_G := zg_at (i := 27) (by decide +kernel) (by decide +kernel)
theorem zc_10_143 : zcV 10 143 yX10_holds 0 := ⟨_, rfl, zg_at (i := 1009) (by decide +kernel) (by decide +kernel), zi_X10_holds, ze_X10_holds, zn_X10, zp_X10_holds⟩
theorem zp_X10_unitsOf : zcP yX10_unitsOf 2 := ⟨by decide +kernel, by decide +kernel, by decide +kernel⟩
theorem zi_X10_unitsOf : Cond.instanceMethod yX10_unitsOf ∈ zx_G := zg_at (i := 1019) (by decide +kernel) (by decide +kernel)
theorem ze_X10_unitsOf : Cond.selects yX10_unitsOf.cls yX10_unitsOf yX10_unitsOf ∈ zx_G := zg_at (i := 29) (by decide +kernel) (by decide +kernel)
theorem zc_10_146 : zcV 10 146 yX10_unitsOf 2 := ⟨_, rfl, zg_at (i := 1017) (by decide +kernel) (by decide +kernel), zi_X10_unitsOf, ze_X10_unitsOf, zn_X10, zp_X10_unitsOf⟩
theorem zp_X10_fill : zcP yX10_fill 0 := ⟨by decide +kernel, by decide +kernel, by decide +kernel⟩
theorem zi_X10_fill : Cond.instanceMethod yX10_fill ∈ zx_G := zg_at (i := 1015) (by decide +kernel) (by decide +kernel)
theorem ze_X10_fill : Cond.selects yX10_fill.cls yX10_fill yX10_fill ∈ zx_G := zg_at (i := 28) (by decide +kernel) (by decide +kernel)
theorem zc_10_149 : zcV 10 149 yX10_fill 0 := ⟨_, rfl, zg_at (i := 1013) (by decide +kernel) (by decide +kernel), zi_X10_fill, ze_X10_fill, zn_X10, zp_X10_fill⟩
theorem zp_X10_draw : zcP yX10_draw 1 := ⟨by decide +kernel, by decide +kernel, by decide +kernel⟩
theorem zi_X10_draw : Cond.instanceMethod yX10_draw ∈ zx_G := zg_at (i := 1023) (by decide +kernel) (by decide +kernel)
theorem ze_X10_draw : Cond.selects yX10_draw.cls yX10_draw yX10_draw ∈ zx_G := zg_at (i := 30) (by decide +kernel) (by decide +kernel)
theorem zc_10_152 : zcV 10 152 yX10_draw 1 := ⟨_, rfl, zg_at (i := 1021) (by decide +kernel) (by decide +kernel), zi_X10_draw, ze_X10_draw, zn_X10, zp_X10_draw⟩
theorem zp_X10_hasBath : zcP yX10_hasBath 2 := ⟨by decide +kernel, by decide +kernel, by decide +kernel⟩
theorem zi_X10_hasBath : Cond.instanceMethod yX10_hasBath ∈ zx_G := zg_at (i := 1031) (by decide +kernel) (by decide +kernel)
theorem ze_X10_hasBath : Cond.selects yX10_hasBath.cls yX10_hasBath yX10_hasBath ∈ zx_G := zg_at (i := 31) (by decide +kernel) (by decide +kernel)
theorem zc_10_162 : zcV 10 162 yX10_hasBath 2 := ⟨_, rfl, zg_at (i := 1029) (by decide +kernel) (by decide +kernel), zi_X10_hasBath, ze_X10_hasBath, zn_X10, zp_X10_hasBath⟩
theorem zp_X10_canGo : zcP yX10_canGo 3 := ⟨by decide +kernel, by decide +kernel, by decide +kernel⟩
theorem zi_X10_canGo : Cond.instanceMethod yX10_canGo ∈ zx_G := zg_at (i := 1071) (by decide +kernel) (by decide +kernel)
theorem ze_X10_canGo : Cond.selects yX10_canGo.cls yX10_canGo yX10_canGo ∈ zx_G := zg_at (i := 36) (by decide +kernel) (by decide +kernel)
theorem zc_10_175 : zcV 10 175 yX10_canGo 3 := ⟨_, rfl, zg_at (i := 1069) (by decide +kernel) (by decide +kernel), zi_X10_canGo, ze_X10_canGo, zn_X10, zp_X10_canGo⟩
theorem zp_X10_chosen : zcP yX10_chosen 4 := ⟨by decide +kernel, by decide +kernel, by decide +kernel⟩
theorem zi_X10_chosen : Cond.instanceMethod yX10_chosen ∈ zx_G := zg_at (i := 1067) (by decide +kernel) (by decide +kernel)
theorem ze_X10_chosen : Cond.selects yX10_chosen.cls yX10_chosen yX10_chosen ∈ zx_G := zg_at (i := 35) (by decide +kernel) (by decide +kernel)
theorem zc_10_187 : zcV 10 187 yX10_chosen 4 := ⟨_, rfl, zg_at (i := 1065) (by decide +kernel) (by decide +kernel), zi_X10_chosen, ze_X10_chosen, zn_X10, zp_X10_chosen⟩
theorem zp_X10_warm : zcP yX10_warm 0 := ⟨by decide +kernel, by decide +kernel, by decide +kernel⟩
theorem zi_X10_warm : Cond.instanceMethod yX10_warm ∈ zx_G := zg_at (i := 1075) (by decide +kernel) (by decide +kernel)
theorem ze_X10_warm : Cond.selects yX10_warm.cls yX10_warm yX10_warm ∈ zx_G := zg_at (i := 37) (by decide +kernel) (by decide +kernel)
theorem zc_10_200 : zcV 10 200 yX10_warm 0 := ⟨_, rfl, zg_at (i := 1073) (by decide +kernel) (by decide +kernel), zi_X10_warm, ze_X10_warm, zn_X10, zp_X10_warm⟩
theorem zp_X10_scoreNow : zcP yX10_scoreNow 0 := ⟨by decide +kernel, by decide +kernel, by decide +kernel⟩
theorem zi_X10_scoreNow : Cond.instanceMethod yX10_scoreNow ∈ zx_G := zg_at (i := 1079) (by decide +kernel) (by decide +kernel)
theorem ze_X10_scoreNow : Cond.selects yX10_scoreNow.cls yX10_scoreNow yX10_scoreNow ∈ zx_G := zg_at (i := 38) (by decide +kernel) (by decide +kernel)
theorem zc_10_203 : zcV 10 203 yX10_scoreNow 0 := ⟨_, rfl, zg_at (i := 1077) (by decide +kernel) (by decide +kernel), zi_X10_scoreNow, ze_X10_scoreNow, zn_X10, zp_X10_scoreNow⟩
theorem zp_X10_lateNow : zcP yX10_lateNow 0 := ⟨by decide +kernel, by decide +kernel, by decide +kernel⟩
theorem zi_X10_lateNow : Cond.instanceMethod yX10_lateNow ∈ zx_G := zg_at (i := 1083) (by decide +kernel) (by decide +kernel)
theorem ze_X10_lateNow : Cond.selects yX10_lateNow.cls yX10_lateNow yX10_lateNow ∈ zx_G := zg_at (i := 39) (by decide +kernel) (by decide +kernel)
theorem zc_10_206 : zcV 10 206 yX10_lateNow 0 := ⟨_, rfl, zg_at (i := 1081) (by decide +kernel) (by decide +kernel), zi_X10_lateNow, ze_X10_lateNow, zn_X10, zp_X10_lateNow⟩
theorem zp_X10_doneNow : zcP yX10_doneNow 0 := ⟨by decide +kernel, by decide +kernel, by decide +kernel⟩
theorem zi_X10_doneNow : Cond.instanceMethod yX10_doneNow ∈ zx_G := zg_at (i := 1087) (by decide +kernel) (by decide +kernel)
theorem ze_X10_doneNow : Cond.selects yX10_doneNow.cls yX10_doneNow yX10_doneNow ∈ zx_G := zg_at (i := 40) (by decide +kernel) (by decide +kernel)
theorem zc_10_209 : zcV 10 209 yX10_doneNow 0 := ⟨_, rfl, zg_at (i := 1085) (by decide +kernel) (by decide +kernel), zi_X10_doneNow, ze_X10_doneNow, zn_X10, zp_X10_doneNow⟩
theorem zp_X10_asTold : zcP yX10_asTold 0 := ⟨by decide +kernel, by decide +kernel, by decide +kernel⟩
theorem zi_X10_asTold : Cond.instanceMethod yX10_asTold ∈ zx_G := zg_at (i := 1059) (by decide +kernel) (by decide +kernel)
theorem ze_X10_asTold : Cond.selects yX10_asTold.cls yX10_asTold yX10_asTold ∈ zx_G := zg_at (i := 33) (by decide +kernel) (by decide +kernel)
theorem zc_10_212 : zcV 10 212 yX10_asTold 0 := ⟨_, rfl, zg_at (i := 1057) (by decide +kernel) (by decide +kernel), zi_X10_asTold, ze_X10_asTold, zn_X10, zp_X10_asTold⟩
theorem zp_X10_goThrough : zcP yX10_goThrough 3 := ⟨by decide +kernel, by decide +kernel, by decide +kernel⟩
theorem zi_X10_goThrough : Cond.instanceMethod yX10_goThrough ∈ zx_G := zg_at (i := 1063) (by decide +kernel) (by decide +kernel)
theorem ze_X10_goThrough : Cond.selects yX10_goThrough.cls yX10_goThrough yX10_goThrough ∈ zx_G := zg_at (i := 34) (by decide +kernel) (by decide +kernel)
theorem zc_10_215 : zcV 10 215 yX10_goThrough 3 := ⟨_, rfl, zg_at (i := 1061) (by decide +kernel) (by decide +kernel), zi_X10_goThrough, ze_X10_goThrough, zn_X10, zp_X10_goThrough⟩
theorem zp_X10_isRule : zcP yX10_isRule 1 := ⟨by decide +kernel, by decide +kernel, by decide +kernel⟩
theorem zs_X10_isRule : Cond.static yX10_isRule ∈ zx_G := zg_at (i := 1051) (by decide +kernel) (by decide +kernel)
theorem zc_10_219 : zcS 10 219 yX10_isRule 1 := ⟨_, rfl, zg_at (i := 1050) (by decide +kernel) (by decide +kernel), zs_X10_isRule, zn_X10, zp_X10_isRule⟩
theorem zp_X10_scoreOf : zcP yX10_scoreOf 1 := ⟨by decide +kernel, by decide +kernel, by decide +kernel⟩
theorem zi_X10_scoreOf : Cond.instanceMethod yX10_scoreOf ∈ zx_G := zg_at (i := 1055) (by decide +kernel) (by decide +kernel)
theorem ze_X10_scoreOf : Cond.selects yX10_scoreOf.cls yX10_scoreOf yX10_scoreOf ∈ zx_G := zg_at (i := 32) (by decide +kernel) (by decide +kernel)
theorem zc_10_222 : zcV 10 222 yX10_scoreOf 1 := ⟨_, rfl, zg_at (i := 1053) (by decide +kernel) (by decide +kernel), zi_X10_scoreOf, ze_X10_scoreOf, zn_X10, zp_X10_scoreOf⟩
theorem zp_X10_turns : zcP yX10_turns 0 := ⟨by decide +kernel, by decide +kernel, by decide +kernel⟩
theorem zi_X10_turns : Cond.instanceMethod yX10_turns ∈ zx_G := zg_at (i := 1103) (by decide +kernel) (by decide +kernel)
theorem ze_X10_turns : Cond.selects yX10_turns.cls yX10_turns yX10_turns ∈ zx_G := zg_at (i := 41) (by decide +kernel) (by decide +kernel)
theorem zc_10_226 : zcV 10 226 yX10_turns 0 := ⟨_, rfl, zg_at (i := 1101) (by decide +kernel) (by decide +kernel), zi_X10_turns, ze_X10_turns, zn_X10, zp_X10_turns⟩
theorem zp_X10_change : zcP yX10_change 1 := ⟨by decide +kernel, by decide +kernel, by decide +kernel⟩
theorem zi_X10_change : Cond.instanceMethod yX10_change ∈ zx_G := zg_at (i := 1111) (by decide +kernel) (by decide +kernel)
theorem ze_X10_change : Cond.selects yX10_change.cls yX10_change yX10_change ∈ zx_G := zg_at (i := 42) (by decide +kernel) (by decide +kernel)
theorem zc_10_229 : zcV 10 229 yX10_change 1 := ⟨_, rfl, zg_at (i := 1109) (by decide +kernel) (by decide +kernel), zi_X10_change, ze_X10_change, zn_X10, zp_X10_change⟩
theorem zp_X10_isNobodyLate : zcP yX10_isNobodyLate 2 := ⟨by decide +kernel, by decide +kernel, by decide +kernel⟩
theorem zi_X10_isNobodyLate : Cond.instanceMethod yX10_isNobodyLate ∈ zx_G := zg_at (i := 1123) (by decide +kernel) (by decide +kernel)
theorem ze_X10_isNobodyLate : Cond.selects yX10_isNobodyLate.cls yX10_isNobodyLate yX10_isNobodyLate ∈ zx_G := zg_at (i := 43) (by decide +kernel) (by decide +kernel)
theorem zc_10_232 : zcV 10 232 yX10_isNobodyLate 2 := ⟨_, rfl, zg_at (i := 1121) (by decide +kernel) (by decide +kernel), zi_X10_isNobodyLate, ze_X10_isNobodyLate, zn_X10, zp_X10_isNobodyLate⟩
theorem zp_X10_grief : zcP yX10_grief 1 := ⟨by decide +kernel, by decide +kernel, by decide +kernel⟩
theorem zi_X10_grief : Cond.instanceMethod yX10_grief ∈ zx_G := zg_at (i := 1147) (by decide +kernel) (by decide +kernel)
theorem ze_X10_grief : Cond.selects yX10_grief.cls yX10_grief yX10_grief ∈ zx_G := zg_at (i := 44) (by decide +kernel) (by decide +kernel)
theorem zc_10_236 : zcV 10 236 yX10_grief 1 := ⟨_, rfl, zg_at (i := 1145) (by decide +kernel) (by decide +kernel), zi_X10_grief, ze_X10_grief, zn_X10, zp_X10_grief⟩
set_option maxRecDepth 20000 in
theorem gd_X0_init : zx_good mm_X0_init := ⟨by decide +kernel, zg_at (i := 277) (by decide +kernel) (by decide +kernel), by decide +kernel, rfl, by decide⟩
set_option maxRecDepth 20000 in
theorem gd_X0_become : zx_good mm_X0_become := ⟨by decide +kernel, zg_at (i := 605) (by decide +kernel) (by decide +kernel), by decide +kernel, rfl, by decide⟩
set_option maxRecDepth 20000 in
theorem gd_X0_copyRowTo : zx_good mm_X0_copyRowTo := ⟨by decide +kernel, zg_at (i := 717) (by decide +kernel) (by decide +kernel), by decide +kernel, rfl, by decide⟩
set_option maxRecDepth 20000 in
theorem gd_X0_rowByNumbers : zx_good mm_X0_rowByNumbers := ⟨by decide +kernel, zg_at (i := 713) (by decide +kernel) (by decide +kernel), by decide +kernel, rfl, by decide⟩
set_option maxRecDepth 20000 in
theorem gd_X0_changePlaces : zx_good mm_X0_changePlaces := ⟨by decide +kernel, zg_at (i := 726) (by decide +kernel) (by decide +kernel), by decide +kernel, rfl, by decide⟩
set_option maxRecDepth 20000 in
theorem gd_X0_nextRow : zx_good mm_X0_nextRow := ⟨by decide +kernel, zg_at (i := 722) (by decide +kernel) (by decide +kernel), by decide +kernel, rfl, by decide⟩
set_option maxRecDepth 20000 in
theorem gd_X0_placeInRow : zx_good mm_X0_placeInRow := ⟨by decide +kernel, zg_at (i := 645) (by decide +kernel) (by decide +kernel), by decide +kernel, rfl, by decide⟩
set_option maxRecDepth 20000 in
theorem gd_X0_plansFor : zx_good mm_X0_plansFor := ⟨by decide +kernel, zg_at (i := 633) (by decide +kernel) (by decide +kernel), by decide +kernel, rfl, by decide⟩
set_option maxRecDepth 20000 in
theorem gd_X0_tapsAt : zx_good mm_X0_tapsAt := ⟨by decide +kernel, zg_at (i := 673) (by decide +kernel) (by decide +kernel), by decide +kernel, rfl, by decide⟩
set_option maxRecDepth 20000 in
theorem gd_X0_prefers : zx_good mm_X0_prefers := ⟨by decide +kernel, zg_at (i := 664) (by decide +kernel) (by decide +kernel), by decide +kernel, rfl, by decide⟩
set_option maxRecDepth 20000 in
theorem gd_X1_init : zx_good mm_X1_init := ⟨by decide +kernel, zg_at (i := 361) (by decide +kernel) (by decide +kernel), by decide +kernel, rfl, by decide⟩
set_option maxRecDepth 20000 in
theorem gd_X1_isLeftBy : zx_good mm_X1_isLeftBy := ⟨by decide +kernel, zg_at (i := 654) (by decide +kernel) (by decide +kernel), by decide +kernel, rfl, by decide⟩
set_option maxRecDepth 20000 in
theorem gd_X1_comesFrom : zx_good mm_X1_comesFrom := ⟨by decide +kernel, zg_at (i := 572) (by decide +kernel) (by decide +kernel), by decide +kernel, rfl, by decide⟩
set_option maxRecDepth 20000 in
theorem gd_X2_init : zx_good mm_X2_init := ⟨by decide +kernel, zg_at (i := 99) (by decide +kernel) (by decide +kernel), by decide +kernel, rfl, by decide⟩
set_option maxRecDepth 20000 in
theorem gd_X2_become : zx_good mm_X2_become := ⟨by decide +kernel, zg_at (i := 489) (by decide +kernel) (by decide +kernel), by decide +kernel, rfl, by decide⟩
set_option maxRecDepth 20000 in
theorem gd_X2_becomeLike : zx_good mm_X2_becomeLike := ⟨by decide +kernel, zg_at (i := 757) (by decide +kernel) (by decide +kernel), by decide +kernel, rfl, by decide⟩
set_option maxRecDepth 20000 in
theorem gd_X2_toldOf : zx_good mm_X2_toldOf := ⟨by decide +kernel, zg_at (i := 530) (by decide +kernel) (by decide +kernel), by decide +kernel, rfl, by decide⟩
set_option maxRecDepth 20000 in
theorem gd_X2_isNotInYet : zx_good mm_X2_isNotInYet := ⟨by decide +kernel, zg_at (i := 629) (by decide +kernel) (by decide +kernel), by decide +kernel, rfl, by decide⟩
set_option maxRecDepth 20000 in
theorem gd_X3_init : zx_good mm_X3_init := ⟨by decide +kernel, zg_at (i := 317) (by decide +kernel) (by decide +kernel), by decide +kernel, rfl, by decide⟩
set_option maxRecDepth 20000 in
theorem gd_X3_run : zx_good mm_X3_run := ⟨by decide +kernel, zg_at (i := 616) (by decide +kernel) (by decide +kernel), by decide +kernel, rfl, by decide⟩
set_option maxRecDepth 20000 in
theorem gd_X3_begin : zx_good mm_X3_begin := ⟨by decide +kernel, zg_at (i := 620) (by decide +kernel) (by decide +kernel), by decide +kernel, rfl, by decide⟩
set_option maxRecDepth 20000 in
theorem gd_X3_chosen : zx_good mm_X3_chosen := ⟨by decide +kernel, zg_at (i := 641) (by decide +kernel) (by decide +kernel), by decide +kernel, rfl, by decide⟩
set_option maxRecDepth 20000 in
theorem gd_X3_can : zx_good mm_X3_can := ⟨by decide +kernel, zg_at (i := 650) (by decide +kernel) (by decide +kernel), by decide +kernel, rfl, by decide⟩
set_option maxRecDepth 20000 in
theorem gd_X3_goesIn : zx_good mm_X3_goesIn := ⟨by decide +kernel, zg_at (i := 668) (by decide +kernel) (by decide +kernel), by decide +kernel, rfl, by decide⟩
set_option maxRecDepth 20000 in
theorem gd_X4_init : zx_good mm_X4_init := ⟨by decide +kernel, zg_at (i := 343) (by decide +kernel) (by decide +kernel), by decide +kernel, rfl, by decide⟩
set_option maxRecDepth 20000 in
theorem gd_X4_begin : zx_good mm_X4_begin := ⟨by decide +kernel, zg_at (i := 625) (by decide +kernel) (by decide +kernel), by decide +kernel, rfl, by decide⟩
set_option maxRecDepth 20000 in
theorem gd_X4_makeUp : zx_good mm_X4_makeUp := ⟨by decide +kernel, zg_at (i := 637) (by decide +kernel) (by decide +kernel), by decide +kernel, rfl, by decide⟩
set_option maxRecDepth 20000 in
theorem gd_X4_gives : zx_good mm_X4_gives := ⟨by decide +kernel, zg_at (i := 679) (by decide +kernel) (by decide +kernel), by decide +kernel, rfl, by decide⟩
set_option maxRecDepth 20000 in
theorem gd_X4_getOlder : zx_good mm_X4_getOlder := ⟨by decide +kernel, zg_at (i := 691) (by decide +kernel) (by decide +kernel), by decide +kernel, rfl, by decide⟩
set_option maxRecDepth 20000 in
theorem gd_X5_init : zx_good mm_X5_init := ⟨by decide +kernel, zg_at (i := 92) (by decide +kernel) (by decide +kernel), by decide +kernel, rfl, by decide⟩
set_option maxRecDepth 20000 in
theorem gd_X5_clear : zx_good mm_X5_clear := ⟨by decide +kernel, zg_at (i := 177) (by decide +kernel) (by decide +kernel), by decide +kernel, rfl, by decide⟩
set_option maxRecDepth 20000 in
theorem gd_X5_becomeLike : zx_good mm_X5_becomeLike := ⟨by decide +kernel, zg_at (i := 752) (by decide +kernel) (by decide +kernel), by decide +kernel, rfl, by decide⟩
set_option maxRecDepth 20000 in
theorem gd_X5_grow : zx_good mm_X5_grow := ⟨by decide +kernel, zg_at (i := 761) (by decide +kernel) (by decide +kernel), by decide +kernel, rfl, by decide⟩
set_option maxRecDepth 20000 in
theorem gd_X5_who : zx_good mm_X5_who := ⟨by decide +kernel, zg_at (i := 498) (by decide +kernel) (by decide +kernel), by decide +kernel, rfl, by decide⟩
set_option maxRecDepth 20000 in
theorem gd_X5_allComeAsTold : zx_good mm_X5_allComeAsTold := ⟨by decide +kernel, zg_at (i := 612) (by decide +kernel) (by decide +kernel), by decide +kernel, rfl, by decide⟩
set_option maxRecDepth 20000 in
theorem gd_X5_takes : zx_good mm_X5_takes := ⟨by decide +kernel, zg_at (i := 464) (by decide +kernel) (by decide +kernel), by decide +kernel, rfl, by decide⟩
set_option maxRecDepth 20000 in
theorem gd_X5_takesTank : zx_good mm_X5_takesTank := ⟨by decide +kernel, zg_at (i := 468) (by decide +kernel) (by decide +kernel), by decide +kernel, rfl, by decide⟩
set_option maxRecDepth 20000 in
theorem gd_X5_takesStage : zx_good mm_X5_takesStage := ⟨by decide +kernel, zg_at (i := 481) (by decide +kernel) (by decide +kernel), by decide +kernel, rfl, by decide⟩
set_option maxRecDepth 20000 in
theorem gd_X5_takesBather : zx_good mm_X5_takesBather := ⟨by decide +kernel, zg_at (i := 485) (by decide +kernel) (by decide +kernel), by decide +kernel, rfl, by decide⟩
set_option maxRecDepth 20000 in
theorem gd_X5_takesPair : zx_good mm_X5_takesPair := ⟨by decide +kernel, zg_at (i := 494) (by decide +kernel) (by decide +kernel), by decide +kernel, rfl, by decide⟩
set_option maxRecDepth 20000 in
theorem gd_X5_takesKettle : zx_good mm_X5_takesKettle := ⟨by decide +kernel, zg_at (i := 507) (by decide +kernel) (by decide +kernel), by decide +kernel, rfl, by decide⟩
set_option maxRecDepth 20000 in
theorem gd_X5_takesNumber : zx_good mm_X5_takesNumber := ⟨by decide +kernel, zg_at (i := 511) (by decide +kernel) (by decide +kernel), by decide +kernel, rfl, by decide⟩
set_option maxRecDepth 20000 in
theorem gd_X5_scoreOfEvening : zx_good mm_X5_scoreOfEvening := ⟨by decide +kernel, zg_at (i := 695) (by decide +kernel) (by decide +kernel), by decide +kernel, rfl, by decide⟩
set_option maxRecDepth 20000 in
theorem gd_X6_init : zx_good mm_X6_init := ⟨by decide +kernel, zg_at (i := 72) (by decide +kernel) (by decide +kernel), by decide +kernel, rfl, by decide⟩
set_option maxRecDepth 20000 in
theorem gd_X6_readFrom : zx_good mm_X6_readFrom := ⟨by decide +kernel, zg_at (i := 460) (by decide +kernel) (by decide +kernel), by decide +kernel, rfl, by decide⟩
set_option maxRecDepth 20000 in
theorem gd_X6_number : zx_good mm_X6_number := ⟨by decide +kernel, zg_at (i := 476) (by decide +kernel) (by decide +kernel), by decide +kernel, rfl, by decide⟩
set_option maxRecDepth 20000 in
theorem gd_X6_isWithin : zx_good mm_X6_isWithin := ⟨by decide +kernel, zg_at (i := 472) (by decide +kernel) (by decide +kernel), by decide +kernel, rfl, by decide⟩
set_option maxRecDepth 20000 in
theorem gd_X6_isOneWithin : zx_good mm_X6_isOneWithin := ⟨by decide +kernel, zg_at (i := 515) (by decide +kernel) (by decide +kernel), by decide +kernel, rfl, by decide⟩
set_option maxRecDepth 20000 in
theorem gd_X6_isPairOf : zx_good mm_X6_isPairOf := ⟨by decide +kernel, zg_at (i := 502) (by decide +kernel) (by decide +kernel), by decide +kernel, rfl, by decide⟩
set_option maxRecDepth 20000 in
theorem gd_X7_init : zx_good mm_X7_init := ⟨by decide +kernel, zg_at (i := 323) (by decide +kernel) (by decide +kernel), by decide +kernel, rfl, by decide⟩
set_option maxRecDepth 20000 in
theorem gd_X7_fill : zx_good mm_X7_fill := ⟨by decide +kernel, zg_at (i := 538) (by decide +kernel) (by decide +kernel), by decide +kernel, rfl, by decide⟩
set_option maxRecDepth 20000 in
theorem gd_X7_holds : zx_good mm_X7_holds := ⟨by decide +kernel, zg_at (i := 548) (by decide +kernel) (by decide +kernel), by decide +kernel, rfl, by decide⟩
set_option maxRecDepth 20000 in
theorem gd_X7_unitsIn : zx_good mm_X7_unitsIn := ⟨by decide +kernel, zg_at (i := 564) (by decide +kernel) (by decide +kernel), by decide +kernel, rfl, by decide⟩
set_option maxRecDepth 20000 in
theorem gd_X7_heatOf : zx_good mm_X7_heatOf := ⟨by decide +kernel, zg_at (i := 659) (by decide +kernel) (by decide +kernel), by decide +kernel, rfl, by decide⟩
set_option maxRecDepth 20000 in
theorem gd_X7_unitsOfPart : zx_good mm_X7_unitsOfPart := ⟨by decide +kernel, zg_at (i := 560) (by decide +kernel) (by decide +kernel), by decide +kernel, rfl, by decide⟩
set_option maxRecDepth 20000 in
theorem gd_X7_unitsOfTop : zx_good mm_X7_unitsOfTop := ⟨by decide +kernel, zg_at (i := 552) (by decide +kernel) (by decide +kernel), by decide +kernel, rfl, by decide⟩
set_option maxRecDepth 20000 in
theorem gd_X7_draw : zx_good mm_X7_draw := ⟨by decide +kernel, zg_at (i := 556) (by decide +kernel) (by decide +kernel), by decide +kernel, rfl, by decide⟩
set_option maxRecDepth 20000 in
theorem gd_X7_pintsFor : zx_good mm_X7_pintsFor := ⟨by decide +kernel, zg_at (i := 576) (by decide +kernel) (by decide +kernel), by decide +kernel, rfl, by decide⟩
set_option maxRecDepth 20000 in
theorem gd_X7_warm : zx_good mm_X7_warm := ⟨by decide +kernel, zg_at (i := 683) (by decide +kernel) (by decide +kernel), by decide +kernel, rfl, by decide⟩
set_option maxRecDepth 20000 in
theorem gd_X7_lose : zx_good mm_X7_lose := ⟨by decide +kernel, zg_at (i := 687) (by decide +kernel) (by decide +kernel), by decide +kernel, rfl, by decide⟩
set_option maxRecDepth 20000 in
theorem gd_X8_init : zx_good mm_X8_init := ⟨by decide +kernel, zg_at (i := 246) (by decide +kernel) (by decide +kernel), by decide +kernel, rfl, by decide⟩
set_option maxRecDepth 20000 in
theorem gd_X8_clear : zx_good mm_X8_clear := ⟨by decide +kernel, zg_at (i := 251) (by decide +kernel) (by decide +kernel), by decide +kernel, rfl, by decide⟩
set_option maxRecDepth 20000 in
theorem gd_X8_becomeLike : zx_good mm_X8_becomeLike := ⟨by decide +kernel, zg_at (i := 798) (by decide +kernel) (by decide +kernel), by decide +kernel, rfl, by decide⟩
set_option maxRecDepth 20000 in
theorem gd_X8_sumOfTenths : zx_good mm_X8_sumOfTenths := ⟨by decide +kernel, zg_at (i := 778) (by decide +kernel) (by decide +kernel), by decide +kernel, rfl, by decide⟩
set_option maxRecDepth 20000 in
theorem gd_X9_init : zx_good mm_X9_init := ⟨by decide +kernel, zg_at (i := 64) (by decide +kernel) (by decide +kernel), by decide +kernel, rfl, by decide⟩
set_option maxRecDepth 20000 in
theorem gd_X9_write : zx_good mm_X9_write := ⟨by decide +kernel, zg_at (i := 447) (by decide +kernel) (by decide +kernel), by decide +kernel, rfl, by decide⟩
set_option maxRecDepth 20000 in
theorem gd_X9_wipe : zx_good mm_X9_wipe := ⟨by decide +kernel, zg_at (i := 451) (by decide +kernel) (by decide +kernel), by decide +kernel, rfl, by decide⟩
set_option maxRecDepth 20000 in
theorem gd_X9_fault : zx_good mm_X9_fault := ⟨by decide +kernel, zg_at (i := 455) (by decide +kernel) (by decide +kernel), by decide +kernel, rfl, by decide⟩
set_option maxRecDepth 20000 in
theorem gd_X9_lay : zx_good mm_X9_lay := ⟨by decide +kernel, zg_at (i := 519) (by decide +kernel) (by decide +kernel), by decide +kernel, rfl, by decide⟩
set_option maxRecDepth 20000 in
theorem gd_X9_bather : zx_good mm_X9_bather := ⟨by decide +kernel, zg_at (i := 525) (by decide +kernel) (by decide +kernel), by decide +kernel, rfl, by decide⟩
set_option maxRecDepth 20000 in
theorem gd_X9_drawn : zx_good mm_X9_drawn := ⟨by decide +kernel, zg_at (i := 534) (by decide +kernel) (by decide +kernel), by decide +kernel, rfl, by decide⟩
set_option maxRecDepth 20000 in
theorem gd_X9_bath : zx_good mm_X9_bath := ⟨by decide +kernel, zg_at (i := 568) (by decide +kernel) (by decide +kernel), by decide +kernel, rfl, by decide⟩
set_option maxRecDepth 20000 in
theorem gd_X9_row : zx_good mm_X9_row := ⟨by decide +kernel, zg_at (i := 581) (by decide +kernel) (by decide +kernel), by decide +kernel, rfl, by decide⟩
set_option maxRecDepth 20000 in
theorem gd_X9_hot : zx_good mm_X9_hot := ⟨by decide +kernel, zg_at (i := 585) (by decide +kernel) (by decide +kernel), by decide +kernel, rfl, by decide⟩
set_option maxRecDepth 20000 in
theorem gd_X9_plan : zx_good mm_X9_plan := ⟨by decide +kernel, zg_at (i := 589) (by decide +kernel) (by decide +kernel), by decide +kernel, rfl, by decide⟩
set_option maxRecDepth 20000 in
theorem gd_X9_evening : zx_good mm_X9_evening := ⟨by decide +kernel, zg_at (i := 594) (by decide +kernel) (by decide +kernel), by decide +kernel, rfl, by decide⟩
set_option maxRecDepth 20000 in
theorem gd_X9_score : zx_good mm_X9_score := ⟨by decide +kernel, zg_at (i := 700) (by decide +kernel) (by decide +kernel), by decide +kernel, rfl, by decide⟩
set_option maxRecDepth 20000 in
theorem gd_X9_left : zx_good mm_X9_left := ⟨by decide +kernel, zg_at (i := 704) (by decide +kernel) (by decide +kernel), by decide +kernel, rfl, by decide⟩
set_option maxRecDepth 20000 in
theorem gd_X9_best : zx_good mm_X9_best := ⟨by decide +kernel, zg_at (i := 709) (by decide +kernel) (by decide +kernel), by decide +kernel, rfl, by decide⟩
set_option maxRecDepth 20000 in
theorem gd_X9_swapped : zx_good mm_X9_swapped := ⟨by decide +kernel, zg_at (i := 730) (by decide +kernel) (by decide +kernel), by decide +kernel, rfl, by decide⟩
set_option maxRecDepth 20000 in
theorem gd_X9_when : zx_good mm_X9_when := ⟨by decide +kernel, zg_at (i := 736) (by decide +kernel) (by decide +kernel), by decide +kernel, rfl, by decide⟩
set_option maxRecDepth 20000 in
theorem gd_X9_fewest : zx_good mm_X9_fewest := ⟨by decide +kernel, zg_at (i := 740) (by decide +kernel) (by decide +kernel), by decide +kernel, rfl, by decide⟩
set_option maxRecDepth 20000 in
theorem gd_X9_bigger : zx_good mm_X9_bigger := ⟨by decide +kernel, zg_at (i := 748) (by decide +kernel) (by decide +kernel), by decide +kernel, rfl, by decide⟩
set_option maxRecDepth 20000 in
theorem gd_X9_tap : zx_good mm_X9_tap := ⟨by decide +kernel, zg_at (i := 766) (by decide +kernel) (by decide +kernel), by decide +kernel, rfl, by decide⟩
set_option maxRecDepth 20000 in
theorem gd_X9_tenths : zx_good mm_X9_tenths := ⟨by decide +kernel, zg_at (i := 770) (by decide +kernel) (by decide +kernel), by decide +kernel, rfl, by decide⟩
set_option maxRecDepth 20000 in
theorem gd_X9_told : zx_good mm_X9_told := ⟨by decide +kernel, zg_at (i := 774) (by decide +kernel) (by decide +kernel), by decide +kernel, rfl, by decide⟩
set_option maxRecDepth 20000 in
theorem gd_X9_looks : zx_good mm_X9_looks := ⟨by decide +kernel, zg_at (i := 786) (by decide +kernel) (by decide +kernel), by decide +kernel, rfl, by decide⟩
set_option maxRecDepth 20000 in
theorem gd_X9_keep : zx_good mm_X9_keep := ⟨by decide +kernel, zg_at (i := 794) (by decide +kernel) (by decide +kernel), by decide +kernel, rfl, by decide⟩
set_option maxRecDepth 20000 in
theorem gd_X9_back : zx_good mm_X9_back := ⟨by decide +kernel, zg_at (i := 803) (by decide +kernel) (by decide +kernel), by decide +kernel, rfl, by decide⟩
set_option maxRecDepth 20000 in
theorem gd_X9_count : zx_good mm_X9_count := ⟨by decide +kernel, zg_at (i := 807) (by decide +kernel) (by decide +kernel), by decide +kernel, rfl, by decide⟩
set_option maxRecDepth 20000 in
theorem gd_X9_isRule : zx_good mm_X9_isRule := ⟨by decide +kernel, zg_at (i := 597) (by decide +kernel) (by decide +kernel), by decide +kernel, rfl, by decide⟩
set_option maxRecDepth 20000 in
theorem gd_X9_ask : zx_good mm_X9_ask := ⟨by decide +kernel, zg_at (i := 601) (by decide +kernel) (by decide +kernel), by decide +kernel, rfl, by decide⟩
set_option maxRecDepth 20000 in
theorem gd_X9_nobodyLate : zx_good mm_X9_nobodyLate := ⟨by decide +kernel, zg_at (i := 744) (by decide +kernel) (by decide +kernel), by decide +kernel, rfl, by decide⟩
set_option maxRecDepth 20000 in
theorem gd_X9_sumToldAt : zx_good mm_X9_sumToldAt := ⟨by decide +kernel, zg_at (i := 782) (by decide +kernel) (by decide +kernel), by decide +kernel, rfl, by decide⟩
set_option maxRecDepth 20000 in
theorem gd_X9_bestToCome : zx_good mm_X9_bestToCome := ⟨by decide +kernel, zg_at (i := 790) (by decide +kernel) (by decide +kernel), by decide +kernel, rfl, by decide⟩
set_option maxRecDepth 20000 in
theorem gd_X10_init : zx_good mm_X10_init := ⟨by decide +kernel, zg_at (i := 818) (by decide +kernel) (by decide +kernel), by decide +kernel, rfl, by decide⟩
set_option maxRecDepth 20000 in
theorem gd_X10_firstHouse : zx_good mm_X10_firstHouse := ⟨by decide +kernel, zg_at (i := 822) (by decide +kernel) (by decide +kernel), by decide +kernel, rfl, by decide⟩
set_option maxRecDepth 20000 in
theorem gd_X10_layDown : zx_good mm_X10_layDown := ⟨by decide +kernel, zg_at (i := 826) (by decide +kernel) (by decide +kernel), by decide +kernel, rfl, by decide⟩
set_option maxRecDepth 20000 in
theorem gd_X10_in : zx_good mm_X10_in := ⟨by decide +kernel, zg_at (i := 943) (by decide +kernel) (by decide +kernel), by decide +kernel, rfl, by decide⟩
set_option maxRecDepth 20000 in
theorem gd_X10_write : zx_good mm_X10_write := ⟨by decide +kernel, zg_at (i := 940) (by decide +kernel) (by decide +kernel), by decide +kernel, rfl, by decide⟩
set_option maxRecDepth 20000 in
theorem gd_X10_wipe : zx_good mm_X10_wipe := ⟨by decide +kernel, zg_at (i := 948) (by decide +kernel) (by decide +kernel), by decide +kernel, rfl, by decide⟩
set_option maxRecDepth 20000 in
theorem gd_X10_byteNow : zx_good mm_X10_byteNow := ⟨by decide +kernel, zg_at (i := 964) (by decide +kernel) (by decide +kernel), by decide +kernel, rfl, by decide⟩
set_option maxRecDepth 20000 in
theorem gd_X10_isNumber : zx_good mm_X10_isNumber := ⟨by decide +kernel, zg_at (i := 972) (by decide +kernel) (by decide +kernel), by decide +kernel, rfl, by decide⟩
set_option maxRecDepth 20000 in
theorem gd_X10_isPut : zx_good mm_X10_isPut := ⟨by decide +kernel, zg_at (i := 968) (by decide +kernel) (by decide +kernel), by decide +kernel, rfl, by decide⟩
set_option maxRecDepth 20000 in
theorem gd_X10_isBather : zx_good mm_X10_isBather := ⟨by decide +kernel, zg_at (i := 980) (by decide +kernel) (by decide +kernel), by decide +kernel, rfl, by decide⟩
set_option maxRecDepth 20000 in
theorem gd_X10_isPair : zx_good mm_X10_isPair := ⟨by decide +kernel, zg_at (i := 984) (by decide +kernel) (by decide +kernel), by decide +kernel, rfl, by decide⟩
set_option maxRecDepth 20000 in
theorem gd_X10_isFire : zx_good mm_X10_isFire := ⟨by decide +kernel, zg_at (i := 976) (by decide +kernel) (by decide +kernel), by decide +kernel, rfl, by decide⟩
set_option maxRecDepth 20000 in
theorem gd_X10_isItem : zx_good mm_X10_isItem := ⟨by decide +kernel, zg_at (i := 960) (by decide +kernel) (by decide +kernel), by decide +kernel, rfl, by decide⟩
set_option maxRecDepth 20000 in
theorem gd_X10_isRead : zx_good mm_X10_isRead := ⟨by decide +kernel, zg_at (i := 956) (by decide +kernel) (by decide +kernel), by decide +kernel, rfl, by decide⟩
set_option maxRecDepth 20000 in
theorem gd_X10_fault : zx_good mm_X10_fault := ⟨by decide +kernel, zg_at (i := 952) (by decide +kernel) (by decide +kernel), by decide +kernel, rfl, by decide⟩
set_option maxRecDepth 20000 in
theorem gd_X10_lay : zx_good mm_X10_lay := ⟨by decide +kernel, zg_at (i := 988) (by decide +kernel) (by decide +kernel), by decide +kernel, rfl, by decide⟩
set_option maxRecDepth 20000 in
theorem gd_X10_many : zx_good mm_X10_many := ⟨by decide +kernel, zg_at (i := 1000) (by decide +kernel) (by decide +kernel), by decide +kernel, rfl, by decide⟩
set_option maxRecDepth 20000 in
theorem gd_X10_isBatherOf : zx_good mm_X10_isBatherOf := ⟨by decide +kernel, zg_at (i := 996) (by decide +kernel) (by decide +kernel), by decide +kernel, rfl, by decide⟩
set_option maxRecDepth 20000 in
theorem gd_X10_of : zx_good mm_X10_of := ⟨by decide +kernel, zg_at (i := 1004) (by decide +kernel) (by decide +kernel), by decide +kernel, rfl, by decide⟩
set_option maxRecDepth 20000 in
theorem gd_X10_bather : zx_good mm_X10_bather := ⟨by decide +kernel, zg_at (i := 992) (by decide +kernel) (by decide +kernel), by decide +kernel, rfl, by decide⟩
set_option maxRecDepth 20000 in
theorem gd_X10_holds : zx_good mm_X10_holds := ⟨by decide +kernel, zg_at (i := 1012) (by decide +kernel) (by decide +kernel), by decide +kernel, rfl, by decide⟩
set_option maxRecDepth 20000 in
theorem gd_X10_fill : zx_good mm_X10_fill := ⟨by decide +kernel, zg_at (i := 1016) (by decide +kernel) (by decide +kernel), by decide +kernel, rfl, by decide⟩
set_option maxRecDepth 20000 in
theorem gd_X10_unitsOf : zx_good mm_X10_unitsOf := ⟨by decide +kernel, zg_at (i := 1020) (by decide +kernel) (by decide +kernel), by decide +kernel, rfl, by decide⟩
set_option maxRecDepth 20000 in
theorem gd_X10_draw : zx_good mm_X10_draw := ⟨by decide +kernel, zg_at (i := 1024) (by decide +kernel) (by decide +kernel), by decide +kernel, rfl, by decide⟩
set_option maxRecDepth 20000 in
theorem gd_X10_drawn : zx_good mm_X10_drawn := ⟨by decide +kernel, zg_at (i := 1008) (by decide +kernel) (by decide +kernel), by decide +kernel, rfl, by decide⟩
set_option maxRecDepth 20000 in
theorem gd_X10_hasBath : zx_good mm_X10_hasBath := ⟨by decide +kernel, zg_at (i := 1032) (by decide +kernel) (by decide +kernel), by decide +kernel, rfl, by decide⟩
set_option maxRecDepth 20000 in
theorem gd_X10_bath : zx_good mm_X10_bath := ⟨by decide +kernel, zg_at (i := 1028) (by decide +kernel) (by decide +kernel), by decide +kernel, rfl, by decide⟩
set_option maxRecDepth 20000 in
theorem gd_X10_row : zx_good mm_X10_row := ⟨by decide +kernel, zg_at (i := 1036) (by decide +kernel) (by decide +kernel), by decide +kernel, rfl, by decide⟩
set_option maxRecDepth 20000 in
theorem gd_X10_hot : zx_good mm_X10_hot := ⟨by decide +kernel, zg_at (i := 1040) (by decide +kernel) (by decide +kernel), by decide +kernel, rfl, by decide⟩
set_option maxRecDepth 20000 in
theorem gd_X10_plan : zx_good mm_X10_plan := ⟨by decide +kernel, zg_at (i := 1044) (by decide +kernel) (by decide +kernel), by decide +kernel, rfl, by decide⟩
set_option maxRecDepth 20000 in
theorem gd_X10_isRule : zx_good mm_X10_isRule := ⟨by decide +kernel, zg_at (i := 1052) (by decide +kernel) (by decide +kernel), by decide +kernel, rfl, by decide⟩
set_option maxRecDepth 20000 in
theorem gd_X10_canGo : zx_good mm_X10_canGo := ⟨by decide +kernel, zg_at (i := 1072) (by decide +kernel) (by decide +kernel), by decide +kernel, rfl, by decide⟩
set_option maxRecDepth 20000 in
theorem gd_X10_chosen : zx_good mm_X10_chosen := ⟨by decide +kernel, zg_at (i := 1068) (by decide +kernel) (by decide +kernel), by decide +kernel, rfl, by decide⟩
set_option maxRecDepth 20000 in
theorem gd_X10_warm : zx_good mm_X10_warm := ⟨by decide +kernel, zg_at (i := 1076) (by decide +kernel) (by decide +kernel), by decide +kernel, rfl, by decide⟩
set_option maxRecDepth 20000 in
theorem gd_X10_goThrough : zx_good mm_X10_goThrough := ⟨by decide +kernel, zg_at (i := 1064) (by decide +kernel) (by decide +kernel), by decide +kernel, rfl, by decide⟩
set_option maxRecDepth 20000 in
theorem gd_X10_lateNow : zx_good mm_X10_lateNow := ⟨by decide +kernel, zg_at (i := 1084) (by decide +kernel) (by decide +kernel), by decide +kernel, rfl, by decide⟩
set_option maxRecDepth 20000 in
theorem gd_X10_doneNow : zx_good mm_X10_doneNow := ⟨by decide +kernel, zg_at (i := 1088) (by decide +kernel) (by decide +kernel), by decide +kernel, rfl, by decide⟩
set_option maxRecDepth 20000 in
theorem gd_X10_scoreNow : zx_good mm_X10_scoreNow := ⟨by decide +kernel, zg_at (i := 1080) (by decide +kernel) (by decide +kernel), by decide +kernel, rfl, by decide⟩
set_option maxRecDepth 20000 in
theorem gd_X10_asTold : zx_good mm_X10_asTold := ⟨by decide +kernel, zg_at (i := 1060) (by decide +kernel) (by decide +kernel), by decide +kernel, rfl, by decide⟩
set_option maxRecDepth 20000 in
theorem gd_X10_scoreOf : zx_good mm_X10_scoreOf := ⟨by decide +kernel, zg_at (i := 1056) (by decide +kernel) (by decide +kernel), by decide +kernel, rfl, by decide⟩
set_option maxRecDepth 20000 in
theorem gd_X10_evening : zx_good mm_X10_evening := ⟨by decide +kernel, zg_at (i := 1049) (by decide +kernel) (by decide +kernel), by decide +kernel, rfl, by decide⟩
set_option maxRecDepth 20000 in
theorem gd_X10_score : zx_good mm_X10_score := ⟨by decide +kernel, zg_at (i := 1092) (by decide +kernel) (by decide +kernel), by decide +kernel, rfl, by decide⟩
set_option maxRecDepth 20000 in
theorem gd_X10_left : zx_good mm_X10_left := ⟨by decide +kernel, zg_at (i := 1096) (by decide +kernel) (by decide +kernel), by decide +kernel, rfl, by decide⟩
set_option maxRecDepth 20000 in
theorem gd_X10_turns : zx_good mm_X10_turns := ⟨by decide +kernel, zg_at (i := 1104) (by decide +kernel) (by decide +kernel), by decide +kernel, rfl, by decide⟩
set_option maxRecDepth 20000 in
theorem gd_X10_best : zx_good mm_X10_best := ⟨by decide +kernel, zg_at (i := 1100) (by decide +kernel) (by decide +kernel), by decide +kernel, rfl, by decide⟩
set_option maxRecDepth 20000 in
theorem gd_X10_change : zx_good mm_X10_change := ⟨by decide +kernel, zg_at (i := 1112) (by decide +kernel) (by decide +kernel), by decide +kernel, rfl, by decide⟩
set_option maxRecDepth 20000 in
theorem gd_X10_swapped : zx_good mm_X10_swapped := ⟨by decide +kernel, zg_at (i := 1108) (by decide +kernel) (by decide +kernel), by decide +kernel, rfl, by decide⟩
set_option maxRecDepth 20000 in
theorem gd_X10_when : zx_good mm_X10_when := ⟨by decide +kernel, zg_at (i := 1116) (by decide +kernel) (by decide +kernel), by decide +kernel, rfl, by decide⟩
set_option maxRecDepth 20000 in
theorem gd_X10_isNobodyLate : zx_good mm_X10_isNobodyLate := ⟨by decide +kernel, zg_at (i := 1124) (by decide +kernel) (by decide +kernel), by decide +kernel, rfl, by decide⟩
set_option maxRecDepth 20000 in
theorem gd_X10_fewest : zx_good mm_X10_fewest := ⟨by decide +kernel, zg_at (i := 1120) (by decide +kernel) (by decide +kernel), by decide +kernel, rfl, by decide⟩
set_option maxRecDepth 20000 in
theorem gd_X10_bigger : zx_good mm_X10_bigger := ⟨by decide +kernel, zg_at (i := 1128) (by decide +kernel) (by decide +kernel), by decide +kernel, rfl, by decide⟩
set_option maxRecDepth 20000 in
theorem gd_X10_tap : zx_good mm_X10_tap := ⟨by decide +kernel, zg_at (i := 1132) (by decide +kernel) (by decide +kernel), by decide +kernel, rfl, by decide⟩
set_option maxRecDepth 20000 in
theorem gd_X10_tenths : zx_good mm_X10_tenths := ⟨by decide +kernel, zg_at (i := 1136) (by decide +kernel) (by decide +kernel), by decide +kernel, rfl, by decide⟩
set_option maxRecDepth 20000 in
theorem gd_X10_told : zx_good mm_X10_told := ⟨by decide +kernel, zg_at (i := 1140) (by decide +kernel) (by decide +kernel), by decide +kernel, rfl, by decide⟩
set_option maxRecDepth 20000 in
theorem gd_X10_grief : zx_good mm_X10_grief := ⟨by decide +kernel, zg_at (i := 1148) (by decide +kernel) (by decide +kernel), by decide +kernel, rfl, by decide⟩
set_option maxRecDepth 20000 in
theorem gd_X10_looks : zx_good mm_X10_looks := ⟨by decide +kernel, zg_at (i := 1144) (by decide +kernel) (by decide +kernel), by decide +kernel, rfl, by decide⟩
set_option maxRecDepth 20000 in
theorem gd_X10_keep : zx_good mm_X10_keep := ⟨by decide +kernel, zg_at (i := 1152) (by decide +kernel) (by decide +kernel), by decide +kernel, rfl, by decide⟩
set_option maxRecDepth 20000 in
theorem gd_X10_back : zx_good mm_X10_back := ⟨by decide +kernel, zg_at (i := 1156) (by decide +kernel) (by decide +kernel), by decide +kernel, rfl, by decide⟩
set_option maxRecDepth 20000 in
theorem gd_X10_count : zx_good mm_X10_count := ⟨by decide +kernel, zg_at (i := 1160) (by decide +kernel) (by decide +kernel), by decide +kernel, rfl, by decide⟩
set_option maxRecDepth 20000 in
theorem gd_J13_bitCount_95d88 : zx_good mm_J13_bitCount_95d88 := ⟨by decide +kernel, zg_at (i := 810) (by decide +kernel) (by decide +kernel), by decide +kernel, rfl, by decide⟩
