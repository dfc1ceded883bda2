/-! bits of a plan -/
theorem sh_t : ∀ t : Fin 64, ((((nI t.1).toInt64 &&& 63)).toBitVec.smod 64).toNat = t.1 := by decide +kernel
theorem b_shr {x : Int64} {t : Nat} (ht : t < 64) : (x >>> ((nI t).toInt64 &&& 63)) &&& 1 = if x.toBitVec.getLsbD t = true then 1 else 0 := by
  have e : ((x >>> ((nI t).toInt64 &&& 63)) &&& 1).toBitVec = BitVec.setWidth 64 (BitVec.ofBool ((x >>> ((nI t).toInt64 &&& 63)).toBitVec.getLsbD 0)) := by
    rw [Int64.toBitVec_and]
    exact BitVec.and_one_eq_setWidth_ofBool_getLsbD
  have e2 : (x >>> ((nI t).toInt64 &&& 63)).toBitVec.getLsbD 0 = x.toBitVec.getLsbD t := by
    rw [Int64.toBitVec_shiftRight, BitVec.getLsbD_sshiftRight', sh_t ⟨t, ht⟩]
    simp [ht]
  rw [e2] at e
  refine Int64.toBitVec_inj.mp (e.trans ?_)
  cases x.toBitVec.getLsbD t with
  | false => rfl
  | true => rfl
theorem b_bit {t i : Nat} (ht : t < 64) (hi : i < 64) : (q_bit (nI t)).toBitVec.getLsbD i = decide (i = t) := by
  unfold q_bit
  rw [Int64.toBitVec_shiftLeft, BitVec.getLsbD_shiftLeft', sh_t ⟨t, ht⟩]
  show (decide (i < 64) && !decide (i < t) && (1#64).getLsbD (i - t)) = decide (i = t)
  rw [BitVec.getLsbD_one]
  by_cases c1 : i < t
  · simp [c1, show ¬ i = t by omega]
  · by_cases c2 : i = t
    · simp [c2, ht]
    · simp [c1, c2, hi, show ¬ i - t = 0 by omega]
theorem b_and {x : Int64} {t : Nat} (ht : t < 64) : (x &&& q_bit (nI t) = 0) ↔ ¬ x.toBitVec.getLsbD t = true := by
  constructor
  · intro h hb
    have : (x &&& q_bit (nI t)).toBitVec.getLsbD t = true := by
      rw [Int64.toBitVec_and, BitVec.getLsbD_and, hb, b_bit ht ht]
      simp
    rw [h] at this
    simp at this
  · intro hb
    refine Int64.toBitVec_inj.mp (BitVec.eq_of_getLsbD_eq fun i hi => ?_)
    rw [Int64.toBitVec_and, BitVec.getLsbD_and, b_bit ht hi]
    show _ = (0#64).getLsbD i
    rw [BitVec.getLsbD_zero]
    by_cases c : i = t
    · subst c
      cases h : x.toBitVec.getLsbD i with
      | false => rfl
      | true => exact absurd h hb
    · simp [c]
theorem b_or {x : Int64} {t : Nat} (ht : t < 64) : (x ||| q_bit (nI t) = x) ↔ x.toBitVec.getLsbD t = true := by
  constructor
  · intro h
    rw [← h, Int64.toBitVec_or, BitVec.getLsbD_or, b_bit ht ht]
    simp
  · intro hb
    refine Int64.toBitVec_inj.mp (BitVec.eq_of_getLsbD_eq fun i hi => ?_)
    rw [Int64.toBitVec_or, BitVec.getLsbD_or, b_bit ht hi]
    by_cases c : i = t
    · subst c
      rw [hb]
      rfl
    · simp [c]
theorem cmp_0 {x y : Int64} : (lg_cmp x y = 0) ↔ x = y := by
  unfold lg_cmp
  by_cases c1 : x > y
  · rw [if_pos c1]
    refine ⟨fun q => absurd q (by decide), fun q => ?_⟩
    subst q
    exact absurd c1 (by show ¬ x < x; rw [Int64.lt_iff_toInt_lt]; omega)
  · rw [if_neg c1]
    by_cases c2 : x = y
    · rw [if_pos c2]
      exact ⟨fun _ => c2, fun _ => rfl⟩
    · rw [if_neg c2]
      exact ⟨fun q => absurd q (by decide), fun q => absurd q c2⟩
theorem lN_nat {x : Int64} {P : Nat} (h : x.toBitVec.toNat = P) : x = lN P := by
  refine Int64.toBitVec_inj.mp (BitVec.eq_of_toNat_eq ?_)
  have hP : P < 2 ^ 64 := by rw [← h]; exact x.toBitVec.isLt
  unfold lN
  rw [Int64.toBitVec_ofNat', BitVec.toNat_ofNat, Nat.mod_eq_of_lt hP]
  exact h
theorem lN_toNat {P : Nat} (h : P < 2 ^ 64) : (lN P).toBitVec.toNat = P := by
  unfold lN
  rw [Int64.toBitVec_ofNat', BitVec.toNat_ofNat, Nat.mod_eq_of_lt h]
theorem pl_and {P : Nat} {y : Int64} (h : P < 2 ^ 60) : ∃ P', P' < 2 ^ 60 ∧ lN P &&& y = lN P' := by
  refine ⟨_, ?_, lN_nat (P := P &&& y.toBitVec.toNat) ?_⟩
  · exact Nat.lt_of_le_of_lt Nat.and_le_left h
  · rw [Int64.toBitVec_and, BitVec.toNat_and, lN_toNat (by omega)]
theorem q_bit_N : ∀ t : Fin 60, (q_bit (nI t.1)).toBitVec.toNat < 2 ^ 60 := by decide +kernel
theorem pl_or {P t : Nat} (h : P < 2 ^ 60) (ht : t < 60) : ∃ P', P' < 2 ^ 60 ∧ lN P ||| q_bit (nI t) = lN P' := by
  refine ⟨_, ?_, lN_nat (P := P ||| (q_bit (nI t)).toBitVec.toNat) ?_⟩
  · exact Nat.or_lt_two_pow h (q_bit_N ⟨t, ht⟩)
  · rw [Int64.toBitVec_or, BitVec.toNat_or, lN_toNat (by omega)]
/-! wishes change -/
theorem WRx_w {h sp : Nat} {I I' : zx_I} {L L' : zx_L} {J J' : zx_I} {M M' : zx_L} {m p c f ct : Nat} (q : WRx h sp I L J M m p c f ct) (h1 : ∀ b, b ≠ 24 → b ≠ 25 → b ≠ 26 → I' b = I b) (h2 : ∀ b, b ≠ 24 → L' b = L b) (h3 : ∀ b, b = 1 ∨ b = 3 ∨ (6 ≤ b ∧ b ≤ 9) → J' b = J b) (h4 : J' 0 0 = J 0 0 ∧ J' 0 11 = J 0 11) (h5 : M' 8 = M 8) (w : wsh I' L' 24 ct (J' 4) (J' 0 8) (M' 0 9) (J' 5)) : WRx h sp I' L' J' M' m p c f ct := by
  obtain ⟨a1, ⟨a2, a2'⟩, ⟨b1, b2, b3⟩, a3, a4, ⟨l, l1, l2, l3, l4⟩, a5, kk, k1, k2, k3, k4⟩ := q
  have hb : ∀ i, i < 6 → I' (h + 4 + i) = I (h + 4 + i) := fun i hi => h1 _ (by unfold hsp at a1; omega) (by unfold hsp at a1; omega) (by unfold hsp at a1; omega)
  have hs : hsame I I' h := ⟨h1 _ (by unfold hsp at a1; omega) (by unfold hsp at a1; omega) (by unfold hsp at a1; omega), h1 _ (by unfold hsp at a1; omega) (by unfold hsp at a1; omega) (by unfold hsp at a1; omega), h1 _ (by unfold hsp at a1; omega) (by unfold hsp at a1; omega) (by unfold hsp at a1; omega), fun i hi k _ => by rw [hb i hi]⟩
  have n0 : ∀ b, b < 24 ∨ 26 < b → I' b = I b := fun b hb => h1 b (by omega) (by omega) (by omega)
  refine ⟨a1, ⟨hvt_cg hs.1 a2, hvr_cg hs a2'⟩, ⟨by rw [hs.1]; exact b1, b2, fun i hi => hvb_cg (fun k hk => hs.2.2.2 i (by omega) k hk) (b3 i hi)⟩, fun k hk => by rw [h3 3 (by omega), ho_cg hs b2 hk]; exact a3 k hk, fun i hi => by rw [n0 (sp + 4 + i) (by unfold hsp at a1; omega), hs.2.1]; exact a4 i hi, ⟨l, l1, by rw [n0 0 (by omega)]; exact l2, by rw [h4.1]; exact l3, fun k hk => by rw [n0 1 (by omega), h3 1 (by omega)]; exact l4 k hk⟩, w, kk, k1, by rw [n0 0 (by omega)]; exact k2, by rw [h4.2]; exact k3, fun x hx => ?_⟩
  exact wsh_cg (k4 x hx) (n0 _ (by omega)) (n0 _ (by omega)) (n0 _ (by omega)) (h2 _ (by omega)) (fun k _ => by rw [h3 6 (by omega)]) (by rw [h3 7 (by omega)]) (by rw [h5]) (fun k _ => by rw [h3 9 (by omega)])
theorem cr_wipe {h sp : Nat} {la : Option Nat} {I : zx_I} {L : zx_L} {J : zx_I} {M : zx_L} (hW : WR h sp I L J M) : CR mm_X9_wipe mm_X10_wipe [] h sp la I L J M := by
  obtain ⟨m, p, c, f, ct, q⟩ := hW
  obtain ⟨a1, ⟨a2, a2'⟩, ⟨b1, b2, b3⟩, a3, a4, ⟨l, l1, l2, l3, l4⟩, a5, kk, k1, k2, k3, k4⟩ := q
  refine cr_ret (J' := zx_uI J 0 0 0) (ct_X9_wipe (d := 8)) (mt_wipe (d := 8) (p := (I 0 1, zx_uI J 0 0 0)) ?_) ⟨m, p, c, f, ct, a1, ?_⟩
  · unfold mf_wipe
    rw [l2, l3]
  have n0 : ∀ b, b ≠ 0 → zx_uI I 0 1 0 b = I b := fun b hb => zx_uI_ne hb
  have m0 : ∀ b, b ≠ 0 → zx_uI J 0 0 0 b = J b := fun b hb => zx_uI_ne hb
  have hb : ∀ i, i < 6 → zx_uI I 0 1 0 (h + 4 + i) = I (h + 4 + i) := fun i hi => n0 _ (by omega)
  have hs : hsame I (zx_uI I 0 1 0) h := ⟨n0 _ (by unfold hsp at a1; omega), n0 _ (by omega), n0 _ (by omega), fun i hi k _ => by rw [hb i hi]⟩
  refine ⟨⟨hvt_cg hs.1 a2, hvr_cg hs a2'⟩, ⟨by rw [hs.1]; exact b1, b2, fun i hi => hvb_cg (fun k hk => hs.2.2.2 i (by omega) k hk) (b3 i hi)⟩, fun k hk => by rw [m0 3 (by decide), ho_cg hs b2 hk]; exact a3 k hk, fun i hi => by rw [n0 (sp + 4 + i) (by omega), hs.2.1]; exact a4 i hi, ⟨0, by omega, by simp [zx_uI]; rfl, by simp [zx_uI]; rfl, fun k hk => by omega⟩, ?_, kk, k1, by rw [show zx_uI I 0 1 0 0 7 = I 0 7 by simp [zx_uI]]; exact k2, by rw [show zx_uI J 0 0 0 0 11 = J 0 11 by simp [zx_uI]]; exact k3, fun x hx => ?_⟩
  · exact wsh_cg a5 (n0 _ (by decide)) (n0 _ (by decide)) (n0 _ (by decide)) rfl (fun k _ => by rw [m0 4 (by decide)]) (by simp [zx_uI]) rfl (fun k _ => by rw [m0 5 (by decide)])
  · exact wsh_cg (k4 x hx) (n0 _ (by omega)) (n0 _ (by omega)) (n0 _ (by omega)) rfl (fun k _ => by rw [m0 6 (by decide)]) (by rw [m0 7 (by decide)]) rfl (fun k _ => by rw [m0 9 (by decide)])
theorem cr_hot {h sp : Nat} {la : Option Nat} {I : zx_I} {L : zx_L} {J : zx_I} {M : zx_L} (x : Int32) (hW : WR h sp I L J M) : CR mm_X9_hot mm_X10_hot [.int x] h sp la I L J M := by
  have hW0 := hW
  obtain ⟨m, p, c, f, ct, q⟩ := hW
  obtain ⟨w1, w2, ⟨w3, w3'⟩, w4, w5⟩ := q.2.2.2.2.2.2.1
  have hct := ct_X9_hot (d := 8) (I := I) (L := L) (h := h) (sp := sp) (la := la) (x := x)
  rcases in_cs (x := x) (a := 0) (b := 99) with ⟨z, z1⟩ | ⟨z, z1, z2⟩
  · have e1 : q_hot I x = -1 ∧ q_hotm I x = I := by
      unfold q_hot q_hotm
      by_cases y : x < 0
      · rw [if_pos y, if_pos y]
        exact ⟨rfl, rfl⟩
      · have y2 : ¬ x ≤ 99 := fun w => nlt_le.mpr w (z1.resolve_left y)
        rw [if_neg y, if_neg y, if_neg y2, if_neg y2]
        exact ⟨rfl, rfl⟩
    rw [e1.1, e1.2] at hct
    refine cr_ret hct (mt_hot (d := 7) (p := (-1, J)) ?_) hW0
    unfold mf_hot
    rw [if_pos z]
  · have e1 : q_hot I x = I 24 1 ∧ q_hotm I x = zx_uI I 24 1 x := by
      unfold q_hot q_hotm
      rw [if_neg z1, if_neg z1, if_pos (nlt_le.mp z2), if_pos (nlt_le.mp z2)]
      exact ⟨rfl, rfl⟩
    rw [e1.1, e1.2] at hct
    refine cr_ret (J' := zx_uI J 0 8 x) hct (mt_hot (d := 7) (p := (I 24 1, zx_uI J 0 8 x)) ?_) ⟨m, p, c, f, ct, WRx_w q (fun b hb _ _ => zx_uI_ne hb) (fun _ _ => rfl) (fun b hb => zx_uI_ne (by omega)) ⟨by simp [zx_uI], by simp [zx_uI]⟩ rfl ?_⟩
    · unfold mf_hot
      rw [if_neg (by rw [z]; decide), w3]
    · obtain ⟨y, hy, ey⟩ := in_le (k := 99) rfl z1 z2
      refine ⟨by rw [zx_uI_ne (by decide)]; exact w1, fun k hk => by rw [zx_uI_ne (by decide), zx_uI_ne (by decide)]; exact w2 k hk, ⟨by simp [zx_uI], y, by simp [zx_uI, ey], Nat.zero_le _, hy⟩, w4, fun k hk => by rw [zx_uI_ne (by decide), zx_uI_ne (by decide)]; exact w5 k hk⟩
theorem cr_tenths {h sp : Nat} {la : Option Nat} {I : zx_I} {L : zx_L} {J : zx_I} {M : zx_L} (d v : Int32) (hW : WR h sp I L J M) : CR mm_X9_tenths mm_X10_tenths [.int d, .int v] h sp la I L J M := by
  have hW0 := hW
  obtain ⟨m, p, c, f, ct, q⟩ := hW
  obtain ⟨w1, w2, w3, w4, w5⟩ := q.2.2.2.2.2.2.1
  have hct := ct_X9_tenths (d := 8) (I := I) (L := L) (h := h) (sp := sp) (la := la) (d0 := d) (v := v)
  have bad : q_ten I d v = -1 ∧ q_tenm I d v = I → mf_tenths d v J = some (-1, J) → CR mm_X9_tenths mm_X10_tenths [.int d, .int v] h sp la I L J M := fun e1 e2 => by
    rw [e1.1, e1.2] at hct
    exact cr_ret hct (mt_tenths (d := 7) e2) hW0
  rcases in_cs (x := d) (a := 0) (b := 5) with ⟨z, z1⟩ | ⟨z, z1, z2⟩
  · refine bad ?_ ?_
    · unfold q_ten q_tenm
      by_cases y : d < 0
      · rw [if_pos y, if_pos y]
        exact ⟨rfl, rfl⟩
      · have y2 : d ≥ 6 := by
          have := z1.resolve_left y
          rw [Int32.lt_iff_toInt_lt] at this
          show (6 : Int32) ≤ d
          rw [Int32.le_iff_toInt_le]
          have e5 : (5 : Int32).toInt = 5 := rfl
          have e6 : (6 : Int32).toInt = 6 := rfl
          omega
        rw [if_neg y, if_neg y, if_pos y2, if_pos y2]
        exact ⟨rfl, rfl⟩
    · unfold mf_tenths
      rw [if_pos z]
  · obtain ⟨y, hy, rfl⟩ := in_le (k := 5) rfl z1 z2
    have y6 : ¬ nI y ≥ 6 := nI_ge (b := 6) (a := y) (by omega) (by decide)
    rcases in_cs (x := v) (a := 0) (b := 10) with ⟨x, x1⟩ | ⟨x, x1, x2⟩
    · refine bad ?_ ?_
      · unfold q_ten q_tenm
        rw [if_neg z1, if_neg z1, if_neg y6, if_neg y6]
        by_cases u : v < 0
        · rw [if_pos u, if_pos u]
          exact ⟨rfl, rfl⟩
        · have u2 : ¬ v ≤ 10 := fun w => nlt_le.mpr w (x1.resolve_left u)
          rw [if_neg u, if_neg u, if_neg u2, if_neg u2]
          exact ⟨rfl, rfl⟩
      · unfold mf_tenths
        rw [if_neg (by rw [z]; decide), if_pos x]
    · obtain ⟨vv, hv, rfl⟩ := in_le (k := 10) rfl x1 x2
      have e1 : q_ten I (nI y) (nI vv) = I 26 y ∧ q_tenm I (nI y) (nI vv) = zx_uI I 26 y (nI vv) := by
        unfold q_ten q_tenm
        rw [if_neg z1, if_neg z1, if_neg y6, if_neg y6, if_neg x1, if_neg x1, if_pos (nlt_le.mp x2), if_pos (nlt_le.mp x2), nI_clamp (by omega)]
        exact ⟨rfl, rfl⟩
      rw [e1.1, e1.2] at hct
      refine cr_ret (J' := zx_uI J 5 y (nI vv)) hct (mt_tenths (d := 7) (p := (I 26 y, zx_uI J 5 y (nI vv))) ?_) ⟨m, p, c, f, ct, WRx_w q (fun b _ _ hb => zx_uI_ne hb) (fun _ _ => rfl) (fun b hb => zx_uI_ne (by omega)) ⟨by simp [zx_uI], by simp [zx_uI]⟩ rfl ?_⟩
      · unfold mf_tenths
        rw [if_neg (by rw [z]; decide), if_neg (by rw [x]; decide), mo_g1 (mo_inN (by omega) (by decide)), mo_g1 (mo_inN (by omega) (by decide)), nI_clamp (by omega), (w5 y (by omega)).1]
      · refine ⟨by rw [zx_uI_ne (by decide)]; exact w1, fun k hk => by rw [zx_uI_ne (by decide), zx_uI_ne (by decide)]; exact w2 k hk, by rw [zx_uI_ne (by decide), zx_uI_ne (by decide)]; exact w3, w4, fun k hk => ?_⟩
        by_cases u : k = y
        · subst u
          exact ⟨by simp [zx_uI], vv, by simp [zx_uI], Nat.zero_le _, hv⟩
        · rw [show zx_uI J 5 y (nI vv) 5 k = J 5 k by simp [zx_uI, u], show zx_uI I 26 y (nI vv) (24 + 2) k = I 26 k by simp [zx_uI, u]]
          exact w5 k hk
theorem b_32 {b : Bool} : ((if b = true then (1 : Int64) else 0)).toInt32 = if b = true then 1 else 0 := by
  cases b <;> decide
theorem cr_plan {h sp : Nat} {la : Option Nat} {I : zx_I} {L : zx_L} {J : zx_I} {M : zx_L} (t is : Int32) (hW : WR h sp I L J M) : CR mm_X9_plan mm_X10_plan [.int t, .int is] h sp la I L J M := by
  have hW0 := hW
  obtain ⟨m, p, c, f, ct, q⟩ := hW
  obtain ⟨w1, w2, w3, ⟨w4, P, hP, eP⟩, w5⟩ := q.2.2.2.2.2.2.1
  have hct := ct_X9_plan (d := 8) (I := I) (L := L) (h := h) (sp := sp) (la := la) (t := t) (is := is)
  rcases in_cs (x := t) (a := 0) (b := 59) with ⟨z, z1⟩ | ⟨z, z1, z2⟩
  · have e1 : q_plan L t = -1 ∧ q_planm L t is = L := by
      unfold q_plan q_planm
      by_cases y : t < 0
      · rw [if_pos y, if_pos y]
        exact ⟨rfl, rfl⟩
      · have y2 : ¬ t < 60 := by
          have := z1.resolve_left y
          rw [Int32.lt_iff_toInt_lt] at this ⊢
          have e5 : (59 : Int32).toInt = 59 := rfl
          have e6 : (60 : Int32).toInt = 60 := rfl
          omega
        rw [if_neg y, if_neg y, if_neg y2, if_neg y2]
        exact ⟨rfl, rfl⟩
    rw [e1.1, e1.2] at hct
    refine cr_ret hct (mt_plan (d := 7) (p := (-1, M)) ?_) hW0
    unfold mf_plan
    rw [if_pos z]
  · obtain ⟨y, hy, rfl⟩ := in_le (k := 59) rfl z1 z2
    have y2 : nI y < 60 := nI_lt (b := 60) (by omega) (by decide)
    have e1 : q_plan L (nI y) = (if (L 24 2).toBitVec.getLsbD y = true then 1 else 0) := by
      unfold q_plan
      rw [if_neg z1, if_pos y2]
      have := b_and (x := L 24 2) (t := y) (by omega)
      by_cases u : (L 24 2).toBitVec.getLsbD y = true
      · rw [if_neg (fun w => this.mp (cmp_0.mp w) u), if_pos u]
      · rw [if_pos (cmp_0.mpr (this.mpr u)), if_neg u]
    have e2 : ∃ P', P' < 2 ^ 60 ∧ q_planm L (nI y) is = zx_uL L 24 2 (lN P') ∧ (((if is = 0 then some (((M 0 9) &&& (((1 : Int64) <<< ((nI y).toInt64 &&& 63)) ^^^ (-1 : Int64)))) else some (((M 0 9) ||| ((1 : Int64) <<< ((nI y).toInt64 &&& 63))))) : Option (Int64))) = some (lN P') := by
      unfold q_planm
      rw [if_neg z1, if_pos y2, w4, eP]
      by_cases u : is = 0
      · rw [if_pos u, if_pos u]
        obtain ⟨P', h1, h2⟩ := pl_and (y := q_bit (nI y) ^^^ (-1)) hP
        exact ⟨P', h1, by rw [h2], congrArg some h2⟩
      · rw [if_neg u, if_neg u]
        obtain ⟨P', h1, h2⟩ := pl_or (t := y) hP (by omega)
        exact ⟨P', h1, by rw [h2], congrArg some h2⟩
    obtain ⟨P', hP', e3, e4⟩ := e2
    rw [e1, e3] at hct
    refine cr_ret (M' := zx_uL M 0 9 (lN P')) hct (mt_plan (d := 7) (p := ((if (L 24 2).toBitVec.getLsbD y = true then 1 else 0), zx_uL M 0 9 (lN P'))) ?_) ⟨m, p, c, f, ct, WRx_w q (fun b _ _ _ => rfl) (fun b hb => zx_uL_ne hb) (fun _ _ => rfl) ⟨rfl, rfl⟩ (zx_uL_ne (by decide)) ?_⟩
    · unfold mf_plan
      rw [if_neg (by rw [z]; decide), e4, Option.bind_some, b_shr (by omega), b_32, w4]
    · exact ⟨w1, w2, w3, ⟨by simp [zx_uL], P', hP', by simp [zx_uL]⟩, w5⟩
