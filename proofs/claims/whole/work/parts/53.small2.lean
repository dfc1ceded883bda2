/-! bather, row, keep, back, drawn, bath, write in both -/
theorem cr_bather {h sp : Nat} {la : Option Nat} {I : zx_I} {L : zx_L} {J : zx_I} {M : zx_L} (i what : Int32) (hW : WR h sp I L J M) : CR mm_X9_bather mm_X10_bather [.int i, .int what] h sp la I L J M := by
  have hW0 := hW
  obtain ⟨m, p, c, f, ct, q⟩ := hW
  have e13 := q.2.2.1.1
  have hct6 := q.2.2.1.2.1
  have h16 : J 3 16 = nI ct := (q.2.2.2.1 16 (by omega)).trans e13
  have go : mf_bather i what J = some (q_bather I h i what) → CR mm_X9_bather mm_X10_bather [.int i, .int what] h sp la I L J M := fun e => cr_ret (ct_X9_bather (d := 7) q.1) (mt_bather (d := 6) e) hW0
  refine go ?_
  unfold mf_bather q_bather
  rcases who_cs i e13 hct6 h16 with ⟨w1, w2⟩ | ⟨x, hx, rfl, w1, w2⟩
  · rw [w1, if_pos w2]
  · rw [w1, if_neg (by rw [w2]; decide)]
    dsimp only
    rcases in_cs (x := what) (a := 0) (b := 7) with ⟨z, z1⟩ | ⟨z, z1, z2⟩
    · rw [if_pos z]
      by_cases y : what < 0
      · rw [if_pos y]
      · rw [if_neg y, if_neg (fun w => nlt_le.mpr w (z1.resolve_left y))]
    · rw [if_neg (by rw [z]; decide), if_neg z1, if_pos (nlt_le.mp z2)]
      obtain ⟨y, hy, rfl⟩ := in_le (k := 7) rfl z1 z2
      rw [mf_of_ok (by omega) (by omega), hrl_b q.2.2.2.1 hx (by omega), Option.bind_some]
      unfold fb_told
      rw [nI_toInt (by omega)]
      rcases (show y = 0 ∨ y = 1 ∨ y = 2 ∨ y = 3 ∨ y = 4 ∨ y = 5 ∨ y = 6 ∨ y = 7 by omega) with rfl | rfl | rfl | rfl | rfl | rfl | rfl | rfl <;> rfl
/-! row -/
theorem mr_loop {n ct : Nat} {k i : Nat} {K : zx_I → Option (Int32 × zx_I)} {th : Int32} {x1 : Int32} (hct : ct ≤ 6) : ∀ (d j e : Nat) (J : zx_I), j + d = ct → d < e → J 3 16 = nI ct → ∃ J', mf_row_28 n x1 (nI i) th K e (nI j) J = K J' ∧ (∀ b, b ≠ 4 → J' b = J b) ∧ ∀ y, J' 4 y = if j ≤ y ∧ y < j + d then rw_v (nI i) th (J 4 y) else J 4 y := by
  intro d
  induction d with
  | zero =>
    intro j e J hj he h16
    obtain ⟨e, rfl⟩ : ∃ e9, e = e9 + 1 := ⟨e - 1, by omega⟩
    refine ⟨J, ?_, fun _ _ => rfl, fun y => by rw [if_neg (by omega)]⟩
    show mf_row_28_b _ _ _ _ _ _ _ _ = _
    unfold mf_row_28_b mf_many
    rw [h16, if_pos (nI_le (by omega) (by omega))]
  | succ d ih =>
    intro j e J hj he h16
    obtain ⟨e, rfl⟩ : ∃ e9, e = e9 + 1 := ⟨e - 1, by omega⟩
    obtain ⟨J', f1, f2, f3⟩ := ih (j + 1) e (zx_uI J 4 j (rw_v (nI i) th (J 4 j))) (by omega) (by omega) (by rw [zx_uI_ne (by decide)]; exact h16)
    refine ⟨J', ?_, fun b hb => (f2 b hb).trans (zx_uI_ne hb), fun y => ?_⟩
    · refine Eq.trans ?_ f1
      show mf_row_28_b _ _ _ _ _ _ _ _ = _
      unfold mf_row_28_b mf_many rw_v
      rw [h16, if_neg (nI_ge (by omega) (by omega)), mo_g1 (mo_inN (by omega) (by decide)), nI_clamp (by omega), ← nI_succ]
      by_cases z : J 4 j = nI i
      · rw [if_pos z, Option.bind_some, mo_g1 (mo_inN (by omega) (by decide)), if_pos z]
      · rw [if_neg z, mo_g1 (mo_inN (by omega) (by decide)), Option.bind_some, mo_g1 (mo_inN (by omega) (by decide)), if_neg z]
    · rw [f3 y]
      by_cases z : y = j
      · subst z
        rw [if_neg (by omega), if_pos (by omega)]
        simp [zx_uI]
      · by_cases z2 : j + 1 ≤ y ∧ y < j + 1 + d
        · rw [if_pos z2, if_pos (by omega)]
          simp [zx_uI, z]
        · rw [if_neg z2, if_neg (by omega)]
          simp [zx_uI, z]
theorem cr_row {h sp : Nat} {la : Option Nat} {I : zx_I} {L : zx_L} {J : zx_I} {M : zx_L} (k i : Int32) (hW : WR h sp I L J M) : CR mm_X9_row mm_X10_row [.int k, .int i] h sp la I L J M := by
  have hW0 := hW
  obtain ⟨m, p, c, f, ct, q⟩ := hW
  have e13 := q.2.2.1.1
  have hct6 := q.2.2.1.2.1
  have h16 : J 3 16 = nI ct := (q.2.2.2.1 16 (by omega)).trans e13
  obtain ⟨w1, w2, w3, w4, w5⟩ := q.2.2.2.2.2.2.1
  have bad : (fh_who I h i = none ∨ fh_who I h k = none) → mf_row 200 k i J = some (-1, J) → CR mm_X9_row mm_X10_row [.int k, .int i] h sp la I L J M := fun b1 b2 => cr_ret (ct_X9_row_no (d := 7) q.1 b1) (mt_row (d := 6) b2) hW0
  rcases who_cs k e13 hct6 h16 with ⟨k1, k2⟩ | ⟨x, hx, rfl, k1, k2⟩
  · refine bad (Or.inr k1) ?_
    unfold mf_row
    rw [if_pos k2]
  · rcases who_cs i e13 hct6 h16 with ⟨i1, i2⟩ | ⟨y, hy, rfl, i1, i2⟩
    · refine bad (Or.inl i1) ?_
      unfold mf_row
      rw [if_neg (by rw [k2]; decide), if_pos i2]
    · obtain ⟨J', f1, f2, f3⟩ := mr_loop (n := 200) (k := x) (i := y) (x1 := nI x) (th := J 4 x) (K := fun J_28 => (mo_g (mo_in (nI x) 6) (some ((J 4 x), (zx_uI J_28 4 x (nI y)))))) hct6 ct 0 200 J (by omega) (by omega) h16
      have hct := ct_X9_row (d := 7) (I := I) (L := L) (la := la) (k := nI x) (i := nI y) q.1 ⟨(by rw [i1]; intro z; cases z), (by rw [k1]; intro z; cases z)⟩
      rw [nI_clamp (by omega)] at hct
      have eI : ∀ z, z < 6 → q_rowm I (nI x) (nI y) 25 z = if z = x then nI y else rw_v (nI y) (I 25 x) (I 25 z) := fun z hz => by
        unfold q_rowm zmap zr
        rw [nI_clamp (by omega)]
        simp only [zx_uI, if_pos]
        by_cases u : z = x
        · rw [if_pos u, if_pos u]
        · rw [if_neg u, if_neg u, if_pos (by omega)]
      have nI' : ∀ b, b ≠ 25 → q_rowm I (nI x) (nI y) b = I b := fun b hb => by
        unfold q_rowm zmap zr
        rw [zx_uI_ne hb, if_neg hb]
      have e4 : ∀ z, z < 6 → zx_uI J' 4 x (nI y) 4 z = q_rowm I (nI x) (nI y) 25 z := fun z hz => by
        rw [eI z hz]
        simp only [zx_uI, if_pos]
        by_cases u : z = x
        · rw [if_pos u, if_pos u]
        · rw [if_neg u, if_neg u, f3 z, w2 z hz, w2 x (by omega)]
          by_cases u2 : z < ct
          · rw [if_pos (by omega)]
          · rw [if_neg (by omega)]
            obtain ⟨v, v1, v2, ev⟩ := w1.2 z (by omega) hz
            unfold rw_v
            rw [if_neg]
            rw [ev]
            intro u3
            have := (nI_eq (by omega) (by omega)).mp u3
            omega
      refine cr_ret (J' := zx_uI J' 4 x (nI y)) hct (mt_row (d := 6) (n := 200) (p := (I 25 x, zx_uI J' 4 x (nI y))) ?_) ⟨m, p, c, f, ct, WRx_w q (fun b _ hb _ => nI' b hb) (fun _ _ => rfl) (fun b hb => by rw [zx_uI_ne (by omega), f2 b (by omega)]) ⟨by rw [zx_uI_ne (by decide), f2 0 (by decide)], by rw [zx_uI_ne (by decide), f2 0 (by decide)]⟩ rfl ?_⟩
      · unfold mf_row
        rw [if_neg (by rw [k2]; decide), if_neg (by rw [i2]; decide), mo_g1 (mo_inN (by omega) (by decide)), nI_clamp (by omega)]
        refine f1.trans ?_
        rw [mo_g1 (mo_inN (by omega) (by decide)), w2 x (by omega)]
      · refine ⟨⟨fun z hz => ?_, fun z hz hz6 => ?_⟩, e4, ?_, w4, fun z hz => ?_⟩
        · show ∃ v, v < ct ∧ q_rowm I (nI x) (nI y) 25 z = nI v
          rw [eI z (by omega)]
          by_cases u : z = x
          · exact ⟨y, hy, if_pos u⟩
          · rw [if_neg u]
            unfold rw_v
            split
            · exact w1.1 x hx
            · exact w1.1 z hz
        · show ∃ v, ct ≤ v ∧ v < 6 ∧ q_rowm I (nI x) (nI y) 25 z = nI v
          rw [eI z hz6, if_neg (by omega)]
          obtain ⟨v, v1, v2, ev⟩ := w1.2 z hz hz6
          refine ⟨v, v1, v2, ?_⟩
          have ev' : I 25 z = nI v := ev
          unfold rw_v
          rw [ev', if_neg]
          intro u3
          have := (nI_eq (by omega) (by omega)).mp u3
          omega
        · rw [nI' 24 (by decide), zx_uI_ne (by decide), f2 0 (by decide)]
          exact w3
        · rw [nI' (24 + 2) (by decide), zx_uI_ne (by decide), f2 5 (by decide)]
          exact w5 z hz
/-! write -/
theorem byt_all : ∀ b : Fin 256, (b.1 < 128 → (Int8.ofNat b.1).toInt32 = nI b.1) ∧ (128 ≤ b.1 → (Int8.ofNat b.1).toInt32 < 0) := by decide +kernel
theorem byt (x : Int64) : bytr x.toInt32.toInt8.toInt32 ((x &&& 255).toInt32) := by
  have hb : x.toBitVec.toNat % 256 < 256 := Nat.mod_lt _ (by decide)
  have e1 : x.toInt32.toInt8 = Int8.ofNat (x.toBitVec.toNat % 256) := by
    refine Int8.toBitVec_inj.mp (BitVec.eq_of_toNat_eq ?_)
    rw [Int32.toBitVec_toInt8, Int64.toBitVec_toInt32, Int8.toBitVec_ofNat', BitVec.signExtend_eq_setWidth_of_le _ (by decide), BitVec.signExtend_eq_setWidth_of_le _ (by decide), BitVec.toNat_setWidth, BitVec.toNat_setWidth, BitVec.toNat_ofNat]
    omega
  have e2 : (x &&& 255).toInt32 = nI (x.toBitVec.toNat % 256) := by
    refine Int32.toBitVec_inj.mp (BitVec.eq_of_toNat_eq ?_)
    rw [Int64.toBitVec_toInt32, Int64.toBitVec_and, BitVec.signExtend_eq_setWidth_of_le _ (by decide), BitVec.toNat_setWidth, BitVec.toNat_and, pk_tn (by omega)]
    show (x.toBitVec.toNat &&& (2 ^ 8 - 1)) % 2 ^ 32 = _
    rw [Nat.and_two_pow_sub_one_eq_mod]
    omega
  rw [e1, e2]
  obtain ⟨h1, h2⟩ := byt_all ⟨x.toBitVec.toNat % 256, hb⟩
  by_cases c : x.toBitVec.toNat % 256 < 128
  · exact Or.inl ⟨_, c, h1 c, rfl⟩
  · exact Or.inr ⟨h2 (by show 128 ≤ x.toBitVec.toNat % 256; omega), _, by omega, hb, rfl⟩
theorem mw2_loop {n9 n l : Nat} {v : Int64} {K : zx_I → Option (Int32 × zx_I)} (hn8 : n ≤ 8) (hl : l + n ≤ 400) : ∀ (k i e : Nat) (Jc Jm : zx_I), i + k = n → k < e → Jc 0 1 = nI (l + i) → Jm 0 0 = nI l → (∀ y, y < l + i → bytr (Jc 1 y) (Jm 1 y)) → ∃ J', mf_write_30 n9 (nI n) v K e (nI i) Jm = K J' ∧ (∀ b, b ≠ 1 → J' b = Jm b) ∧ (∀ y, y < l + n → bytr (wr_loop v k Jc 1 y) (J' 1 y)) ∧ wr_loop v k Jc 0 1 = nI (l + n) ∧ (∀ b, b ≠ 0 → b ≠ 1 → wr_loop v k Jc b = Jc b) ∧ ∀ y, y ≠ 1 → wr_loop v k Jc 0 y = Jc 0 y := by
  intro k
  induction k with
  | zero =>
    intro i e Jc Jm hi he h1 h0 hb
    obtain ⟨e, rfl⟩ : ∃ e9, e = e9 + 1 := ⟨e - 1, by omega⟩
    have : i = n := by omega
    subst this
    refine ⟨Jm, ?_, fun _ _ => rfl, hb, h1, fun _ _ _ => rfl, fun _ _ => rfl⟩
    show mf_write_30_b _ _ _ _ _ _ _ = _
    unfold mf_write_30_b
    rw [if_pos (nI_le (Nat.le_refl _) (by omega))]
  | succ k ih =>
    intro i e Jc Jm hi he h1 h0 hb
    obtain ⟨e, rfl⟩ : ∃ e9, e = e9 + 1 := ⟨e - 1, by omega⟩
    have es : 8 * ((nI n - 1) - nI i) = 8 * nI k := by
      rw [show (1 : Int32) = nI 1 from rfl, pk_sub (by omega), pk_sub (by omega), show n - 1 - i = k by omega]
    have eb : vp_nar .byte (v >>> ((8 * nI k).toInt64 &&& 63)).toInt32.toInt8.toInt32 = (v >>> ((8 * nI k).toInt64 &&& 63)).toInt32.toInt8.toInt32 := pk_vb _
    rw [wr_loop, h1, nI_clamp (by omega), eb, nI_1]
    obtain ⟨J', f1, f2, f3, f4, f5, f6⟩ := ih (i + 1) e (zx_uI (zx_uI Jc 1 (l + i) (v >>> ((8 * nI k).toInt64 &&& 63)).toInt32.toInt8.toInt32) 0 1 (nI (l + i + 1))) (zx_uI Jm 1 (l + i) (((v >>> ((8 * nI k).toInt64 &&& 63)) &&& 255).toInt32)) (by omega) (by omega) (by simp [zx_uI]; rfl) (by rw [zx_uI_ne (by decide)]; exact h0) (fun y hy => by
      rw [zx_uI_ne (by decide)]
      by_cases u : y = l + i
      · subst u
        simp only [zx_uI, if_pos]
        exact byt _
      · have := hb y (by omega)
        simp only [zx_uI, if_pos]
        rw [if_neg u, if_neg u]
        exact this)
    refine ⟨J', ?_, fun b hb => (f2 b hb).trans (zx_uI_ne hb), f3, f4, fun b z0 z1 => by rw [f5 b z0 z1, zx_uI_ne z0, zx_uI_ne z1], fun y hy => ?_⟩
    · refine Eq.trans ?_ f1
      show mf_write_30_b _ _ _ _ _ _ _ = _
      unfold mf_write_30_b
      rw [if_neg (nI_ge (by omega) (by omega)), h0, nI_add, mo_g1 (mo_inN (by omega) (by decide)), nI_clamp (by omega), es, ← nI_succ]
    · rw [f6 y hy]
      simp [zx_uI, hy]
theorem WRx_t {h sp : Nat} {I I' : zx_I} {L : zx_L} {J J' : zx_I} {M : zx_L} {m p c f ct : Nat} (q : WRx h sp I L J M m p c f ct) (h1 : ∀ b, b ≠ 0 → b ≠ 1 → I' b = I b) (h1' : ∀ y, y ≠ 1 → I' 0 y = I 0 y) (h3 : ∀ b, b ≠ 0 → b ≠ 1 → J' b = J b) (h3' : ∀ y, y ≠ 0 → J' 0 y = J 0 y) (w : w_text I' J') : WRx h sp I' L J' M m p c f ct := by
  obtain ⟨a1, ⟨a2, a2'⟩, ⟨b1, b2, b3⟩, a3, a4, -, a5, kk, k1, k2, k3, k4⟩ := q
  have hb : ∀ i, i < 6 → I' (h + 4 + i) = I (h + 4 + i) := fun i hi => h1 _ (by omega) (by omega)
  have hs : hsame I I' h := ⟨h1 _ (by unfold hsp at a1; omega) (by unfold hsp at a1; omega), h1 _ (by omega) (by unfold hsp at a1; omega), h1 _ (by omega) (by omega), fun i hi k _ => by rw [hb i hi]⟩
  refine ⟨a1, ⟨hvt_cg hs.1 a2, hvr_cg hs a2'⟩, ⟨by rw [hs.1]; exact b1, b2, fun i hi => hvb_cg (fun k hk => hs.2.2.2 i (by omega) k hk) (b3 i hi)⟩, fun k hk => by rw [h3 3 (by decide) (by decide), ho_cg hs b2 hk]; exact a3 k hk, fun i hi => by rw [h1 (sp + 4 + i) (by omega) (by omega), hs.2.1]; exact a4 i hi, w, ?_, kk, k1, by rw [h1' 7 (by decide)]; exact k2, by rw [h3' 11 (by decide)]; exact k3, fun x hx => ?_⟩
  · exact wsh_cg a5 (h1 _ (by decide) (by decide)) (h1 _ (by decide) (by decide)) (h1 _ (by decide) (by decide)) rfl (fun k _ => by rw [h3 4 (by decide) (by decide)]) (h3' 8 (by decide)) rfl (fun k _ => by rw [h3 5 (by decide) (by decide)])
  · exact wsh_cg (k4 x hx) (h1 _ (by omega) (by omega)) (h1 _ (by omega) (by omega)) (h1 _ (by omega) (by omega)) rfl (fun k _ => by rw [h3 6 (by decide) (by decide)]) (by rw [h3 7 (by decide) (by decide)]) rfl (fun k _ => by rw [h3 9 (by decide) (by decide)])
theorem cr_write {h sp : Nat} {la : Option Nat} {I : zx_I} {L : zx_L} {J : zx_I} {M : zx_L} (n : Int32) (v : Int64) (hW : WR h sp I L J M) : CR mm_X9_write mm_X10_write [.int n, .long v] h sp la I L J M := by
  have hW0 := hW
  obtain ⟨m, p, c, f, ct, q⟩ := hW
  obtain ⟨l, l1, l2, l3, l4⟩ := q.2.2.2.2.2.1
  rcases in_cs (x := n) (a := 1) (b := 8) with ⟨z, z1⟩ | ⟨z, z1, z2⟩
  · refine cr_ret (J' := J) (ct_X9_write_bad (d := 8) (fun w => ?_)) (mt_write (d := 7) (n := 200) (p := (-1, J)) ?_) hW0
    · rcases z1 with z1 | z1
      · exact w.1 z1
      · exact nlt_le.mpr w.2 z1
    · unfold mf_write
      rw [if_pos z]
  · have n0 : ¬ n < 0 := fun w => z1 (by rw [Int32.lt_iff_toInt_lt] at w ⊢; have e0 : (0 : Int32).toInt = 0 := rfl; have e1 : (1 : Int32).toInt = 1 := rfl; omega)
    obtain ⟨k, hk, rfl⟩ := in_le (k := 8) rfl n0 z2
    by_cases c1 : l + k ≤ 400
    · have fit : I 0 1 + nI k ≤ 400 := by
        rw [l2, nI_add]
        exact nI_le (b := 400) c1 (by decide)
      obtain ⟨J', f1, f2, f3, f4, f5, f6⟩ := mw2_loop (n9 := 200) (n := k) (l := l) (v := v) (K := fun J_30 => some (((J_30 0 0) + nI k), (zx_uI J_30 0 0 ((J_30 0 0) + nI k)))) hk c1 k 0 200 I J (by omega) (by omega) l2 l3 (fun y hy => l4 y (by omega))
      refine cr_ret (J' := zx_uI J' 0 0 (nI (l + k))) (ct_X9_write (d := 8) z1 (nlt_le.mp z2) fit rfl l2 c1) (mt_write (d := 7) (n := 200) (p := (nI (l + k), zx_uI J' 0 0 (nI (l + k)))) ?_) ⟨m, p, c, f, ct, WRx_t q f5 f6 (fun b z0 z1 => by rw [zx_uI_ne z0, f2 b z1]) (fun y hy => ?_) ⟨l + k, c1, f4, by simp [zx_uI], fun y hy => by rw [zx_uI_ne (by decide)]; exact f3 y hy⟩⟩
      · unfold mf_write
        rw [if_neg (by rw [z]; decide), l3, nI_add, if_pos (show nI (l + k) ≤ (400 : Int32) from nI_le (b := 400) c1 (by decide))]
        refine f1.trans ?_
        rw [f2 0 (by decide), l3, nI_add]
      · simp only [zx_uI, if_pos]
        rw [if_neg hy, f2 0 (by decide)]
    · have fit : ¬ I 0 1 + nI k ≤ 400 := by
        rw [l2, nI_add]
        exact nI_ge (b := l + k) (a := 400) (by omega) (by omega)
      refine cr_ret (J' := J) (ct_X9_write_full (d := 8) z1 (nlt_le.mp z2) fit) (mt_write (d := 7) (n := 200) (p := (-3, J)) ?_) hW0
      unfold mf_write
      rw [if_neg (by rw [z]; decide), l3, nI_add, if_neg (show ¬ nI (l + k) ≤ (400 : Int32) from nI_ge (b := l + k) (a := 400) (by omega) (by omega))]
