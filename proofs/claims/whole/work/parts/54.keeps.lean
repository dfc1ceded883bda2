/-! keep, back, drawn, bath in both -/
theorem fw_at {I : zx_I} {a b : Nat} (hab : b + 2 < a ∨ a + 2 < b) : (∀ k, k < 6 → fw_like I a b (a + 1) k = I (b + 1) k) ∧ fw_like I a b a 1 = I b 1 ∧ (∀ k, k < 6 → fw_like I a b (a + 2) k = I (b + 2) k) ∧ ∀ x, x ≠ a → x ≠ a + 1 → x ≠ a + 2 → fw_like I a b x = I x := by
  have e2 : ∀ x, x ≠ a + 2 → fw_like I a b x = zx_uI (zcp I (b + 1) (a + 1) 6) a 1 (I b 1) x := fun x hx => by
    unfold fw_like
    show zcp (zx_uI (zcp I (b + 1) (a + 1) 6) a 1 (I b 1)) (b + 2) (a + 2) 6 x = _
    generalize zx_uI (zcp I (b + 1) (a + 1) 6) a 1 (I b 1) = G
    unfold zcp zr
    rw [if_neg hx]
  have e1 : ∀ x, x ≠ a + 1 → zcp I (b + 1) (a + 1) 6 x = I x := fun x hx => by
    unfold zcp zr
    rw [if_neg hx]
  refine ⟨fun k hk => ?_, ?_, fun k hk => ?_, fun x h0 h1 h2 => ?_⟩
  · rw [e2 _ (by omega), zx_uI_ne (by omega)]
    unfold zcp zr
    rw [if_pos rfl, pk_cpy_in (by omega) (by omega)]
    show I (b + 1) (0 + (k - 0)) = _
    rw [Nat.zero_add, Nat.sub_zero]
  · rw [e2 _ (by omega)]
    simp [zx_uI]
  · have e3 : fw_like I a b (a + 2) k = va_cpy (zx_uI (zcp I (b + 1) (a + 1) 6) a 1 (I b 1) (b + 2)) (zx_uI (zcp I (b + 1) (a + 1) 6) a 1 (I b 1) (a + 2)) 0 0 6 k := by
      unfold fw_like
      generalize zx_uI (zcp I (b + 1) (a + 1) 6) a 1 (I b 1) = G
      unfold zcp zr
      rw [if_pos rfl]
    rw [e3, pk_cpy_in (by omega) (by omega), zx_uI_ne (by omega), e1 _ (by omega)]
    show I (b + 2) (0 + (k - 0)) = _
    rw [Nat.zero_add, Nat.sub_zero]
  · rw [e2 x h2, zx_uI_ne h0, e1 x h1]
theorem WRx_k {h sp : Nat} {I I' : zx_I} {L L' : zx_L} {J J' : zx_I} {M M' : zx_L} {m p c f ct : Nat} (q : WRx h sp I L J M m p c f ct) (h1 : ∀ b, b ≠ 0 → (b < 24 ∨ 33 < b) → I' b = I b) (h1' : ∀ y, y ≠ 7 → I' 0 y = I 0 y) (h3 : ∀ b, b = 1 ∨ b = 3 → J' b = J b) (h3' : J' 0 0 = J 0 0) (w : wsh I' L' 24 ct (J' 4) (J' 0 8) (M' 0 9) (J' 5)) (kw : ∃ kk, kk ≤ 2 ∧ I' 0 7 = nI kk ∧ J' 0 11 = nI kk ∧ ∀ q, q < kk → wsh I' L' (28 + 3 * q) ct (fun k => J' 6 (6 * q + k)) (J' 7 q) (M' 8 q) (fun k => J' 9 (6 * q + k))) : WRx h sp I' L' J' M' m p c f ct := by
  obtain ⟨a1, ⟨a2, a2'⟩, ⟨b1, b2, b3⟩, a3, a4, ⟨l, l1, l2, l3, l4⟩, a5, a6⟩ := q
  have hb : ∀ i, i < 6 → I' (h + 4 + i) = I (h + 4 + i) := fun i hi => h1 _ (by omega) (by unfold hsp at a1; omega)
  have hs : hsame I I' h := ⟨h1 _ (by unfold hsp at a1; omega) (by unfold hsp at a1; omega), h1 _ (by omega) (by unfold hsp at a1; omega), h1 _ (by omega) (by unfold hsp at a1; omega), fun i hi k _ => by rw [hb i hi]⟩
  exact ⟨a1, ⟨hvt_cg hs.1 a2, hvr_cg hs a2'⟩, ⟨by rw [hs.1]; exact b1, b2, fun i hi => hvb_cg (fun k hk => hs.2.2.2 i (by omega) k hk) (b3 i hi)⟩, fun k hk => by rw [h3 3 (by omega), ho_cg hs b2 hk]; exact a3 k hk, fun i hi => by rw [h1 (sp + 4 + i) (by omega) (by unfold hsp at a1; omega), hs.2.1]; exact a4 i hi, ⟨l, l1, by rw [h1' 1 (by decide)]; exact l2, by rw [h3']; exact l3, fun k hk => by rw [h1 1 (by decide) (by decide), h3 1 (by omega)]; exact l4 k hk⟩, w, kw⟩
theorem mk_loop {n kk : Nat} {L : zx_L} {K : zx_I → Option (Int32 × zx_I × zx_L)} (hk : kk < 2) : ∀ (d j e : Nat) (J : zx_I), j + d = 6 → d < e → J 0 11 = nI kk → ∃ J', mf_keep_13 n L K e (nI j) J = K J' ∧ (∀ b, b ≠ 6 → b ≠ 9 → J' b = J b) ∧ (∀ y, J' 6 y = if 6 * kk + j ≤ y ∧ y < 6 * kk + j + d then J 4 (y - 6 * kk) else J 6 y) ∧ ∀ y, J' 9 y = if 6 * kk + j ≤ y ∧ y < 6 * kk + j + d then J 5 (y - 6 * kk) else J 9 y := by
  intro d
  induction d with
  | zero =>
    intro j e J hj he h11
    obtain ⟨e, rfl⟩ : ∃ e9, e = e9 + 1 := ⟨e - 1, by omega⟩
    refine ⟨J, ?_, fun _ _ _ => rfl, fun y => by rw [if_neg (by omega)], fun y => by rw [if_neg (by omega)]⟩
    show mf_keep_13_b _ _ _ _ _ _ = _
    unfold mf_keep_13_b
    rw [if_pos (show (6 : Int32) ≤ nI j from nI_le (a := 6) (by omega) (by omega))]
  | succ d ih =>
    intro j e J hj he h11
    obtain ⟨e, rfl⟩ : ∃ e9, e = e9 + 1 := ⟨e - 1, by omega⟩
    obtain ⟨J', f1, f2, f3, f4⟩ := ih (j + 1) e (zx_uI (zx_uI J 6 (6 * kk + j) (J 4 j)) 9 (6 * kk + j) (J 5 j)) (by omega) (by omega) (by rw [zx_uI_ne (by decide), zx_uI_ne (by decide)]; exact h11)
    refine ⟨J', ?_, fun b z1 z2 => by rw [f2 b z1 z2, zx_uI_ne z2, zx_uI_ne z1], fun y => ?_, fun y => ?_⟩
    · refine Eq.trans ?_ f1
      show mf_keep_13_b _ _ _ _ _ _ = _
      unfold mf_keep_13_b
      rw [if_neg (show ¬ (6 : Int32) ≤ nI j from nI_ge (b := 6) (by omega) (by decide)), h11, show (6 : Int32) = nI 6 from rfl, pk_mul, nI_add, mo_g1 (mo_inN (by omega) (by decide)), mo_g1 (mo_inN (by omega) (by decide)), mo_g1 (mo_inN (by omega) (by decide)), mo_g1 (mo_inN (by omega) (by decide)), nI_clamp (by omega), nI_clamp (by omega), ← nI_succ]
    · rw [f3 y, zx_uI_ne (by decide), zx_uI_ne (by decide), zx_uI_ne (by decide)]
      by_cases u : y = 6 * kk + j
      · rw [if_neg (by omega), if_pos (by omega), u]
        simp [zx_uI]
      · by_cases u2 : 6 * kk + (j + 1) ≤ y ∧ y < 6 * kk + (j + 1) + d
        · rw [if_pos u2, if_pos (by omega)]
        · rw [if_neg u2, if_neg (by omega)]
          simp [zx_uI, u]
    · rw [f4 y, zx_uI_ne (by decide), zx_uI_ne (by decide)]
      by_cases u : y = 6 * kk + j
      · rw [if_neg (by omega), if_pos (by omega), u]
        simp [zx_uI]
      · by_cases u2 : 6 * kk + (j + 1) ≤ y ∧ y < 6 * kk + (j + 1) + d
        · rw [if_pos u2, if_pos (by omega)]
        · rw [if_neg u2, if_neg (by omega)]
          simp [zx_uI, u]
theorem cr_keep_k {h sp kk : Nat} {la : Option Nat} {I : zx_I} {L : zx_L} {J : zx_I} {M : zx_L} {m p c f ct : Nat} (q : WRx h sp I L J M m p c f ct) (hk : kk < 2) (h7 : I 0 7 = nI kk) (hc : zx_M0 mm_X9_keep 8 0 0 [.ref 0] zw_SC I L (zw_RC h sp la) (zw_ret (some (.int (nI (kk + 1)))) zw_SC (zx_uI (fw_like I (28 + 3 * kk) 24) 0 7 (nI (kk + 1))) (zx_uL L (28 + 3 * kk) 2 (L 24 2)) (zw_RC h sp la))) : CR mm_X9_keep mm_X10_keep [] h sp la I L J M := by
  have a5 := q.2.2.2.2.2.2.1
  obtain ⟨kk', k1, k2, k3, k4⟩ := q.2.2.2.2.2.2.2
  have : kk' = kk := (nI_eq (by omega) (by omega)).mp (k2.symm.trans h7)
  subst this
  obtain ⟨J', f1, f2, f3, f4⟩ := mk_loop (n := 200) (L := M) (K := fun J_13 => (mo_g (mo_in (J_13 0 11) 2) (mo_g (mo_in (J_13 0 11) 2) (some (((J_13 0 11) + 1), (zx_uI (zx_uI J_13 7 ((J_13 0 11).toNatClampNeg) (J_13 0 8)) 0 11 ((J_13 0 11) + 1)), (zx_uL M 8 ((J_13 0 11).toNatClampNeg) (M 0 9))))))) hk 6 0 200 J rfl (by omega) k3
  obtain ⟨g1, g2, g3, g4⟩ := fw_at (I := I) (a := 28 + 3 * kk') (b := 24) (by omega)
  have n0 : ∀ b, b ≠ 0 → b ≠ 28 + 3 * kk' → b ≠ 28 + 3 * kk' + 1 → b ≠ 28 + 3 * kk' + 2 → zx_uI (fw_like I (28 + 3 * kk') 24) 0 7 (nI (kk' + 1)) b = I b := fun b z0 z1 z2 z3 => by rw [zx_uI_ne z0, g4 b z1 z2 z3]
  have j0 : ∀ b, b ≠ 0 → b ≠ 6 → b ≠ 7 → b ≠ 9 → zx_uI (zx_uI J' 7 kk' (J 0 8)) 0 11 (nI (kk' + 1)) b = J b := fun b z0 z6 z7 z9 => by rw [zx_uI_ne z0, zx_uI_ne z7, f2 b z6 z9]
  have j00 : ∀ y, y ≠ 11 → zx_uI (zx_uI J' 7 kk' (J 0 8)) 0 11 (nI (kk' + 1)) 0 y = J 0 y := fun y hy => by
    simp only [zx_uI, if_pos]
    rw [if_neg hy, if_neg (by decide), f2 0 (by decide) (by decide)]
  refine cr_ret (J' := zx_uI (zx_uI J' 7 kk' (J 0 8)) 0 11 (nI (kk' + 1))) (M' := zx_uL M 8 kk' (M 0 9)) hc (mt_keep (d := 8) (n := 200) (p := (nI (kk' + 1), zx_uI (zx_uI J' 7 kk' (J 0 8)) 0 11 (nI (kk' + 1)), zx_uL M 8 kk' (M 0 9))) ?_) ⟨m, p, c, f, ct, WRx_k q (fun b z0 z1 => n0 b z0 (by omega) (by omega) (by omega)) (fun y hy => ?_) (fun b hb => j0 b (by omega) (by omega) (by omega) (by omega)) (j00 0 (by decide)) ?_ ⟨kk' + 1, by omega, by simp [zx_uI], by simp [zx_uI], fun x hx => ?_⟩⟩
  · unfold mf_keep
    rw [if_neg (fun z => by rw [k3] at z; have := (nI_eq (b := 2) (by omega) (by omega)).mp z; omega)]
    refine f1.trans ?_
    rw [f2 0 (by decide) (by decide), k3, mo_g1 (mo_inN (by omega) (by decide)), mo_g1 (mo_inN (by omega) (by decide)), nI_clamp (by omega), nI_1]
  · simp only [zx_uI, if_pos]
    rw [if_neg hy, g4 0 (by omega) (by omega) (by omega)]
  · exact wsh_cg a5 (n0 24 (by decide) (by omega) (by omega) (by omega)) (n0 25 (by decide) (by omega) (by omega) (by omega)) (n0 26 (by decide) (by omega) (by omega) (by omega)) (zx_uL_ne (by omega)) (fun k _ => by rw [j0 4 (by decide) (by decide) (by decide) (by decide)]) (j00 8 (by decide)) (by rw [zx_uL_ne (by decide)]) (fun k _ => by rw [j0 5 (by decide) (by decide) (by decide) (by decide)])
  · have e6 : ∀ y, zx_uI (zx_uI J' 7 kk' (J 0 8)) 0 11 (nI (kk' + 1)) 6 y = J' 6 y := fun y => by rw [zx_uI_ne (by decide), zx_uI_ne (by decide)]
    have e9 : ∀ y, zx_uI (zx_uI J' 7 kk' (J 0 8)) 0 11 (nI (kk' + 1)) 9 y = J' 9 y := fun y => by rw [zx_uI_ne (by decide), zx_uI_ne (by decide)]
    by_cases u : x = kk'
    · subst u
      obtain ⟨w1, w2, ⟨w3, w3'⟩, w4, w5⟩ := a5
      refine ⟨?_, fun k hk6 => ?_, ⟨?_, ?_⟩, ⟨?_, ?_⟩, fun k hk6 => ?_⟩
      · refine rowok_cg q.2.2.1.2.1 w1 (fun k hk6 => ?_)
        rw [zx_uI_ne (by omega)]
        exact g1 k hk6
      · show zx_uI (zx_uI J' 7 x (J 0 8)) 0 11 (nI (x + 1)) 6 (6 * x + k) = _
        rw [e6, f3, if_pos (by omega), show 6 * x + k - 6 * x = k by omega, w2 k hk6, zx_uI_ne (by omega), g1 k hk6]
      · show zx_uI (zx_uI J' 7 x (J 0 8)) 0 11 (nI (x + 1)) 7 x = _
        rw [zx_uI_ne (by decide), zx_uI_ne (show 28 + 3 * x ≠ 0 by omega), g2, w3]
        simp [zx_uI]
      · rw [zx_uI_ne (show 28 + 3 * x ≠ 0 by omega), g2]
        exact w3'
      · show zx_uL M 8 x (M 0 9) 8 x = _
        rw [w4.1]
        simp [zx_uL]
      · obtain ⟨-, P, hP, eP⟩ := w4
        exact ⟨P, hP, by simp [zx_uL, eP]⟩
      · show zx_uI (zx_uI J' 7 x (J 0 8)) 0 11 (nI (x + 1)) 9 (6 * x + k) = _ ∧ _
        rw [e9, f4, if_pos (by omega), show 6 * x + k - 6 * x = k by omega, zx_uI_ne (show 28 + 3 * x + 2 ≠ 0 by omega), g3 k hk6]
        exact w5 k hk6
    · refine wsh_cg (k4 x (by omega)) (n0 _ (by omega) (by omega) (by omega) (by omega)) (n0 _ (by omega) (by omega) (by omega) (by omega)) (n0 _ (by omega) (by omega) (by omega) (by omega)) (zx_uL_ne (by omega)) (fun k hk6 => ?_) ?_ ?_ (fun k hk6 => ?_)
      · show zx_uI (zx_uI J' 7 kk' (J 0 8)) 0 11 (nI (kk' + 1)) 6 (6 * x + k) = J 6 (6 * x + k)
        rw [e6, f3, if_neg (by omega)]
      · rw [zx_uI_ne (by decide)]
        simp only [zx_uI, if_pos]
        rw [if_neg u, f2 7 (by decide) (by decide)]
      · simp only [zx_uL, if_pos]
        rw [if_neg u]
      · show zx_uI (zx_uI J' 7 kk' (J 0 8)) 0 11 (nI (kk' + 1)) 9 (6 * x + k) = J 9 (6 * x + k)
        rw [e9, f4, if_neg (by omega)]
theorem cr_keep {h sp : Nat} {la : Option Nat} {I : zx_I} {L : zx_L} {J : zx_I} {M : zx_L} (hW : WR h sp I L J M) : CR mm_X9_keep mm_X10_keep [] h sp la I L J M := by
  have hW0 := hW
  obtain ⟨m, p, c, f, ct, q⟩ := hW
  obtain ⟨kk, k1, k2, k3, k4⟩ := q.2.2.2.2.2.2.2
  rcases (show kk = 0 ∨ kk = 1 ∨ kk = 2 by omega) with rfl | rfl | rfl
  · exact cr_keep_k q (by decide) k2 (ct_X9_keep_0 (d := 6) k2)
  · exact cr_keep_k q (by decide) k2 (ct_X9_keep_1 (d := 6) k2)
  · refine cr_ret (J' := J) (M' := M) (ct_X9_keep_2 (d := 8) k2) (mt_keep (d := 8) (n := 200) (p := (-3, J, M)) ?_) hW0
    unfold mf_keep
    rw [if_pos (show J 0 11 = 2 from k3)]
theorem mb_loop {n kk : Nat} {L : zx_L} {K : zx_I → Option (Int32 × zx_I × zx_L)} (hk : kk < 2) : ∀ (d j e : Nat) (J : zx_I), j + d = 6 → d < e → J 0 11 = nI kk → ∃ J', mf_back_22 n L K e (nI j) J = K J' ∧ (∀ b, b ≠ 4 → b ≠ 5 → J' b = J b) ∧ (∀ y, J' 4 y = if j ≤ y ∧ y < j + d then J 6 (6 * kk + y) else J 4 y) ∧ ∀ y, J' 5 y = if j ≤ y ∧ y < j + d then J 9 (6 * kk + y) else J 5 y := by
  intro d
  induction d with
  | zero =>
    intro j e J hj he h11
    obtain ⟨e, rfl⟩ : ∃ e9, e = e9 + 1 := ⟨e - 1, by omega⟩
    refine ⟨J, ?_, fun _ _ _ => rfl, fun y => by rw [if_neg (by omega)], fun y => by rw [if_neg (by omega)]⟩
    show mf_back_22_b _ _ _ _ _ _ = _
    unfold mf_back_22_b
    rw [if_pos (show (6 : Int32) ≤ nI j from nI_le (a := 6) (by omega) (by omega))]
  | succ d ih =>
    intro j e J hj he h11
    obtain ⟨e, rfl⟩ : ∃ e9, e = e9 + 1 := ⟨e - 1, by omega⟩
    obtain ⟨J', f1, f2, f3, f4⟩ := ih (j + 1) e (zx_uI (zx_uI J 4 j (J 6 (6 * kk + j))) 5 j (J 9 (6 * kk + j))) (by omega) (by omega) (by rw [zx_uI_ne (by decide), zx_uI_ne (by decide)]; exact h11)
    refine ⟨J', ?_, fun b z1 z2 => by rw [f2 b z1 z2, zx_uI_ne z2, zx_uI_ne z1], fun y => ?_, fun y => ?_⟩
    · refine Eq.trans ?_ f1
      show mf_back_22_b _ _ _ _ _ _ = _
      unfold mf_back_22_b
      rw [if_neg (show ¬ (6 : Int32) ≤ nI j from nI_ge (b := 6) (by omega) (by decide)), h11, show (6 : Int32) = nI 6 from rfl, pk_mul, nI_add, mo_g1 (mo_inN (by omega) (by decide)), mo_g1 (mo_inN (by omega) (by decide)), mo_g1 (mo_inN (by omega) (by decide)), mo_g1 (mo_inN (by omega) (by decide)), nI_clamp (by omega), nI_clamp (by omega), ← nI_succ]
    · rw [f3 y, zx_uI_ne (by decide), zx_uI_ne (by decide)]
      by_cases u : y = j
      · rw [if_neg (by omega), if_pos (by omega), u]
        simp [zx_uI]
      · by_cases u2 : j + 1 ≤ y ∧ y < j + 1 + d
        · rw [if_pos u2, if_pos (by omega)]
        · rw [if_neg u2, if_neg (by omega)]
          simp [zx_uI, u]
    · rw [f4 y, zx_uI_ne (by decide), zx_uI_ne (by decide)]
      by_cases u : y = j
      · rw [if_neg (by omega), if_pos (by omega), u]
        simp [zx_uI]
      · by_cases u2 : j + 1 ≤ y ∧ y < j + 1 + d
        · rw [if_pos u2, if_pos (by omega)]
        · rw [if_neg u2, if_neg (by omega)]
          simp [zx_uI, u]
theorem cr_back_k {h sp kk : Nat} {la : Option Nat} {I : zx_I} {L : zx_L} {J : zx_I} {M : zx_L} {m p c f ct : Nat} (q : WRx h sp I L J M m p c f ct) (hk : kk < 2) (h7 : I 0 7 = nI (kk + 1)) (hc : zx_M0 mm_X9_back 8 0 0 [.ref 0] zw_SC I L (zw_RC h sp la) (zw_ret (some (.int (nI kk))) zw_SC (fw_like (zx_uI I 0 7 (nI kk)) 24 (28 + 3 * kk)) (zx_uL L 24 2 (L (28 + 3 * kk) 2)) (zw_RC h sp la))) : CR mm_X9_back mm_X10_back [] h sp la I L J M := by
  obtain ⟨kk', k1, k2, k3, k4⟩ := q.2.2.2.2.2.2.2
  have : kk' = kk + 1 := (nI_eq (by omega) (by omega)).mp (k2.symm.trans h7)
  subst this
  obtain ⟨J', f1, f2, f3, f4⟩ := mb_loop (n := 200) (L := M) (K := fun J_22 => (mo_g (mo_in (J_22 0 11) 2) (mo_g (mo_in (J_22 0 11) 2) (some ((J_22 0 11), (zx_uI J_22 0 8 (J_22 7 ((J_22 0 11).toNatClampNeg))), (zx_uL M 0 9 (M 8 ((J_22 0 11).toNatClampNeg)))))))) hk 6 0 200 (zx_uI J 0 11 (nI kk)) rfl (by omega) (by simp [zx_uI])
  obtain ⟨g1, g2, g3, g4⟩ := fw_at (I := zx_uI I 0 7 (nI kk)) (a := 24) (b := 28 + 3 * kk) (by omega)
  obtain ⟨w1, w2, ⟨w3, w3'⟩, w4, w5⟩ := k4 kk (by omega)
  have j0 : ∀ b, b ≠ 0 → b ≠ 4 → b ≠ 5 → zx_uI J' 0 8 (J 7 kk) b = J b := fun b z0 z4 z5 => by rw [zx_uI_ne z0, f2 b z4 z5, zx_uI_ne z0]
  have j00 : ∀ y, y ≠ 8 → zx_uI J' 0 8 (J 7 kk) 0 y = zx_uI J 0 11 (nI kk) 0 y := fun y hy => by
    rw [← f2 0 (by decide) (by decide)]
    simp only [zx_uI, if_pos]
    rw [if_neg hy]
  have n0 : ∀ b, b ≠ 0 → b ≠ 24 → b ≠ 25 → b ≠ 26 → fw_like (zx_uI I 0 7 (nI kk)) 24 (28 + 3 * kk) b = I b := fun b z0 z1 z2 z3 => by rw [g4 b z1 z2 z3, zx_uI_ne z0]
  have n00 : fw_like (zx_uI I 0 7 (nI kk)) 24 (28 + 3 * kk) 0 = zx_uI I 0 7 (nI kk) 0 := g4 0 (by decide) (by decide) (by decide)
  refine cr_ret (J' := zx_uI J' 0 8 (J 7 kk)) (M' := zx_uL M 0 9 (M 8 kk)) hc (mt_back (d := 8) (n := 200) (p := (nI kk, zx_uI J' 0 8 (J 7 kk), zx_uL M 0 9 (M 8 kk))) ?_) ⟨m, p, c, f, ct, WRx_k q (fun b z0 z1 => n0 b z0 (by omega) (by omega) (by omega)) (fun y hy => ?_) (fun b hb => j0 b (by omega) (by omega) (by omega)) ?_ ?_ ⟨kk, by omega, ?_, ?_, fun x hx => ?_⟩⟩
  · unfold mf_back
    rw [k3, if_neg (nI_ne0 (by omega) (by omega)), nI_pred]
    refine f1.trans ?_
    rw [f2 0 (by decide) (by decide), f2 7 (by decide) (by decide), show zx_uI J 0 11 (nI kk) 0 11 = nI kk by simp [zx_uI], mo_g1 (mo_inN (by omega) (by decide)), mo_g1 (mo_inN (by omega) (by decide)), nI_clamp (by omega), zx_uI_ne (show (7 : Nat) ≠ 0 by decide)]
  · rw [n00]
    simp only [zx_uI, if_pos]
    rw [if_neg hy]
  · rw [j00 0 (by decide)]
    simp [zx_uI]
  · refine ⟨?_, fun k hk6 => ?_, ⟨?_, ?_⟩, ⟨?_, ?_⟩, fun k hk6 => ?_⟩
    · refine rowok_cg q.2.2.1.2.1 w1 (fun k hk6 => ?_)
      rw [g1 k hk6, zx_uI_ne (by omega)]
    · rw [zx_uI_ne (by decide), f3, if_pos (by omega), zx_uI_ne (by decide), g1 k hk6, zx_uI_ne (by omega)]
      exact w2 k hk6
    · rw [g2, zx_uI_ne (show 28 + 3 * kk ≠ 0 by omega), ← w3]
      simp [zx_uI]
    · rw [g2, zx_uI_ne (show 28 + 3 * kk ≠ 0 by omega)]
      exact w3'
    · simp only [zx_uL, if_pos]
      exact w4.1
    · obtain ⟨-, P, hP, eP⟩ := w4
      exact ⟨P, hP, by simp [zx_uL, eP]⟩
    · rw [zx_uI_ne (by decide), f4, if_pos (by omega), zx_uI_ne (by decide), g3 k hk6, zx_uI_ne (by omega)]
      exact w5 k hk6
  · rw [n00]
    simp [zx_uI]
  · rw [j00 11 (by decide)]
    simp [zx_uI]
  · exact wsh_cg (k4 x (by omega)) (n0 _ (by omega) (by omega) (by omega) (by omega)) (n0 _ (by omega) (by omega) (by omega) (by omega)) (n0 _ (by omega) (by omega) (by omega) (by omega)) (zx_uL_ne (by omega)) (fun k _ => by rw [j0 6 (by decide) (by decide) (by decide)]) (by rw [j0 7 (by decide) (by decide) (by decide)]) (by rw [zx_uL_ne (by decide)]) (fun k _ => by rw [j0 9 (by decide) (by decide) (by decide)])
theorem cr_back {h sp : Nat} {la : Option Nat} {I : zx_I} {L : zx_L} {J : zx_I} {M : zx_L} (hW : WR h sp I L J M) : CR mm_X9_back mm_X10_back [] h sp la I L J M := by
  have hW0 := hW
  obtain ⟨m, p, c, f, ct, q⟩ := hW
  obtain ⟨kk, k1, k2, k3, k4⟩ := q.2.2.2.2.2.2.2
  rcases (show kk = 0 ∨ kk = 1 ∨ kk = 2 by omega) with rfl | rfl | rfl
  · refine cr_ret (J' := J) (M' := M) (ct_X9_back_0 (d := 8) k2) (mt_back (d := 8) (n := 200) (p := (-2, J, M)) ?_) hW0
    unfold mf_back
    rw [if_pos (show J 0 11 = 0 from k3)]
  · exact cr_back_k q (by decide) k2 (ct_X9_back_1 (d := 6) k2)
  · exact cr_back_k q (by decide) k2 (ct_X9_back_2 (d := 6) k2)
