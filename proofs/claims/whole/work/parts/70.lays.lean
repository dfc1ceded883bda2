/-! the text read: both calls -/
theorem fhc {I : zx_I} {a : Nat} (ha : a = 4 ∨ a = 14) : (∀ b, b ≠ a → b ≠ a + 1 → b ≠ a + 2 → fh_clear I a b = I b) ∧ (∀ k, k < 4 → fh_clear I a (a + 1) k = 0 ∧ fh_clear I a (a + 2) k = 1) ∧ (fh_clear I a a 0 = 0 ∧ fh_clear I a a 1 = nI 1 ∧ fh_clear I a a 2 = nI 10 ∧ fh_clear I a a 3 = nI 10 ∧ fh_clear I a a 4 = nI 10 ∧ fh_clear I a a 5 = nI 0) ∧ (fh_clear I a a 8 = nI 0 ∧ fh_clear I a a 9 = nI 0 ∧ fh_clear I a a 10 = nI 1 ∧ fh_clear I a a 11 = nI 1 ∧ fh_clear I a a 12 = nI 40 ∧ fh_clear I a a 13 = nI 0) := by
  refine ⟨fun b h0 h1 h2 => ?_, fun k hk => ?_, ?_, ?_⟩
  · unfold fh_clear zmap2
    rw [zx_uI_ne h0, zx_uI_ne h0, zx_uI_ne h0, zx_uI_ne h0, zx_uI_ne h0, zx_uI_ne h0, zmap_ne h2, zmap_ne h1, zx_uI_ne h0, zx_uI_ne h0, zx_uI_ne h0, zx_uI_ne h0, zx_uI_ne h0, zx_uI_ne h0]
  · rcases (show k = 0 ∨ k = 1 ∨ k = 2 ∨ k = 3 by omega) with rfl | rfl | rfl | rfl <;> rcases ha with rfl | rfl <;> exact ⟨rfl, rfl⟩
  · rcases ha with rfl | rfl <;> exact ⟨rfl, rfl, rfl, rfl, rfl, rfl⟩
  · rcases ha with rfl | rfl <;> exact ⟨rfl, rfl, rfl, rfl, rfl, rfl⟩
theorem fh_loop {n : Nat} {K : zx_I → Option zx_I} : ∀ (k e j : Nat) (J : zx_I), j + k = 65 → k < e → ∃ J', mf_firstHouse_2 n K e (nI j) J = K J' ∧ (∀ b, b ≠ 2 → J' b = J b) ∧ (∀ z, j ≤ z → z < 65 → J' 2 z = 0) ∧ ∀ z, z < j → J' 2 z = J 2 z := by
  intro k
  induction k with
  | zero =>
    intro e j J hj he
    obtain ⟨e, rfl⟩ : ∃ e9, e = e9 + 1 := ⟨e - 1, by omega⟩
    have hj : j = 65 := by omega
    subst hj
    refine ⟨J, ?_, fun _ _ => rfl, fun z z1 z2 => by omega, fun _ _ => rfl⟩
    show mf_firstHouse_2_b _ _ _ _ _ = _
    unfold mf_firstHouse_2_b
    rw [if_pos (by decide)]
  | succ k ih =>
    intro e j J hj he
    obtain ⟨e, rfl⟩ : ∃ e9, e = e9 + 1 := ⟨e - 1, by omega⟩
    obtain ⟨J', r1, r2, r3, r4⟩ := ih e (j + 1) (zx_uI J 2 j 0) (by omega) (by omega)
    refine ⟨J', ?_, fun b hb => by rw [r2 b hb, zx_uI_ne hb], fun z z1 z2 => ?_, fun z hz => ?_⟩
    · rw [← r1]
      show mf_firstHouse_2_b _ _ _ _ _ = _
      unfold mf_firstHouse_2_b
      rw [if_neg (show ¬ (65 : Int32) ≤ nI j from nI_ge (b := 65) (by omega) (by decide)), mo_g1 (mo_inN (by omega) (by decide)), nI_clamp (by omega), nI_1]
    · by_cases u : z = j
      · rw [r4 z (by omega), u]
        simp [zx_uI]
      · exact r3 z (by omega) z2
    · rw [r4 z (by omega)]
      simp only [zx_uI, if_pos]
      rw [if_neg (by omega)]
theorem ly_loop {n : Nat} {L : zx_L} {K : zx_I → Option (zx_I × zx_L)} : ∀ (k e j : Nat) (J : zx_I), j + k = 65 → k < e → ∃ J', mf_layDown_2 n L K e (nI j) J = K J' ∧ (∀ b, b ≠ 3 → J' b = J b) ∧ (∀ z, j ≤ z → z < 65 → J' 3 z = J 2 z) ∧ ∀ z, z < j → J' 3 z = J 3 z := by
  intro k
  induction k with
  | zero =>
    intro e j J hj he
    obtain ⟨e, rfl⟩ : ∃ e9, e = e9 + 1 := ⟨e - 1, by omega⟩
    have hj : j = 65 := by omega
    subst hj
    refine ⟨J, ?_, fun _ _ => rfl, fun z z1 z2 => by omega, fun _ _ => rfl⟩
    show mf_layDown_2_b _ _ _ _ _ _ = _
    unfold mf_layDown_2_b
    rw [if_pos (by decide)]
  | succ k ih =>
    intro e j J hj he
    obtain ⟨e, rfl⟩ : ∃ e9, e = e9 + 1 := ⟨e - 1, by omega⟩
    obtain ⟨J', r1, r2, r3, r4⟩ := ih e (j + 1) (zx_uI J 3 j (J 2 j)) (by omega) (by omega)
    refine ⟨J', ?_, fun b hb => by rw [r2 b hb, zx_uI_ne hb], fun z z1 z2 => ?_, fun z hz => ?_⟩
    · rw [← r1]
      show mf_layDown_2_b _ _ _ _ _ _ = _
      unfold mf_layDown_2_b
      rw [if_neg (show ¬ (65 : Int32) ≤ nI j from nI_ge (b := 65) (by omega) (by decide)), mo_g1 (mo_inN (by omega) (by decide)), mo_g1 (mo_inN (by omega) (by decide)), nI_clamp (by omega), nI_1]
    · by_cases u : z = j
      · rw [r4 z (by omega), u]
        simp [zx_uI]
      · rw [r3 z (by omega) z2, zx_uI_ne (by decide)]
    · rw [r4 z (by omega)]
      simp only [zx_uI, if_pos]
      rw [if_neg (by omega)]
theorem ly2_loop {n : Nat} {L : zx_L} {K : zx_I → Option (zx_I × zx_L)} : ∀ (k e j : Nat) (J : zx_I), j + k = 6 → k < e → ∃ J', mf_layDown_28 n L K e (nI j) J = K J' ∧ (∀ b, b ≠ 4 → b ≠ 5 → J' b = J b) ∧ (∀ z, j ≤ z → z < 6 → J' 4 z = nI z ∧ J' 5 z = fw_ten z) ∧ ∀ z, z < j → J' 4 z = J 4 z ∧ J' 5 z = J 5 z := by
  intro k
  induction k with
  | zero =>
    intro e j J hj he
    obtain ⟨e, rfl⟩ : ∃ e9, e = e9 + 1 := ⟨e - 1, by omega⟩
    have hj : j = 6 := by omega
    subst hj
    refine ⟨J, ?_, fun _ _ _ => rfl, fun z z1 z2 => by omega, fun _ _ => ⟨rfl, rfl⟩⟩
    show mf_layDown_28_b _ _ _ _ _ _ = _
    unfold mf_layDown_28_b
    rw [if_pos (by decide)]
  | succ k ih =>
    intro e j J hj he
    obtain ⟨e, rfl⟩ : ∃ e9, e = e9 + 1 := ⟨e - 1, by omega⟩
    obtain ⟨J', r1, r2, r3, r4⟩ := ih e (j + 1) (zx_uI (zx_uI J 4 j (nI j)) 5 j (fw_ten j)) (by omega) (by omega)
    have ev : (if nI j = 0 then some (10 : Int32) else some 0) = some (fw_ten j) := by
      unfold fw_ten
      by_cases u : j = 0
      · rw [if_pos u, if_pos (by rw [u]; rfl)]
      · rw [if_neg u, if_neg (show ¬ nI j = (0 : Int32) from fun w => u ((nI_eq (b := 0) (by omega) (by decide)).mp w))]
    refine ⟨J', ?_, fun b h4 h5 => by rw [r2 b h4 h5, zx_uI_ne h5, zx_uI_ne h4], fun z z1 z2 => ?_, fun z hz => ?_⟩
    · rw [← r1]
      show mf_layDown_28_b _ _ _ _ _ _ = _
      unfold mf_layDown_28_b
      rw [if_neg (show ¬ (6 : Int32) ≤ nI j from nI_ge (b := 6) (by omega) (by decide)), mo_g1 (mo_inN (by omega) (by decide)), ev, Option.bind_some, mo_g1 (mo_inN (by omega) (by decide)), nI_clamp (by omega), nI_1]
    · by_cases u : z = j
      · obtain ⟨w1, w2⟩ := r4 z (by omega)
        rw [w1, w2, u]
        exact ⟨by simp [zx_uI], by simp [zx_uI]⟩
      · exact r3 z (by omega) z2
    · obtain ⟨w1, w2⟩ := r4 z (by omega)
      rw [w1, w2]
      have u : z ≠ j := by omega
      exact ⟨by simp [zx_uI, u], by simp [zx_uI, u]⟩
theorem cT_cW {h sp : Nat} {I K : zx_I} (hh : hsp h sp) (q : cT sp I K) : cW h sp I K := by
  refine ⟨fun b y2 y3 y4 y5 y6 y7 y8 => q.1 b y2 y3 y4 y5 y6 (by unfold hsp at hh; unfold bt at y8; omega), fun b hb => ?_, fun i hi k _ => ?_⟩
  · by_cases u : sp + 4 ≤ b ∧ b < sp + 10
    · obtain ⟨i, rfl⟩ : ∃ i, b = sp + 4 + i := ⟨b - (sp + 4), by omega⟩
      exact q.2 i (by omega)
    · rw [q.1 b (by unfold bt at hb; omega) (by unfold bt at hb; omega) (by unfold hsp at hh; unfold bt at hb; omega) (by unfold hsp at hh; unfold bt at hb; omega) (by unfold hsp at hh; unfold bt at hb; omega) (by omega)]
  · rw [q.1 (h + 4 + i) (by omega) (by omega) (by unfold hsp at hh; omega) (by unfold hsp at hh; omega) (by unfold hsp at hh; omega) (by unfold hsp at hh; omega)]
theorem fr3_mW {J K : zx_I} (q : fr3 J K) : mW J K := ⟨fun b hb => q.1 b (by omega) (by omega), q.2 0 (by decide) (by decide) (by decide), q.2 8 (by decide) (by decide) (by decide), q.2 11 (by decide) (by decide) (by decide)⟩
