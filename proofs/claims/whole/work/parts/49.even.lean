/-! a whole evening: the class and the model -/
def EA (a m ct : Nat) (I J : zx_I) : Prop := (∀ i, i < 6 → J 13 i = I (a + 4 + i) 10 ∧ J 14 i = I (a + 4 + i) 11 ∧ J 15 i = I (a + 4 + i) 12 ∧ J 16 i = I (a + 4 + i) 13) ∧ (∀ j, j < m → J 10 j = I 38 j) ∧ J 0 26 = I 39 2 ∧ J 0 24 = I 39 0 ∧ (∀ i, i < ct → I (a + 4 + i) 11 = -4 ∨ ∃ d, d ≤ 79 ∧ I (a + 4 + i) 11 = nI d) ∧ (∀ i, i < ct → (I (a + 4 + i) 10 = -4 ↔ I (a + 4 + i) 11 = -4)) ∧ I 37 1 = nI m ∧ I 37 2 = I a 2
theorem nI_ne4' {x : Int32} {d : Nat} (hd : d < 2 ^ 31) (h : x = nI d) : ¬ x = -4 := fun q => nI_ne4 hd (h.symm.trans q)
theorem sb_EA {B a t : Nat} {I J : zx_I} {la : Option Nat} {last rule : Int32} {nx : Nat} {m p c f ct Wn fr : Nat} (h : sb B a t I la J last nx rule m p c f ct Wn fr) : EA a m ct I J := by
  obtain ⟨h1, ⟨e26, s, s3, es, ej, hs⟩, -⟩ := h
  obtain ⟨a1, ⟨b1, b2, b3⟩, a3, a4, a5, a6, a7, ⟨c1, c2, c3⟩, ⟨d1, d2⟩, a10⟩ := h1
  refine ⟨a6, a4, e26, by rw [ej, es], fun i hi => ?_, fun i hi => ?_, a1.2.2.1, ?_⟩
  · obtain ⟨w1, w2, w3⟩ := c3 i (by omega)
    by_cases q : I (a + 4 + i) 10 = -4
    · exact Or.inl (w2 q)
    · obtain ⟨-, d, e, hd⟩ := w3 q
      exact Or.inr ⟨d, by omega, e⟩
  · obtain ⟨w1, w2, w3⟩ := c3 i (by omega)
    refine ⟨w2, fun q => Classical.byContradiction (fun z => ?_)⟩
    obtain ⟨-, d, e, hd⟩ := w3 z
    exact nI_ne4' (show d < 2 ^ 31 by omega) e q
  · rw [a1.2.2.2.1]
    exact a1.1.2.1.symm
theorem go_loop {n a N : Nat} {L : zx_L} {rule : Int32} {m p c f ct : Nat} {K : zx_I → Option (Int32 × zx_I)} (ha : a = 4 ∨ a = 14) (hn : 200 ≤ n) (hN : N ≤ 60) : ∀ (d t e : Nat) (I J : zx_I) (la : Option Nat) (last : Int32) (nx Wn fr : Nat), t + d = N → d < e → J 3 15 = nI N → sb t a t I la J last nx rule m p c f ct Wn fr → ∃ last' nx' J' Wn' fr', mf_goThrough_87 n rule (L 34 3) K e last (nI nx) (nI t) J = K J' ∧ sb N a N (fe_loop L a d t I la).1 (fe_loop L a d t I la).2 J' last' nx' rule m p c f ct Wn' fr' ∧ mkeep J J' := by
  intro d
  induction d with
  | zero =>
    intro t e I J la last nx Wn fr ht he h15 h
    obtain ⟨e, rfl⟩ : ∃ e9, e = e9 + 1 := ⟨e - 1, by omega⟩
    have : t = N := by omega
    subst this
    refine ⟨last, nx, J, Wn, fr, ?_, h, mkeep_rf⟩
    show mf_goThrough_87_b _ _ _ _ _ _ _ _ _ = _
    unfold mf_goThrough_87_b
    rw [h15, if_pos (nI_le (Nat.le_refl _) (by omega))]
  | succ d ih =>
    intro t e I J la last nx Wn fr ht he h15 h
    obtain ⟨e, rfl⟩ : ∃ e9, e = e9 + 1 := ⟨e - 1, by omega⟩
    obtain ⟨last1, nx1, J1, Wn1, fr1, s1, s2, s3⟩ := step_spec (L := L) (K := K) (Z := mf_goThrough_87 n rule (L 34 3) K e) ha hn (show t < 60 by omega) (by rw [h15]; exact nI_ge (by omega) (by omega)) h
    obtain ⟨last2, nx2, J2, Wn2, fr2, r1, r2, r3⟩ := ih (t + 1) e _ J1 _ last1 nx1 Wn1 fr1 (by omega) (by omega) (by rw [s3.1 3 (by decide) (by decide) (by decide) (by decide) (by decide) (by decide) (by decide)]; exact h15) s2
    refine ⟨last2, nx2, J2, Wn2, fr2, ?_, ?_, mkeep_tr s3 r3⟩
    · show mf_goThrough_87_b _ _ _ _ _ _ _ _ _ = _
      rw [s1]
      exact r1
    · rw [fe_loop]
      exact r2
/-! its beginning -/
theorem mfill_loop {n : Nat} {v : Int32} {K : zx_I → Option zx_I} : ∀ (d j e : Nat) (J : zx_I), j + d = 6 → d < e → J 3 1 * J 3 3 = v → ∃ J', mf_fill_2 n K e (nI j) J = K J' ∧ (∀ b, b ≠ 10 → J' b = J b) ∧ ∀ i, J' 10 i = if j ≤ i ∧ i < j + d then v else J 10 i := by
  intro d
  induction d with
  | zero =>
    intro j e J hj he hv
    obtain ⟨e, rfl⟩ : ∃ e9, e = e9 + 1 := ⟨e - 1, by omega⟩
    refine ⟨J, ?_, fun _ _ => rfl, fun i => by rw [if_neg (by omega)]⟩
    show mf_fill_2_b _ _ _ _ _ = _
    unfold mf_fill_2_b
    rw [if_pos (show (6 : Int32) ≤ nI j from nI_le (a := 6) (by omega) (by omega))]
  | succ d ih =>
    intro j e J hj he hv
    obtain ⟨e, rfl⟩ : ∃ e9, e = e9 + 1 := ⟨e - 1, by omega⟩
    obtain ⟨J', f1, f2, f3⟩ := ih (j + 1) e (zx_uI J 10 j v) (by omega) (by omega) (by rw [zx_uI_ne (by decide)]; exact hv)
    refine ⟨J', ?_, fun b hb => (f2 b hb).trans (zx_uI_ne hb), fun i => ?_⟩
    · show mf_fill_2_b _ _ _ _ _ = _
      unfold mf_fill_2_b
      rw [if_neg (show ¬ (6 : Int32) ≤ nI j from nI_ge (b := 6) (by omega) (by decide)), mo_g1 (mo_inN (by omega) (by decide)), nI_clamp (by omega), hv, ← nI_succ]
      exact f1
    · rw [f3 i]
      simp only [zx_uI, if_pos]
      by_cases q : i = j
      · subst q
        rw [if_neg (by omega), if_pos rfl, if_pos (by omega)]
      · rw [if_neg q]
        by_cases q2 : j + 1 ≤ i ∧ i < j + 1 + d
        · rw [if_pos q2, if_pos (by omega)]
        · rw [if_neg q2, if_neg (by omega)]
theorem mfill_spec {n : Nat} {J : zx_I} (hn : 200 ≤ n) : ∃ J', mf_fill n J = some J' ∧ (∀ b, b ≠ 10 → J' b = J b) ∧ ∀ i, i < 6 → J' 10 i = J 3 1 * J 3 3 := by
  obtain ⟨J', f1, f2, f3⟩ := mfill_loop (n := n) (v := J 3 1 * J 3 3) (K := fun J_2 => some J_2) 6 0 n J rfl (by omega) rfl
  refine ⟨J', f1, f2, fun i hi => ?_⟩
  rw [f3 i, if_pos (by omega)]
theorem mres_loop {n : Nat} {x1 : Int32} {x2 : Int64} {K : zx_I → Option (Int32 × zx_I)} : ∀ (d j e : Nat) (J : zx_I), j + d = 6 → d < e → ∃ J', mf_goThrough_28 n x1 x2 K e (nI j) J = K J' ∧ (∀ b, b ≠ 13 → b ≠ 14 → b ≠ 15 → b ≠ 16 → J' b = J b) ∧ ∀ b i, (b = 13 ∨ b = 14 ∨ b = 15 ∨ b = 16) → J' b i = if j ≤ i ∧ i < j + d then -4 else J b i := by
  intro d
  induction d with
  | zero =>
    intro j e J hj he
    obtain ⟨e, rfl⟩ : ∃ e9, e = e9 + 1 := ⟨e - 1, by omega⟩
    refine ⟨J, ?_, fun _ _ _ _ _ => rfl, fun b i _ => by rw [if_neg (by omega)]⟩
    show mf_goThrough_28_b _ _ _ _ _ _ _ = _
    unfold mf_goThrough_28_b
    rw [if_pos (show (6 : Int32) ≤ nI j from nI_le (a := 6) (by omega) (by omega))]
  | succ d ih =>
    intro j e J hj he
    obtain ⟨e, rfl⟩ : ∃ e9, e = e9 + 1 := ⟨e - 1, by omega⟩
    obtain ⟨J', f1, f2, f3⟩ := ih (j + 1) e (zx_uI (zx_uI (zx_uI (zx_uI J 13 j (-4)) 14 j (-4)) 15 j (-4)) 16 j (-4)) (by omega) (by omega)
    refine ⟨J', ?_, fun b z1 z2 z3 z4 => by rw [f2 b z1 z2 z3 z4, zx_uI_ne z4, zx_uI_ne z3, zx_uI_ne z2, zx_uI_ne z1], fun b i hb => ?_⟩
    · show mf_goThrough_28_b _ _ _ _ _ _ _ = _
      unfold mf_goThrough_28_b
      rw [if_neg (show ¬ (6 : Int32) ≤ nI j from nI_ge (b := 6) (by omega) (by decide)), mo_g1 (mo_inN (by omega) (by decide)), mo_g1 (mo_inN (by omega) (by decide)), mo_g1 (mo_inN (by omega) (by decide)), mo_g1 (mo_inN (by omega) (by decide)), nI_clamp (by omega), ← nI_succ]
      exact f1
    · rw [f3 b i hb]
      by_cases q : i = j
      · subst q
        rw [if_neg (by omega), if_pos (by omega)]
        rcases hb with rfl | rfl | rfl | rfl <;> simp [zx_uI]
      · have e : (zx_uI (zx_uI (zx_uI (zx_uI J 13 j (-4)) 14 j (-4)) 15 j (-4)) 16 j (-4)) b i = J b i := by simp [zx_uI, q]
        rw [e]
        by_cases q2 : j + 1 ≤ i ∧ i < j + 1 + d
        · rw [if_pos q2, if_pos (by omega)]
        · rw [if_neg q2, if_neg (by omega)]
/-- ready for an evening -/
def AR (a : Nat) (I J : zx_I) (rule : Int32) (m p c f ct : Nat) : Prop :=
  (hvt I a m p c f ∧ hvr I a) ∧ (I a 13 = nI ct ∧ ct ≤ 6 ∧ ∀ i, i < ct → hvb (I (a + 4 + i)) ct) ∧ hrl I a J ct ∧ (I 34 0 = rule ∧ J 0 8 = I 34 1) ∧ (∀ k, k < 6 → J 17 k = I 35 k) ∧ rowok (I 35) ct ∧ (∀ j, j < ct → J 12 j = I (a + 4 + j) 9 ∧ rg (I (a + 4 + j) 9) 0 100) ∧ tpr I J ∧ rg (I 34 7) 0 99
theorem AR_Kh {a : Nat} {I J : zx_I} {rule : Int32} {m p c f ct : Nat} (h : AR a I J rule m p c f ct) : Kh a I := ⟨⟨m, p, c, f, h.1.1, h.1.2⟩, h.2.2.2.2.2.2.2.2⟩
theorem beg_36 {I : zx_I} {a : Nat} {g : Int32} (ha : a = 4 ∨ a = 14) : fe_begin I a g 36 3 = 0 ∧ fe_begin I a g 36 5 = 0 ∧ fe_begin I a g 36 6 = 0 ∧ fe_begin I a g 36 7 = 0 := by
  unfold fe_begin
  rw [(rs_at ha 6 0 _ (by omega)).1 36 (by unfold bt; omega)]
  unfold fe_own
  refine ⟨?_, ?_, ?_, ?_⟩ <;> simp [zx_uI]
theorem beg_39 {I : zx_I} {a : Nat} {g : Int32} (ha : a = 4 ∨ a = 14) : fe_begin I a g 39 0 = 0 ∧ fe_begin I a g 39 2 = g := by
  unfold fe_begin
  rw [(rs_at ha 6 0 _ (by omega)).1 39 (by unfold bt; omega), own_ne (by decide)]
  unfold ff_begin
  refine ⟨?_, ?_⟩ <;> simp [zx_uI]
theorem beg_out {I : zx_I} {a i k : Nat} {g : Int32} (ha : a = 4 ∨ a = 14) (hi : i < 6) (h1 : 10 ≤ k) (h2 : k < 14) : fe_begin I a g (a + 4 + i) k = -4 := by
  unfold fe_begin
  rw [(rs_at ha 6 0 _ (by omega)).2.2 i k h1 h2 hi, if_pos (by omega)]
theorem beg_spec {a : Nat} {I J J0 : zx_I} {rule may : Int32} {m p c f ct : Nat} (ha : a = 4 ∨ a = 14) (h : AR a I J rule m p c f ct) (h0 : J0 0 24 = 0 ∧ J0 0 26 = may ∧ J0 0 27 = 0 ∧ ∀ k, k < 24 ∨ 27 < k → J0 0 k = J 0 k) (h10 : ∀ i, i < 6 → J0 10 i = J 3 1 * J 3 3) (hr : ∀ i, i < 6 → J0 13 i = -4 ∧ J0 14 i = -4 ∧ J0 15 i = -4 ∧ J0 16 i = -4) (hk : mkeep J J0) : sb 0 a 0 (fe_begin I a may) none J0 (-4) 0 rule m p c f ct 0 0 := by
  obtain ⟨⟨a1, a2⟩, ⟨b1, b2, b3⟩, a3, ⟨a4, a4'⟩, a5, a6, a7, a8, a9⟩ := h
  have hs := beg_same (I := I) (f := may) ha
  have ne : ∀ b, b = 34 ∨ b = 35 → fe_begin I a may b = I b := fun b hb => beg_ne ha (by unfold bt; omega) (by omega) (by omega) (by omega) (by omega)
  have k3 : J0 3 = J 3 := hk.1 3 (by decide) (by decide) (by decide) (by decide) (by decide) (by decide) (by decide)
  have k12 : J0 12 = J 12 := hk.1 12 (by decide) (by decide) (by decide) (by decide) (by decide) (by decide) (by decide)
  have k17 : J0 17 = J 17 := hk.1 17 (by decide) (by decide) (by decide) (by decide) (by decide) (by decide) (by decide)
  obtain ⟨s3, s5, s6, s7⟩ := beg_36 (I := I) (g := may) ha
  obtain ⟨f0, f2⟩ := beg_39 (I := I) (g := may) ha
  have hcm : ∀ j, j < 6 → fe_begin I a may (a + 4 + j) 9 = I (a + 4 + j) 9 := fun j hj => beg_bt ha (bt_of ha hj) (by decide)
  refine ⟨⟨cpx_beg ha a1 a2 a9, ⟨by rw [hs.1]; exact b1, b2, fun i hi => hvb_cg (fun k hk => hs.2.2.2 i (by omega) k hk) (b3 i hi)⟩, fun k hk => ?_, fun j hj => ?_, ?_, fun i hi => ?_, fun i hi => ?_, ⟨?_, by decide, fun i hi => ?_⟩, ⟨?_, by decide⟩, Or.inl ⟨rfl, rfl, rfl⟩⟩, ⟨by rw [h0.2.1, f2], 0, by decide, f0, h0.1, fun q => absurd q (by decide)⟩, ⟨s7, Nat.le_refl _⟩, ⟨by rw [ne 34 (Or.inl rfl)]; exact a4, by rw [ne 34 (Or.inl rfl), h0.2.2.2 8 (by decide)]; exact a4'⟩, fun k hk => by rw [k17, ne 35 (Or.inr rfl)]; exact a5 k hk, by rw [ne 35 (Or.inr rfl)]; exact a6, fun j hj => by rw [hcm j (by omega)]; exact (a7 j hj).2, ?_⟩
  · rw [k3, ho_cg hs b2 hk]
    exact a3 k hk
  · have m6 : m ≤ 6 := a1.2.2.2.2.2.1
    rw [h10 j (by omega), beg_38 ha, fill_38 a1.1 m6 hj, a3 1 (by omega), a3 3 (by omega), Int32.mul_comm]
    rfl
  · refine Or.inr ?_
    rw [s3, h0.2.2.1]
    rfl
  · obtain ⟨r1, r2, r3, r4⟩ := hr i hi
    rw [r1, r2, r3, r4, beg_out ha hi (by decide) (by decide), beg_out ha hi (by decide) (by decide), beg_out ha hi (by decide) (by decide), beg_out ha hi (by decide) (by decide)]
    exact ⟨rfl, rfl, rfl, rfl⟩
  · rw [k12, hcm i (by omega)]
    exact (a7 i hi).1
  · exact s6
  · rw [beg_out ha hi (by decide) (by decide), beg_out ha hi (by decide) (by decide), Nat.zero_testBit]
    exact ⟨⟨fun q => absurd q (by decide), fun q => absurd rfl q⟩, fun _ => rfl, fun q => absurd rfl q⟩
  · exact s5
  · unfold tpr
    rw [ne 34 (Or.inl rfl), h0.2.2.2 28 (by decide), h0.2.2.2 29 (by decide), h0.2.2.2 30 (by decide)]
    exact a8
/-! the score -/
def hl_loop (I : zx_I) (b : Nat) : Nat → Nat → Int32 → Int32
  | 0, _, l => l
  | n + 1, j, l => hl_loop I b n (j + 1) (if I (b + j) 11 = -4 then l + 1 else if I (b + j) 11 ≤ I (b + j) 6 then l else l + 1)
def hm_loop (I : zx_I) (b : Nat) : Nat → Nat → Int32 → Int32
  | 0, _, m => m
  | n + 1, j, m => hm_loop I b n (j + 1) (if m < (if I (b + j) 11 = -4 then 99 else I (b + j) 11) then (if I (b + j) 11 = -4 then 99 else I (b + j) 11) else m)
theorem hsc_eq {I : zx_I} {b : Nat} : ∀ (n j : Nat) (l m : Int32), hsc_loop I b n j l m = 100 * hl_loop I b n j l + hm_loop I b n j m
  | 0, _, _, _ => rfl
  | n + 1, j, l, m => by
    rw [hsc_loop, hl_loop, hm_loop]
    exact hsc_eq n (j + 1) _ _
theorem late_loop {n ct a : Nat} {I J : zx_I} {K : Int32 → Option Int32} (hct : ct ≤ 6) (h16 : J 3 16 = nI ct) (h14 : ∀ i, i < 6 → J 14 i = I (a + 4 + i) 11) (hr : hrl I a J ct) : ∀ (d j e l : Nat), j + d = ct → d < e → ∃ l', l' ≤ l + d ∧ mf_lateNow_4 n J K e (nI l) (nI j) = K (nI l') ∧ hl_loop I (a + 4) d j (nI l) = nI l' := by
  intro d
  induction d with
  | zero =>
    intro j e l hj he
    obtain ⟨e, rfl⟩ : ∃ e9, e = e9 + 1 := ⟨e - 1, by omega⟩
    refine ⟨l, Nat.le_refl _, ?_, rfl⟩
    show mf_lateNow_4_b _ _ _ _ _ _ = _
    unfold mf_lateNow_4_b mf_many
    rw [h16, if_pos (nI_le (by omega) (by omega))]
  | succ d ih =>
    intro j e l hj he
    obtain ⟨e, rfl⟩ : ∃ e9, e = e9 + 1 := ⟨e - 1, by omega⟩
    have hj6 : j < 6 := by omega
    have body : mf_lateNow_4 n J K (e + 1) (nI l) (nI j) = mf_lateNow_4 n J K e (if I (a + 4 + j) 11 = -4 then nI l + 1 else if I (a + 4 + j) 11 ≤ I (a + 4 + j) 6 then nI l else nI l + 1) (nI (j + 1)) := by
      show mf_lateNow_4_b _ _ _ _ _ _ = _
      unfold mf_lateNow_4_b mf_many
      rw [h16, if_neg (nI_ge (by omega) (by omega)), mo_g1 (mo_inN hj6 (by decide)), nI_clamp (by omega), h14 j hj6, nI_succ j]
      by_cases z : I (a + 4 + j) 11 = -4
      · rw [if_pos z, if_pos z]
      · rw [if_neg z, if_neg z, mo_g1 (mo_inN hj6 (by decide)), show (5 : Int32) = nI 5 from rfl, mf_of_ok hj6 (by decide), Option.bind_some, hrl_b hr (by omega) (by decide)]
        by_cases z2 : I (a + 4 + j) 11 ≤ I (a + 4 + j) 6
        · rw [if_pos (show I (a + 4 + j) 11 ≤ I (a + 4 + j) (5 + 1) from z2), if_pos z2, Int32.add_zero]
        · rw [if_neg (show ¬ I (a + 4 + j) 11 ≤ I (a + 4 + j) (5 + 1) from z2), if_neg z2]
    obtain ⟨l1, hl1, hl2⟩ : ∃ l1, l1 ≤ l + 1 ∧ (if I (a + 4 + j) 11 = -4 then nI l + 1 else if I (a + 4 + j) 11 ≤ I (a + 4 + j) 6 then nI l else nI l + 1) = nI l1 := by
      split
      · exact ⟨l + 1, Nat.le_refl _, nI_1 l⟩
      · split
        · exact ⟨l, by omega, rfl⟩
        · exact ⟨l + 1, Nat.le_refl _, nI_1 l⟩
    rw [body, hl_loop, hl2]
    obtain ⟨l', q1, q2, q3⟩ := ih (j + 1) e l1 (by omega) (by omega)
    exact ⟨l', by omega, q2, q3⟩
theorem hm_99 {I : zx_I} {b : Nat} : ∀ (n j : Nat), (∀ i, j ≤ i → i < j + n → I (b + i) 11 = -4 ∨ ∃ d, d ≤ 79 ∧ I (b + i) 11 = nI d) → hm_loop I b n j 99 = 99
  | 0, _, _ => rfl
  | n + 1, j, h => by
    have e : (if (99 : Int32) < (if I (b + j) 11 = -4 then 99 else I (b + j) 11) then (if I (b + j) 11 = -4 then 99 else I (b + j) 11) else 99) = 99 := by
      rcases h j (Nat.le_refl _) (by omega) with q | ⟨d, hd, q⟩
      · rw [if_pos q]
        decide
      · rw [if_neg (nI_ne4' (show d < 2 ^ 31 by omega) q), q, if_neg (show ¬ (99 : Int32) < nI d from nI_nlt (a := 99) (by omega) (by decide))]
    rw [hm_loop, e]
    exact hm_99 n (j + 1) (fun i h1 h2 => h i (by omega) (by omega))
theorem done_loop {n ct a : Nat} {I J : zx_I} (hct : ct ≤ 6) (h16 : J 3 16 = nI ct) (h14 : ∀ i, i < 6 → J 14 i = I (a + 4 + i) 11) (hd : ∀ i, i < ct → I (a + 4 + i) 11 = -4 ∨ ∃ d, d ≤ 79 ∧ I (a + 4 + i) 11 = nI d) : ∀ (d j e v : Nat), j + d = ct → d < e → v ≤ 79 → ∃ v', v' ≤ 99 ∧ mf_doneNow_4 n J (fun x1_4 => some (x1_4)) e (nI v) (nI j) = some (nI v') ∧ hm_loop I (a + 4) d j (nI v) = nI v' := by
  intro d
  induction d with
  | zero =>
    intro j e v hj he hv
    obtain ⟨e, rfl⟩ : ∃ e9, e = e9 + 1 := ⟨e - 1, by omega⟩
    refine ⟨v, by omega, ?_, rfl⟩
    show mf_doneNow_4_b _ _ _ _ _ _ = _
    unfold mf_doneNow_4_b mf_many
    rw [h16, if_pos (nI_le (by omega) (by omega))]
  | succ d ih =>
    intro j e v hj he hv
    obtain ⟨e, rfl⟩ : ∃ e9, e = e9 + 1 := ⟨e - 1, by omega⟩
    have hj6 : j < 6 := by omega
    rw [hm_loop]
    rcases hd j (by omega) with q | ⟨dd, hdd, q⟩
    · rw [if_pos q, if_pos (show nI v < (99 : Int32) from nI_lt (b := 99) (by omega) (by decide)), hm_99 d (j + 1) (fun i h1 h2 => hd i (by omega))]
      refine ⟨99, Nat.le_refl _, ?_, rfl⟩
      show mf_doneNow_4_b _ _ _ _ _ _ = _
      unfold mf_doneNow_4_b mf_many
      rw [h16, if_neg (nI_ge (by omega) (by omega)), mo_g1 (mo_inN hj6 (by decide)), nI_clamp (by omega), h14 j hj6, if_pos q]
      rfl
    · have q4 := nI_ne4' (show dd < 2 ^ 31 by omega) q
      have body : ∀ w, (if dd ≤ v then v else dd) = w → mf_doneNow_4 n J (fun x1_4 => some (x1_4)) (e + 1) (nI v) (nI j) = mf_doneNow_4 n J (fun x1_4 => some (x1_4)) e (nI w) (nI (j + 1)) := by
        intro w hw
        show mf_doneNow_4_b _ _ _ _ _ _ = _
        unfold mf_doneNow_4_b mf_many
        rw [h16, if_neg (nI_ge (by omega) (by omega)), mo_g1 (mo_inN hj6 (by decide)), nI_clamp (by omega), h14 j hj6, if_neg q4, mo_g1 (mo_inN hj6 (by decide)), q, ← nI_succ]
        by_cases z : dd ≤ v
        · rw [if_pos (nI_le z (by omega)), ← hw, if_pos z]
        · rw [if_neg (nI_ge (by omega) (by omega)), mo_g1 (mo_inN hj6 (by decide)), ← hw, if_neg z]
      rw [if_neg q4, q]
      by_cases z : dd ≤ v
      · rw [if_neg (nI_nlt z (by omega)), body v (if_pos z)]
        exact ih (j + 1) e v (by omega) (by omega) hv
      · rw [if_pos (nI_lt (by omega) (by omega)), body dd (if_neg z)]
        exact ih (j + 1) e dd (by omega) (by omega) hdd
theorem score_spec {n a m ct : Nat} {I J : zx_I} (hn : 200 ≤ n) (hct : ct ≤ 6) (e13 : I a 13 = nI ct) (h : EA a m ct I J) (hr : hrl I a J ct) : ∃ lt dn, lt ≤ 6 ∧ dn ≤ 99 ∧ mf_lateNow n J = some (nI lt) ∧ mf_doneNow n J = some (nI dn) ∧ fh_score I a = nI (100 * lt + dn) := by
  have h16 : J 3 16 = nI ct := (hr 16 (by omega)).trans e13
  have h14 : ∀ i, i < 6 → J 14 i = I (a + 4 + i) 11 := fun i hi => (h.1 i hi).2.1
  obtain ⟨lt, l1, l2, l3⟩ := late_loop (n := n) (K := fun x1_4 => some (x1_4)) hct h16 h14 hr ct 0 n 0 (by omega) (by omega)
  obtain ⟨dn, d1, d2, d3⟩ := done_loop (n := n) hct h16 h14 h.2.2.2.2.1 ct 0 n 0 (by omega) (by omega) (by omega)
  refine ⟨lt, dn, by omega, d1, l2, d2, ?_⟩
  unfold fh_score
  rw [e13, nI_toInt (by omega), show ((ct : Int)).toNat = ct from rfl, hsc_eq, show (0 : Int32) = nI 0 from rfl, l3, d3, show (100 : Int32) = nI 100 from rfl, pk_mul, nI_add]
/-- what an evening leaves of the class's memory -/
def cfr (I I' : zx_I) : Prop := (∀ b, b ≠ 36 → b ≠ 37 → b ≠ 38 → b ≠ 39 → b ≠ 40 → ¬ bt b → I' b = I b) ∧ ∀ b, bt b → ∀ k, k < 10 → I' b k = I b k
theorem cfr_rf {I : zx_I} : cfr I I := ⟨fun _ _ _ _ _ _ _ => rfl, fun _ _ _ _ => rfl⟩
theorem cfr_tr {I J K : zx_I} (h1 : cfr I J) (h2 : cfr J K) : cfr I K := ⟨fun b a1 a2 a3 a4 a5 a6 => (h2.1 b a1 a2 a3 a4 a5 a6).trans (h1.1 b a1 a2 a3 a4 a5 a6), fun b hb k hk => (h2.2 b hb k hk).trans (h1.2 b hb k hk)⟩
theorem AR_cg {a : Nat} {I I' J J' : zx_I} {rule : Int32} {m p c f ct : Nat} (ha : a = 4 ∨ a = 14) (h : AR a I J rule m p c f ct) (h1 : cfr I I') (h2 : mkeep J J') : AR a I' J' rule m p c f ct := by
  obtain ⟨⟨a1, a2⟩, ⟨b1, b2, b3⟩, a3, ⟨a4, a4'⟩, a5, a6, a7, a8, a9⟩ := h
  have ne : ∀ b, b = a ∨ b = a + 1 ∨ b = a + 2 ∨ b = 34 ∨ b = 35 → I' b = I b := fun b hb => h1.1 b (by omega) (by omega) (by omega) (by omega) (by omega) (by unfold bt; omega)
  have hs : hsame I I' a := ⟨ne _ (by omega), ne _ (by omega), ne _ (by omega), fun i hi k hk => h1.2 _ (bt_of ha hi) k (by omega)⟩
  have e34 := ne 34 (by omega)
  have e35 := ne 35 (by omega)
  have mk : ∀ b, b = 3 ∨ b = 12 ∨ b = 17 → J' b = J b := fun b hb => h2.1 b (by omega) (by omega) (by omega) (by omega) (by omega) (by omega) (by omega)
  refine ⟨⟨hvt_cg hs.1 a1, hvr_cg hs a2⟩, ⟨by rw [hs.1]; exact b1, b2, fun i hi => hvb_cg (fun k hk => hs.2.2.2 i (by omega) k hk) (b3 i hi)⟩, fun k hk => by rw [mk 3 (by omega), ho_cg hs b2 hk]; exact a3 k hk, by rw [e34, h2.2 8 (by omega)]; exact ⟨a4, a4'⟩, fun k hk => by rw [e35, mk 17 (by omega)]; exact a5 k hk, by rw [e35]; exact a6, fun j hj => ?_, ?_, by rw [e34]; exact a9⟩
  · rw [mk 12 (by omega), h1.2 _ (bt_of ha (by omega)) 9 (by decide)]
    exact a7 j hj
  · unfold tpr
    rw [e34, h2.2 28 (by omega), h2.2 29 (by omega), h2.2 30 (by omega)]
    exact a8
theorem cfr_run {a : Nat} {I : zx_I} {L : zx_L} (ha : a = 4 ∨ a = 14) (h : Kh a I) : cfr I (fr_end I L a).1 := by
  obtain ⟨q1, -⟩ := Kh_end (L := L) ha h
  refine ⟨fun b z1 z2 z3 z4 z5 z6 => ?_, fun b hb k hk => ?_⟩
  · rw [q1.1 b z1 z3 z4 z5 z6]
    exact beg_ne ha z6 z1 z2 z3 z4
  · rw [q1.2 b hb k hk]
    exact beg_bt ha hb hk
/-- an evening in both: the same score, and all that is told of it -/
theorem run_spec {n a : Nat} {I J : zx_I} {L : zx_L} {rule : Int32} {m p c f ct : Nat} (ha : a = 4 ∨ a = 14) (hn : 200 ≤ n) (h : AR a I J rule m p c f ct) : ∃ J', mf_goThrough n rule (L 34 3) (I 34 2) J = some (fr_score I L a, J') ∧ mkeep J J' ∧ AR a (fr_end I L a).1 J' rule m p c f ct ∧ cfr I (fr_end I L a).1 ∧ EA a m ct (fr_end I L a).1 J' ∧ ∃ lt dn, lt ≤ 6 ∧ dn ≤ 99 ∧ mf_lateNow n J' = some (nI lt) ∧ mf_doneNow n J' = some (nI dn) ∧ fr_score I L a = nI (100 * lt + dn) := by
  obtain ⟨N, eN, hN1, hN⟩ := h.1.2.2.2.2.2.2.2.1
  have e15 : J 3 15 = nI N := (h.2.2.1 15 (by omega)).trans eN
  obtain ⟨J1, f1, f2, f3⟩ := mfill_spec (n := n) (J := J) hn
  obtain ⟨J2, g1, g2, g3⟩ := mres_loop (n := n) (x1 := rule) (x2 := L 34 3) (K := fun J_28 => (mf_goThrough_87 n rule (L 34 3) (fun J_87 => ((mf_scoreNow n J_87).bind fun p397 => some (p397, J_87))) n (-4 : Int32) (0 : Int32) (0 : Int32) J_28)) 6 0 n (zx_uI (zx_uI (zx_uI (zx_uI J1 0 24 0) 0 25 0) 0 26 (I 34 2)) 0 27 0) rfl (by omega)
  have e0 : J2 0 = (zx_uI (zx_uI (zx_uI (zx_uI J1 0 24 0) 0 25 0) 0 26 (I 34 2)) 0 27 0) 0 := g2 0 (by decide) (by decide) (by decide) (by decide)
  have k0 : mkeep J J2 := by
    refine ⟨fun b z0 z10 z11 z13 z14 z15 z16 => ?_, fun k hk => ?_⟩
    · rw [g2 b z13 z14 z15 z16, zx_uI_ne z0, zx_uI_ne z0, zx_uI_ne z0, zx_uI_ne z0, f2 b z10]
    · rw [e0]
      simp only [zx_uI, if_pos]
      rw [if_neg (by omega), if_neg (by omega), if_neg (by omega), if_neg (by omega), f2 0 (by decide)]
  have hsb := beg_spec (J0 := J2) (may := I 34 2) ha h ⟨by rw [e0]; simp [zx_uI], by rw [e0]; simp [zx_uI], by rw [e0]; simp [zx_uI], fun k hk => by
      rw [e0]
      simp only [zx_uI, if_pos]
      rw [if_neg (by omega), if_neg (by omega), if_neg (by omega), if_neg (by omega), f2 0 (by decide)]⟩ (fun i hi => by
      rw [g2 10 (by decide) (by decide) (by decide) (by decide), zx_uI_ne (by decide), zx_uI_ne (by decide), zx_uI_ne (by decide), zx_uI_ne (by decide)]
      exact f3 i hi) (fun i hi => by
      rw [g3 13 i (by omega), g3 14 i (by omega), g3 15 i (by omega), g3 16 i (by omega), if_pos (by omega), if_pos (by omega), if_pos (by omega), if_pos (by omega)]
      exact ⟨rfl, rfl, rfl, rfl⟩) k0
  obtain ⟨last', nx', J3, Wn', fr', l1, l2, l3⟩ := go_loop (n := n) (L := L) (K := fun J_87 => ((mf_scoreNow n J_87).bind fun p397 => some (p397, J_87))) ha hn hN N 0 n _ J2 none (-4) 0 0 0 (by omega) (by omega) (by rw [k0.1 3 (by decide) (by decide) (by decide) (by decide) (by decide) (by decide) (by decide)]; exact e15) hsb
  have efr : fr_end I L a = fe_loop L a N 0 (fe_begin I a (I 34 2)) none := by
    unfold fr_end
    rw [eN, nI_toInt (by omega)]
    rfl
  rw [← efr] at l2
  have hEA := sb_EA l2
  have hc := cfr_run (L := L) ha (AR_Kh h)
  have hAR := AR_cg ha h hc (mkeep_tr k0 l3)
  obtain ⟨lt, dn, s1, s2, s3, s4, s5⟩ := score_spec (n := n) hn hAR.2.1.2.1 hAR.2.1.1 hEA hAR.2.2.1
  refine ⟨J3, ?_, mkeep_tr k0 l3, hAR, hc, hEA, lt, dn, s1, s2, s3, s4, s5⟩
  unfold mf_goThrough
  rw [f1, Option.bind_some]
  refine g1.trans ?_
  refine l1.trans ?_
  unfold mf_scoreNow fr_score
  rw [s3, Option.bind_some, s4, Option.bind_some, Option.bind_some, s5, show (100 : Int32) = nI 100 from rfl, pk_mul, nI_add]
