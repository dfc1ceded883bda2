/-! swapped in both -/
theorem KK_ne {h : Nat} {I0 J J' : zx_I} (ha : h = 4 ∨ h = 14) (e : ∀ b, b ≠ 35 → b ≠ 41 → J' b = J b) (q : KK h I0 J) : KK h I0 J' := by
  have eb : ∀ i, i < 6 → J' (h + 4 + i) = J (h + 4 + i) := fun i hi => e _ (by omega) (by omega)
  exact ⟨⟨hv_cg ⟨e h (by omega) (by omega), e _ (by omega) (by omega), e _ (by omega) (by omega), fun i hi k _ => by rw [eb i hi]⟩ q.1.1, by rw [e 34 (by decide) (by decide)]; exact q.1.2⟩, by rw [e h (by omega) (by omega)]; exact q.2.1, fun i hi k hk => by rw [eb i hi]; exact q.2.2 i hi k hk⟩
theorem ch_ne {I : zx_I} {a b : Int32} {x : Nat} (hx : x ≠ 35) : fa_ch I a b x = I x := by
  unfold fa_ch
  split
  · rfl
  · split
    · rfl
    · split
      · rfl
      · split
        · rw [zx_uI_ne hx, zx_uI_ne hx]
        · rfl
theorem ch_at {I : zx_I} {a b : Nat} (ha : a < 6) (hb : b < 6) : fa_ch I (nI a) (nI b) = zx_uI (zx_uI I 35 a (I 35 b)) 35 b (I 35 a) := by
  unfold fa_ch
  rw [if_neg (nI_pos (by omega)), if_neg (show ¬ nI a ≥ 6 from nI_ge (b := 6) (a := a) ha (by decide)), if_neg (nI_pos (by omega)), if_pos (show nI b < 6 from nI_lt (b := 6) hb (by decide)), nI_clamp (by omega), nI_clamp (by omega)]
theorem sw_row {r r' : Nat → Int32} {ct a b : Nat} (ha : a < ct) (hb : b < ct) (hct : ct ≤ 6) (h : rowok r ct) (e : ∀ k, k < 6 → r' k = if k = b then r a else if k = a then r b else r k) : rowok r' ct := by
  refine ⟨fun k hk => ?_, fun k hk hk6 => ?_⟩
  · rw [e k (by omega)]
    split
    · exact h.1 a ha
    · split
      · exact h.1 b hb
      · exact h.1 k hk
  · rw [e k hk6, if_neg (by omega), if_neg (by omega)]
    exact h.2 k hk hk6
def SX (h : Nat) (may : Int32) (m p c f ct : Nat) (I J : zx_I) : Prop := (∃ J0, RR h 0 may m p c f ct I J0 ∧ J0 3 = J 3 ∧ J0 0 8 = J 0 8) ∧ (∀ k, k < 6 → J 4 k = I 35 k) ∧ (∀ j, j < ct → I (h + 4 + j) 9 = I (h + 4 + j) 5) ∧ I 34 6 = 0 ∧ J 3 11 = may
/-- what it leaves of the model's memory, the row aside -/
def mk4 (J J' : zx_I) : Prop := (∀ b, b = 1 ∨ b = 3 ∨ (5 ≤ b ∧ b ≤ 9) → J' b = J b) ∧ ∀ k, k < 24 → J' 0 k = J 0 k
theorem mk4_tr {J K N : zx_I} (h1 : mk4 J K) (h2 : mk4 K N) : mk4 J N := ⟨fun b hb => (h2.1 b hb).trans (h1.1 b hb), fun k hk => (h2.2 k hk).trans (h1.2 k hk)⟩
theorem sx_run {n h : Nat} {may : Int32} {m p c f ct : Nat} {I J : zx_I} {L M : zx_L} (ha : h = 4 ∨ h = 14) (hn : 200 ≤ n) (hL : L 34 3 = M 0 9) (q : SX h may m p c f ct I J) : ∃ J2, mf_scoreOf n 0 J M = some (fr_score I L h, J2) ∧ SX h may m p c f ct (fr_end I L h).1 J2 ∧ mk4 J J2 ∧ cfr I (fr_end I L h).1 ∧ ∃ S, S ≤ 699 ∧ fr_score I L h = nI S := by
  obtain ⟨⟨J0, hR, e3, e8⟩, h4, h9, h6, h11⟩ := q
  obtain ⟨J1, f1, f2, f3, f4, f5, f6⟩ := as_spec (n := n) (J := J) hn
  have g3 : J1 3 = J 3 := f2 3 (by decide) (by decide) (by decide)
  obtain ⟨⟨⟨a1, a2⟩, ⟨b1, b2, b3⟩, a3, ⟨a4, a4'⟩, a5, a6, a7, a8, a9⟩, hm⟩ := hR
  have hr1 : hrl I h J1 ct := fun k hk => by rw [g3, ← e3]; exact a3 k hk
  have hR1 : RR h 0 may m p c f ct I J1 := by
    refine ⟨⟨⟨a1, a2⟩, ⟨b1, b2, b3⟩, hr1, ⟨a4, by rw [f3 8 (by decide), ← e8]; exact a4'⟩, fun k hk => by rw [f6 k hk]; exact h4 k hk, a6, fun j hj => ⟨?_, (a7 j hj).2⟩, Or.inl ⟨h6, f4⟩, a9⟩, hm⟩
    rw [f5 j (by omega), h9 j hj, ← e3]
    exact hrl_b a3 hj (by decide)
  obtain ⟨J2, r1, r2, r3, r4, -, lt, dn, l6, d99, -, -, es⟩ := run_RR L ha hn hR1
  rw [hL] at r1
  have k3 := mkeep_3 r3
  refine ⟨J2, ?_, ⟨⟨J2, r2, rfl, rfl⟩, fun k hk => ?_, fun j hj => ?_, ?_, by rw [k3, g3]; exact h11⟩, ⟨fun b hb => ?_, fun k hk => ?_⟩, r4, 100 * lt + dn, by omega, es⟩
  · unfold mf_scoreOf
    rw [f1, Option.bind_some, g3, h11, r1]
    rfl
  · rw [r3.1 4 (by decide) (by decide) (by decide) (by decide) (by decide) (by decide) (by decide), f2 4 (by decide) (by decide) (by decide), r4.1 35 (by decide) (by decide) (by decide) (by decide) (by decide) (by unfold bt; decide)]
    exact h4 k hk
  · rw [r4.2 _ (bt_of ha (by omega)) 9 (by decide), r4.2 _ (bt_of ha (by omega)) 5 (by decide)]
    exact h9 j hj
  · rw [r4.1 34 (by decide) (by decide) (by decide) (by decide) (by decide) (by unfold bt; decide)]
    exact h6
  · rw [r3.1 b (by omega) (by omega) (by omega) (by omega) (by omega) (by omega) (by omega), f2 b (by omega) (by omega) (by omega)]
  · rw [r3.2 k (by omega), f3 k (by omega)]
theorem RR_35 {h : Nat} {rule may : Int32} {m p c f ct : Nat} {I J I' J' : zx_I} (ha : h = 4 ∨ h = 14) (q : RR h rule may m p c f ct I J) (h1 : ∀ b, b ≠ 35 → b ≠ 41 → I' b = I b) (h2 : ∀ b, b ≠ 17 → b ≠ 18 → J' b = J b) (h3 : ∀ k, k < 6 → J' 17 k = I' 35 k) (h4 : rowok (I' 35) ct) : RR h rule may m p c f ct I' J' := by
  obtain ⟨⟨⟨a1, a2⟩, ⟨b1, b2, b3⟩, a3, a4, a5, a6, a7, a8, a9⟩, hm⟩ := q
  have eb : ∀ i, i < 6 → I' (h + 4 + i) = I (h + 4 + i) := fun i hi => h1 _ (by omega) (by omega)
  have hs : hsame I I' h := ⟨h1 _ (by omega) (by omega), h1 _ (by omega) (by omega), h1 _ (by omega) (by omega), fun i hi k _ => by rw [eb i hi]⟩
  have e34 := h1 34 (by decide) (by decide)
  refine ⟨⟨⟨hvt_cg hs.1 a1, hvr_cg hs a2⟩, ⟨by rw [hs.1]; exact b1, b2, fun i hi => by rw [eb i (by omega)]; exact b3 i hi⟩, fun k hk => by rw [h2 3 (by decide) (by decide), ho_cg hs b2 hk]; exact a3 k hk, by rw [e34, h2 0 (by decide) (by decide)]; exact a4, h3, h4, fun j hj => by rw [h2 12 (by decide) (by decide), eb j (by omega)]; exact a7 j hj, ?_, by rw [e34]; exact a9⟩, by rw [e34]; exact hm⟩
  unfold tpr
  rw [e34, h2 0 (by decide) (by decide)]
  exact a8
theorem sx_ch {h k : Nat} {may : Int32} {m p c f ct : Nat} {I J : zx_I} (ha : h = 4 ∨ h = 14) (hk : k + 1 < ct) (q : SX h may m p c f ct I J) : ∃ J1, mf_change (nI k) J = some J1 ∧ SX h may m p c f ct (fa_ch I (nI k) (nI (k + 1))) J1 ∧ mk4 J J1 := by
  obtain ⟨⟨J0, hR, e3, e8⟩, h4, h9, h6, h11⟩ := q
  have hct : ct ≤ 6 := hR.1.2.1.2.1
  have ec := ch_at (I := I) (a := k) (b := k + 1) (by omega) (by omega)
  have e35 : ∀ y, fa_ch I (nI k) (nI (k + 1)) 35 y = if y = k + 1 then I 35 k else if y = k then I 35 (k + 1) else I 35 y := fun y => by
    rw [ec]
    simp only [zx_uI, if_pos]
  have ne : ∀ b, b ≠ 35 → fa_ch I (nI k) (nI (k + 1)) b = I b := fun b hb => ch_ne hb
  refine ⟨zx_uI (zx_uI J 4 k (J 4 (k + 1))) 4 (k + 1) (J 4 k), ?_, ⟨⟨zr J0 17 (fa_ch I (nI k) (nI (k + 1)) 35), RR_35 ha hR (fun b hb _ => ne b hb) (fun b hb _ => if_neg hb) (fun y _ => by unfold zr; rw [if_pos rfl]) ?_, ?_, ?_⟩, fun y hy => ?_, fun j hj => ?_, ?_, ?_⟩, ⟨fun b hb => by rw [zx_uI_ne (by omega), zx_uI_ne (by omega)], fun y _ => by rw [zx_uI_ne (by decide), zx_uI_ne (by decide)]⟩⟩
  · unfold mf_change
    rw [nI_1, mo_g1 (mo_inN (by omega) (by decide)), mo_g1 (mo_inN (by omega) (by decide)), mo_g1 (mo_inN (by omega) (by decide)), mo_g1 (mo_inN (by omega) (by decide)), nI_clamp (by omega), nI_clamp (by omega)]
  · exact sw_row (a := k) (b := k + 1) (by omega) hk hct hR.1.2.2.2.2.2.1 (fun y _ => e35 y)
  · rw [zx_uI_ne (by decide), zx_uI_ne (by decide)]
    unfold zr
    rw [if_neg (by decide)]
    exact e3
  · rw [zx_uI_ne (by decide), zx_uI_ne (by decide)]
    unfold zr
    rw [if_neg (by decide)]
    exact e8
  · rw [e35]
    simp only [zx_uI, if_pos]
    rw [h4 k (by omega), h4 (k + 1) (by omega), h4 y hy]
  · rw [ne _ (by omega)]
    exact h9 j hj
  · rw [ne 34 (by decide)]
    exact h6
  · rw [zx_uI_ne (by decide), zx_uI_ne (by decide)]
    exact h11
theorem sw_spec {n h : Nat} {may : Int32} {m p c f ct : Nat} {L M : zx_L} {K : Int32 → zx_I → Option (Int32 × zx_I)} (ha : h = 4 ∨ h = 14) (hn : 200 ≤ n) (hL : L 34 3 = M 0 9) : ∀ (u d e S k : Nat) (cc : Int32) (Jc Jm : zx_I), 7 * S + (6 - k) ≤ u → k ≤ 6 → S ≤ 699 → u < d → u < e → SX h may m p c f ct Jc Jm → ∃ Jm', mf_swapped_10 n M K e cc (nI S) (nI k) Jm = K (sw_loop h L d (nI S) cc (nI k) Jc).1 Jm' ∧ SX h may m p c f ct (sw_loop h L d (nI S) cc (nI k) Jc).2 Jm' ∧ mk4 Jm Jm' ∧ (∀ b, b ≠ 35 → b ≠ 36 → b ≠ 37 → b ≠ 38 → b ≠ 39 → b ≠ 40 → ¬ bt b → (sw_loop h L d (nI S) cc (nI k) Jc).2 b = Jc b) ∧ ∀ b, bt b → ∀ y, y < 10 → (sw_loop h L d (nI S) cc (nI k) Jc).2 b y = Jc b y := by
  intro u
  induction u with
  | zero =>
    intro d e S k cc Jc Jm hu hk hS hd he hX
    obtain ⟨d, rfl⟩ : ∃ d9, d = d9 + 1 := ⟨d - 1, by omega⟩
    obtain ⟨e, rfl⟩ : ∃ e9, e = e9 + 1 := ⟨e - 1, by omega⟩
    have hct : ct ≤ 6 := hX.1.choose_spec.1.1.2.1.2.1
    have e13 : Jc h 13 = nI ct := hX.1.choose_spec.1.1.2.1.1
    have h16 : Jm 3 16 = nI ct := by
      rw [← hX.1.choose_spec.2.1]
      exact (hX.1.choose_spec.1.1.2.2.1 16 (by omega)).trans e13
    refine ⟨Jm, ?_, ?_, ⟨fun _ _ => rfl, fun _ _ => rfl⟩, ?_, ?_⟩
    · rw [sw_loop, e13, nI_1, if_pos (show nI (k + 1) ≥ nI ct from nI_le (by omega) (by omega))]
      show mf_swapped_10_b _ _ _ _ _ _ _ _ = _
      unfold mf_swapped_10_b mf_many
      rw [h16, nI_1, if_pos (nI_le (by omega) (by omega))]
    · rw [sw_loop, e13, nI_1, if_pos (show nI (k + 1) ≥ nI ct from nI_le (by omega) (by omega))]
      exact hX
    · intro b _ _ _ _ _ _ _
      rw [sw_loop, e13, nI_1, if_pos (show nI (k + 1) ≥ nI ct from nI_le (by omega) (by omega))]
    · intro b _ y _
      rw [sw_loop, e13, nI_1, if_pos (show nI (k + 1) ≥ nI ct from nI_le (by omega) (by omega))]
  | succ u ih =>
    intro d e S k cc Jc Jm hu hk hS hd he hX
    obtain ⟨d, rfl⟩ : ∃ d9, d = d9 + 1 := ⟨d - 1, by omega⟩
    obtain ⟨e, rfl⟩ : ∃ e9, e = e9 + 1 := ⟨e - 1, by omega⟩
    have hct : ct ≤ 6 := hX.1.choose_spec.1.1.2.1.2.1
    have e13 : Jc h 13 = nI ct := hX.1.choose_spec.1.1.2.1.1
    have h16 : Jm 3 16 = nI ct := by
      rw [← hX.1.choose_spec.2.1]
      exact (hX.1.choose_spec.1.1.2.2.1 16 (by omega)).trans e13
    by_cases c1 : ct ≤ k + 1
    · refine ⟨Jm, ?_, ?_, ⟨fun _ _ => rfl, fun _ _ => rfl⟩, ?_, ?_⟩
      · rw [sw_loop, e13, nI_1, if_pos (show nI (k + 1) ≥ nI ct from nI_le (by omega) (by omega))]
        show mf_swapped_10_b _ _ _ _ _ _ _ _ = _
        unfold mf_swapped_10_b mf_many
        rw [h16, nI_1, if_pos (nI_le (by omega) (by omega))]
      · rw [sw_loop, e13, nI_1, if_pos (show nI (k + 1) ≥ nI ct from nI_le (by omega) (by omega))]
        exact hX
      · intro b _ _ _ _ _ _ _
        rw [sw_loop, e13, nI_1, if_pos (show nI (k + 1) ≥ nI ct from nI_le (by omega) (by omega))]
      · intro b _ y _
        rw [sw_loop, e13, nI_1, if_pos (show nI (k + 1) ≥ nI ct from nI_le (by omega) (by omega))]
    · obtain ⟨J1, a1, a2, a3⟩ := sx_ch ha (show k + 1 < ct by omega) hX
      obtain ⟨J2, b1, b2, b3, b4, S', hS', eS⟩ := sx_run ha hn hL a2
      have hge : ¬ nI ct ≤ nI (k + 1) := nI_ge (by omega) (by omega)
      have hge' : ¬ nI (k + 1) ≥ nI ct := hge
      have frc : (∀ b, b ≠ 35 → b ≠ 36 → b ≠ 37 → b ≠ 38 → b ≠ 39 → b ≠ 40 → ¬ bt b → (fr_end (fa_ch Jc (nI k) (nI (k + 1))) L h).1 b = Jc b) ∧ ∀ b, bt b → ∀ y, y < 10 → (fr_end (fa_ch Jc (nI k) (nI (k + 1))) L h).1 b y = Jc b y := ⟨fun b z0 z1 z2 z3 z4 z5 z6 => by rw [b4.1 b z1 z2 z3 z4 z5 z6, ch_ne z0], fun b hb y hy => by rw [b4.2 b hb y hy, ch_ne (by unfold bt at hb; omega)]⟩
      by_cases c2 : S ≤ S'
      · have c2' : nI S' ≥ nI S := nI_le c2 (by omega)
        obtain ⟨J3, d1, d2, d3⟩ := sx_ch ha (show k + 1 < ct by omega) b2
        obtain ⟨Jm', r1, r2, r3, r4, r5⟩ := ih d e S (k + 1) cc _ J3 (by omega) (by omega) hS (by omega) (by omega) d2
        have el : sw_loop h L (d + 1) (nI S) cc (nI k) Jc = sw_loop h L d (nI S) cc (nI (k + 1)) (fa_ch (fr_end (fa_ch Jc (nI k) (nI (k + 1))) L h).1 (nI k) (nI (k + 1))) := by
          rw [sw_loop, e13, nI_1, if_neg hge', eS, if_pos c2']
        rw [el]
        refine ⟨Jm', ?_, r2, mk4_tr a3 (mk4_tr b3 (mk4_tr d3 r3)), fun b z0 z1 z2 z3 z4 z5 z6 => by rw [r4 b z0 z1 z2 z3 z4 z5 z6, ch_ne z0, frc.1 b z0 z1 z2 z3 z4 z5 z6], fun b hb y hy => by rw [r5 b hb y hy, ch_ne (by unfold bt at hb; omega), frc.2 b hb y hy]⟩
        rw [← r1]
        show mf_swapped_10_b _ _ _ _ _ _ _ _ = _
        unfold mf_swapped_10_b mf_many
        rw [h16, nI_1, if_neg hge, a1, Option.bind_some, b1, Option.bind_some]
        dsimp only
        rw [eS, if_pos c2', d1, Option.bind_some]
      · have c2' : ¬ nI S' ≥ nI S := nI_ge (by omega) (by omega)
        obtain ⟨Jm', r1, r2, r3, r4, r5⟩ := ih d e S' 0 (cc + 1) _ J2 (by omega) (by omega) hS' (by omega) (by omega) b2
        have el : sw_loop h L (d + 1) (nI S) cc (nI k) Jc = sw_loop h L d (nI S') (cc + 1) (nI 0) (fr_end (fa_ch Jc (nI k) (nI (k + 1))) L h).1 := by
          rw [sw_loop, e13, nI_1, if_neg hge', eS, if_neg c2']
          rfl
        rw [el]
        refine ⟨Jm', ?_, r2, mk4_tr a3 (mk4_tr b3 r3), fun b z0 z1 z2 z3 z4 z5 z6 => by rw [r4 b z0 z1 z2 z3 z4 z5 z6, frc.1 b z0 z1 z2 z3 z4 z5 z6], fun b hb y hy => by rw [r5 b hb y hy, frc.2 b hb y hy]⟩
        rw [← r1]
        show mf_swapped_10_b _ _ _ _ _ _ _ _ = _
        unfold mf_swapped_10_b mf_many
        rw [h16, nI_1, if_neg hge, a1, Option.bind_some, b1, Option.bind_some]
        dsimp only
        rw [eS, if_neg c2']
        rfl
theorem cr_swapped {h sp : Nat} {la : Option Nat} {I : zx_I} {L : zx_L} {J : zx_I} {M : zx_L} (hW : WR h sp I L J M) : CR mm_X9_swapped mm_X10_swapped [] h sp la I L J M := by
  obtain ⟨m, p, c, f, ct, q⟩ := hW
  have ha := hsp_h q.1
  have hct6 := q.2.2.1.2.1
  obtain ⟨w1, w2, w3, w4, w5⟩ := q.2.2.2.2.2.2.1
  obtain ⟨J1, f1, f2, f3, f4, f5, f6⟩ := ask_RR (n := 6000) (rule := 0) (by omega) q
  have hct := ct_X9_swapped (d := 3) (I := I) (L := L) (la := la) q.1 (KK_kr (I0 := q_ask I h 0) ha) (fun Jx a b hx => KK_ne ha (fun y hy _ => ch_ne hy) hx) (KK_of f2.1)
  have eL : q_L L 34 3 = M 0 9 := by
    unfold q_L
    simp [zx_uL, w4.1]
  have hX : SX h (J 3 11) m p c f ct (q_ask I h 0) J := by
    refine ⟨⟨J1, f2, f4, f5 8 (by decide)⟩, fun k hk => by rw [ask_35 ha hk]; exact w2 k hk, fun j hj => ?_, (ask_34 ha).2.2.2.2.1, rfl⟩
    rw [ask_9 ha (by omega), ask_ne (by omega) (by omega) (by omega)]
  obtain ⟨J2, b1, b2, b3, b4, S, hS, eS⟩ := sx_run (n := 6000) ha (by omega) eL hX
  obtain ⟨J3, r1, r2, r3, r4, r5⟩ := sw_spec (n := 6000) (K := fun x1_10 J_10 => some (x1_10, J_10)) ha (by omega) eL 5000 1000000 6000 S 0 0 _ J2 (by omega) (by omega) hS (by omega) (by omega) b2
  have eq : q_sw I L h = sw_loop h (q_L L) 1000000 (nI S) 0 (nI 0) (fr_end (q_ask I h 0) (q_L L) h).1 := by
    unfold q_sw
    rw [eS]
    rfl
  rw [← eq] at r1 r2 r4 r5
  have hask := ask_cW (I := I) (rule := 0) q.1
  have hcW : cW h sp I (q_sw I L h).2 := by
    refine cW_tr hask (cW_tr (cW_cfr q.1 b4) ⟨fun b _ _ _ _ _ z1 z2 => r4 b (by omega) (by omega) (by omega) (by omega) (by omega) (by omega) z2, fun b hb => r5 b hb 0 (by decide), fun i hi k hk => r5 _ (bt_of ha hi) k (by omega)⟩)
  have hmk := mk4_tr b3 r3
  have q2 : WRx h sp (q_sw I L h).2 (q_L L) (zr J3 4 (J 4)) M m p c f ct := WRx_cg q hcW (fun b hb => qL_34 b hb) ⟨fun b hb => by
    unfold zr
    by_cases u : b = 4
    · rw [if_pos u, u]
    · rw [if_neg u]
      exact hmk.1 b (by omega), hmk.2 0 (by decide), hmk.2 8 (by decide), hmk.2 11 (by decide)⟩
  refine cr_any (J' := J3) hct (mt_swapped (d := 1) (n := 6000) (p := ((q_sw I L h).1, J3)) ?_) ⟨m, p, c, f, ct, WRx_w q2 (fun b _ hb _ => zcp_ne hb) (fun _ _ => rfl) (fun b hb => (if_neg (by omega)).symm) ⟨rfl, rfl⟩ rfl ?_⟩
  · unfold mf_swapped
    rw [b1, Option.bind_some]
    dsimp only
    rw [eS]
    exact r1
  · obtain ⟨⟨J0, hR, -, -⟩, h4, -⟩ := r2
    obtain ⟨v1, v2, v3, v4, v5⟩ := q2.2.2.2.2.2.2.1
    have n24 : zcp (q_sw I L h).2 35 25 6 24 = (q_sw I L h).2 24 := zcp_ne (by decide)
    have n26 : zcp (q_sw I L h).2 35 25 6 (24 + 2) = (q_sw I L h).2 26 := zcp_ne (by decide)
    refine ⟨rowok_cg hct6 hR.1.2.2.2.2.2.1 (fun k hk => zcp_at hk), fun k hk => ?_, by rw [n24]; exact v3, v4, fun k hk => by rw [n26]; exact v5 k hk⟩
    rw [h4 k hk]
    exact (zcp_at hk).symm
