/-! told in both -/
def RX (h x : Nat) (rule may : Int32) (m p c f ct : Nat) (I J : zx_I) : Prop := RR h rule may m p c f ct (zx_uI I (h + 4 + x) 9 0) (zx_uI J 12 x 0)
theorem uI_uI {I : zx_I} {a k : Nat} {v w : Int32} : zx_uI (zx_uI I a k v) a k w = zx_uI I a k w := by
  funext b y
  simp only [zx_uI]
  by_cases u : b = a
  · rw [if_pos u, if_pos u]
    by_cases u2 : y = k
    · rw [if_pos u2, if_pos u2, if_pos u]
    · rw [if_neg u2, if_neg u2, if_pos u, if_neg u2]
  · rw [if_neg u, if_neg u, if_neg u]
theorem rr_set {h x : Nat} {rule may cx : Int32} {m p c f ct : Nat} {I J : zx_I} (ha : h = 4 ∨ h = 14) (hx : x < ct) (hc : rg cx 0 100) (q : RR h rule may m p c f ct I J) : RR h rule may m p c f ct (zx_uI I (h + 4 + x) 9 cx) (zx_uI J 12 x cx) := by
  obtain ⟨⟨⟨a1, a2⟩, ⟨b1, b2, b3⟩, a3, a4, a5, a6, a7, a8, a9⟩, hm⟩ := q
  have ne : ∀ b, b = h ∨ b = h + 1 ∨ b = h + 2 ∨ b = 34 ∨ b = 35 → zx_uI I (h + 4 + x) 9 cx b = I b := fun b hb => zx_uI_ne (by omega)
  have nk : ∀ i k, k ≠ 9 → zx_uI I (h + 4 + x) 9 cx (h + 4 + i) k = I (h + 4 + i) k := fun i k hk => by
    simp only [zx_uI]
    split
    · first | rfl | rw [if_neg hk]
    · rfl
  have hs : hsame I (zx_uI I (h + 4 + x) 9 cx) h := ⟨ne _ (by omega), ne _ (by omega), ne _ (by omega), fun i _ k hk => nk i k (by omega)⟩
  have mk : ∀ b, b ≠ 12 → zx_uI J 12 x cx b = J b := fun b hb => zx_uI_ne hb
  refine ⟨⟨⟨hvt_cg hs.1 a1, hvr_cg hs a2⟩, ⟨by rw [hs.1]; exact b1, b2, fun i hi => hvb_cg (fun k hk => nk i k (by omega)) (b3 i hi)⟩, fun k hk => by rw [mk 3 (by decide), ho_cg hs b2 hk]; exact a3 k hk, by rw [ne 34 (by omega), mk 0 (by decide)]; exact a4, fun k hk => by rw [ne 35 (by omega), mk 17 (by decide)]; exact a5 k hk, by rw [ne 35 (by omega)]; exact a6, fun j hj => ?_, ?_, by rw [ne 34 (by omega)]; exact a9⟩, by rw [ne 34 (by omega)]; exact hm⟩
  · by_cases u : j = x
    · subst u
      exact ⟨by simp [zx_uI], by simp [zx_uI]; exact hc⟩
    · rw [zx_uI_ne (show h + 4 + j ≠ h + 4 + x by omega), show zx_uI J 12 x cx 12 j = J 12 j by simp [zx_uI, u]]
      exact a7 j hj
  · unfold tpr
    rw [ne 34 (by omega), mk 0 (by decide)]
    exact a8
theorem rx_of {h x : Nat} {rule may : Int32} {m p c f ct : Nat} {I J : zx_I} (ha : h = 4 ∨ h = 14) (hx : x < ct) (q : RR h rule may m p c f ct I J) : RX h x rule may m p c f ct I J := rr_set ha hx ⟨0, rfl, by decide, by decide⟩ q
theorem rx_rr {h x : Nat} {rule may cx : Int32} {m p c f ct : Nat} {I J : zx_I} (ha : h = 4 ∨ h = 14) (hx : x < ct) (hc : rg cx 0 100) (q : RX h x rule may m p c f ct I J) : RR h rule may m p c f ct (zx_uI I (h + 4 + x) 9 cx) (zx_uI J 12 x cx) := by
  have := rr_set ha hx hc q
  rw [uI_uI, uI_uI] at this
  exact this
theorem rx_J {h x : Nat} {rule may cx : Int32} {m p c f ct : Nat} {I J : zx_I} (q : RX h x rule may m p c f ct I J) : RX h x rule may m p c f ct I (zx_uI J 12 x cx) := by
  unfold RX at q ⊢
  rw [uI_uI]
  exact q
/-- what such calls leave -/
def mk2 (J J' : zx_I) : Prop := (∀ b, b ≠ 0 → b ≠ 10 → b ≠ 11 → b ≠ 12 → b ≠ 13 → b ≠ 14 → b ≠ 15 → b ≠ 16 → b ≠ 19 → J' b = J b) ∧ ∀ k, k < 24 ∨ (27 < k ∧ k < 31) ∨ 33 < k → J' 0 k = J 0 k
theorem mk2_rf {J : zx_I} : mk2 J J := ⟨fun _ _ _ _ _ _ _ _ _ _ => rfl, fun _ _ => rfl⟩
theorem mk2_tr {J K N : zx_I} (h1 : mk2 J K) (h2 : mk2 K N) : mk2 J N := ⟨fun b z0 z1 z2 z3 z4 z5 z6 z7 z8 => (h2.1 b z0 z1 z2 z3 z4 z5 z6 z7 z8).trans (h1.1 b z0 z1 z2 z3 z4 z5 z6 z7 z8), fun k hk => (h2.2 k hk).trans (h1.2 k hk)⟩
theorem mk2_of {J K : zx_I} (h : mkeep J K) : mk2 J K := ⟨fun b z0 z1 z2 _ z4 z5 z6 z7 _ => h.1 b z0 z1 z2 z4 z5 z6 z7, h.2⟩
theorem mk2_u {J : zx_I} {x : Nat} {v : Int32} : mk2 J (zx_uI J 12 x v) := ⟨fun b _ _ _ z _ _ _ _ _ => zx_uI_ne z, fun k _ => by rw [zx_uI_ne (by decide)]⟩
theorem mW_mk2 {J K : zx_I} (q : mk2 J K) : mW J K := ⟨fun b hb => q.1 b (by omega) (by omega) (by omega) (by omega) (by omega) (by omega) (by omega) (by omega) (by omega), q.2 0 (by omega), q.2 8 (by omega), q.2 11 (by omega)⟩
def cf9 (I I' : zx_I) : Prop := (∀ b, b ≠ 36 → b ≠ 37 → b ≠ 38 → b ≠ 39 → b ≠ 40 → ¬ bt b → I' b = I b) ∧ ∀ b, bt b → ∀ k, k < 9 → I' b k = I b k
theorem cf9_rf {I : zx_I} : cf9 I I := ⟨fun _ _ _ _ _ _ _ => rfl, fun _ _ _ _ => rfl⟩
theorem cf9_tr {I J K : zx_I} (h1 : cf9 I J) (h2 : cf9 J K) : cf9 I K := ⟨fun b a1 a2 a3 a4 a5 a6 => (h2.1 b a1 a2 a3 a4 a5 a6).trans (h1.1 b a1 a2 a3 a4 a5 a6), fun b hb k hk => (h2.2 b hb k hk).trans (h1.2 b hb k hk)⟩
theorem cf9_of {I J : zx_I} (h : cfr I J) : cf9 I J := ⟨h.1, fun b hb k hk => h.2 b hb k (by omega)⟩
theorem cf9_u {I : zx_I} {w : Nat} {v : Int32} (hw : bt w) : cf9 I (zx_uI I w 9 v) := ⟨fun b _ _ _ _ _ z => zx_uI_ne (fun u => z (u ▸ hw)), fun b _ k hk => by
  simp only [zx_uI]
  split
  · rw [if_neg (by omega)]
  · rfl⟩
theorem cW_cf9 {h sp : Nat} {I J : zx_I} (hh : hsp h sp) (q : cf9 I J) : cW h sp I J := ⟨fun b _ _ _ _ _ z1 z2 => q.1 b (by omega) (by omega) (by omega) (by omega) (by omega) z2, fun b hb => q.2 b hb 0 (by decide), fun i hi k hk => q.2 _ (bt_of (hsp_h hh) hi) k hk⟩
theorem st_spec {n h x bb : Nat} {rule may x2 x3 x5 x6 : Int32} {m p c f ct : Nat} {L : zx_L} {M : zx_L} {K : Int32 → zx_I → Option (Int32 × zx_I)} (ha : h = 4 ∨ h = 14) (hn : 200 ≤ n) (hx : x < ct) (hct : ct ≤ 6) (hb : bb ≤ 60) (hL : L 34 3 = M 0 9) (hx2 : x2 = nI x) : ∀ (d t e : Nat) (s : Int32) (Jc Jm : zx_I), t + d = 6 → d < e → Jm 3 11 = may → (∀ k, k < 6 → Jm 5 k = Jc 26 k ∧ rg (Jc 26 k) 0 10) → RX h x rule may m p c f ct Jc Jm → ∃ Jm', mf_told_98 n rule x2 x3 x5 x6 (nI bb) M K e s (nI t) Jm = K (st_loop h (h + 4 + x) (nI bb) L d t s Jc).1 Jm' ∧ RX h x rule may m p c f ct (st_loop h (h + 4 + x) (nI bb) L d t s Jc).2 Jm' ∧ mk2 Jm Jm' ∧ cf9 Jc (st_loop h (h + 4 + x) (nI bb) L d t s Jc).2 := by
  intro d
  induction d with
  | zero =>
    intro t e s Jc Jm ht he h11 h5 hR
    obtain ⟨e, rfl⟩ : ∃ e9, e = e9 + 1 := ⟨e - 1, by omega⟩
    refine ⟨Jm, ?_, hR, mk2_rf, cf9_rf⟩
    show mf_told_98_b _ _ _ _ _ _ _ _ _ _ _ _ _ = _
    unfold mf_told_98_b
    rw [if_pos (show (6 : Int32) ≤ nI t from nI_le (a := 6) (by omega) (by omega))]
    rfl
  | succ d ih =>
    intro t e s Jc Jm ht he h11 h5 hR
    obtain ⟨e, rfl⟩ : ∃ e9, e = e9 + 1 := ⟨e - 1, by omega⟩
    obtain ⟨e5, y, ey, -, hy⟩ := h5 t (by omega)
    have hx6 : x < 6 := by omega
    have hbt : bt (h + 4 + x) := bt_of ha hx6
    rw [st_loop, nI_clamp (by omega)]
    by_cases u : y = 0
    · have u1 : Jc 26 t ≤ 0 := by rw [ey, u]; decide
      have u2 : Jm 5 t = 0 := by rw [e5, ey, u]; rfl
      rw [if_pos u1]
      obtain ⟨Jm', r1, r2, r3, r4⟩ := ih (t + 1) e s Jc (zx_uI Jm 12 x (nI bb + nI t)) (by omega) (by omega) (by rw [zx_uI_ne (by decide)]; exact h11) (fun k hk => by rw [zx_uI_ne (by decide)]; exact h5 k hk) (rx_J hR)
      refine ⟨Jm', ?_, r2, mk2_tr mk2_u r3, r4⟩
      refine Eq.trans ?_ r1
      show mf_told_98_b _ _ _ _ _ _ _ _ _ _ _ _ _ = _
      unfold mf_told_98_b
      rw [if_neg (show ¬ (6 : Int32) ≤ nI t from nI_ge (b := 6) (by omega) (by decide)), hx2, mo_g1 (mo_inN hx6 (by decide)), mo_g1 (mo_inN (by omega) (by decide)), nI_clamp (by omega), nI_clamp (by omega), if_pos u2, Int32.add_zero, ← nI_succ]
    · have u1 : ¬ Jc 26 t ≤ 0 := by rw [ey]; exact nI_nle (by omega) (by omega)
      have u2 : ¬ Jm 5 t = 0 := by rw [e5, ey]; exact nI_ne0 (by omega) (by omega)
      rw [if_neg u1]
      have hR2 := rx_rr (cx := nI bb + nI t) ha hx ⟨bb + t, nI_add _ _, by omega, by omega⟩ hR
      obtain ⟨J1, g1, g2, g3, g4, -⟩ := run_RR (n := n) L ha hn hR2
      rw [hL] at g1
      have k3 := mkeep_3 g3
      obtain ⟨Jm', r1, r2, r3, r4⟩ := ih (t + 1) e (s + Jc 26 t * fr_score (zx_uI Jc (h + 4 + x) 9 (nI bb + nI t)) L h) _ J1 (by omega) (by omega) (by rw [k3, zx_uI_ne (by decide)]; exact h11) (fun k hk => by
        rw [g3.1 5 (by decide) (by decide) (by decide) (by decide) (by decide) (by decide) (by decide), zx_uI_ne (by decide), g4.1 26 (by decide) (by decide) (by decide) (by decide) (by decide) (by unfold bt; decide), zx_uI_ne (by omega)]
        exact h5 k hk) (rx_of ha hx g2)
      refine ⟨Jm', ?_, r2, mk2_tr mk2_u (mk2_tr (mk2_of g3) r3), cf9_tr (cf9_u hbt) (cf9_tr (cf9_of g4) r4)⟩
      refine Eq.trans ?_ r1
      show mf_told_98_b _ _ _ _ _ _ _ _ _ _ _ _ _ = _
      unfold mf_told_98_b
      rw [if_neg (show ¬ (6 : Int32) ≤ nI t from nI_ge (b := 6) (by omega) (by decide)), hx2, mo_g1 (mo_inN hx6 (by decide)), mo_g1 (mo_inN (by omega) (by decide)), nI_clamp (by omega), nI_clamp (by omega), if_neg u2, mo_g1 (mo_inN (by omega) (by decide)), h11, g1, Option.bind_some, e5, ← nI_succ]
theorem tl_spec {n h x F : Nat} {rule may x2 x3 : Int32} {m p c f ct : Nat} {L : zx_L} {M : zx_L} {K : Int32 → Int32 → zx_I → Option (Int32 × zx_I)} (ha : h = 4 ∨ h = 14) (hn : 200 ≤ n) (hx : x < ct) (hct : ct ≤ 6) (hF : F ≤ 60) (hL : L 34 3 = M 0 9) (hx2 : x2 = nI x) : ∀ (d t e : Nat) (s mc mm : Int32) (Jc Jm : zx_I), t + d = F + 1 → d < e → Jm 3 11 = may → Jm 3 (17 + 8 * x + 4) = nI F → (∀ k, k < 6 → Jm 5 k = Jc 26 k ∧ rg (Jc 26 k) 0 10) → RX h x rule may m p c f ct Jc Jm → ((s = -4 ∧ 1 ≤ d) ∨ (¬ s = -4 ∧ mc = mm)) → ∃ mm' Jm', mf_told_81 n rule x2 x3 M K e s mm (nI t) Jm = K (tl_loop h (h + 4 + x) L d t s mc Jc).1 mm' Jm' ∧ (tl_loop h (h + 4 + x) L d t s mc Jc).2.1 = mm' ∧ mk2 Jm Jm' ∧ cf9 Jc (tl_loop h (h + 4 + x) L d t s mc Jc).2.2 := by
  intro d
  induction d with
  | zero =>
    intro t e s mc mm Jc Jm ht he h11 hf h5 hR hs
    obtain ⟨e, rfl⟩ : ∃ e9, e = e9 + 1 := ⟨e - 1, by omega⟩
    refine ⟨mm, Jm, ?_, (hs.resolve_left (fun w => by omega)).2, mk2_rf, cf9_rf⟩
    show mf_told_81_b _ _ _ _ _ _ _ _ _ _ _ = _
    unfold mf_told_81_b
    rw [hx2, show (4 : Int32) = nI 4 from rfl, mf_of_ok (by omega) (by decide), Option.bind_some, hf, if_pos (nI_lt (by omega) (by omega))]
    rfl
  | succ d ih =>
    intro t e s mc mm Jc Jm ht he h11 hf h5 hR hs
    obtain ⟨e, rfl⟩ : ∃ e9, e = e9 + 1 := ⟨e - 1, by omega⟩
    obtain ⟨J1, g1, g2, g3, g4⟩ := st_spec (n := n) (x2 := x2) (x3 := x3) (x5 := s) (x6 := mm) (K := fun x8_98 J_98 => (if s = (-4 : Int32) then mf_told_81 n rule x2 x3 M K e (nI t) x8_98 (nI t + 1) J_98 else (if mm < x8_98 then mf_told_81 n rule x2 x3 M K e s mm (nI t + 1) J_98 else mf_told_81 n rule x2 x3 M K e (nI t) x8_98 (nI t + 1) J_98))) ha hn hx hct (show t ≤ 60 by omega) hL hx2 6 0 n 0 Jc Jm rfl (by omega) h11 h5 hR
    have k3 : J1 3 = Jm 3 := g3.1 3 (by decide) (by decide) (by decide) (by decide) (by decide) (by decide) (by decide) (by decide) (by decide)
    have h5' : ∀ k, k < 6 → J1 5 k = (st_loop h (h + 4 + x) (nI t) L 6 0 0 Jc).2 26 k ∧ rg ((st_loop h (h + 4 + x) (nI t) L 6 0 0 Jc).2 26 k) 0 10 := fun k hk => by
      rw [g3.1 5 (by decide) (by decide) (by decide) (by decide) (by decide) (by decide) (by decide) (by decide) (by decide), g4.1 26 (by decide) (by decide) (by decide) (by decide) (by decide) (by unfold bt; decide)]
      exact h5 k hk
    have body : mf_told_81 n rule x2 x3 M K (e + 1) s mm (nI t) Jm = (if s = (-4 : Int32) then mf_told_81 n rule x2 x3 M K e (nI t) (st_loop h (h + 4 + x) (nI t) L 6 0 0 Jc).1 (nI t + 1) J1 else (if mm < (st_loop h (h + 4 + x) (nI t) L 6 0 0 Jc).1 then mf_told_81 n rule x2 x3 M K e s mm (nI t + 1) J1 else mf_told_81 n rule x2 x3 M K e (nI t) (st_loop h (h + 4 + x) (nI t) L 6 0 0 Jc).1 (nI t + 1) J1)) := by
      refine Eq.trans ?_ g1
      show mf_told_81_b _ _ _ _ _ _ _ _ _ _ _ = _
      unfold mf_told_81_b
      rw [hx2, show (4 : Int32) = nI 4 from rfl, mf_of_ok (by omega) (by decide), Option.bind_some, hf, if_neg (nI_nlt (by omega) (by omega))]
      rfl
    rw [body, tl_loop, ← nI_succ]
    have upd : ∃ mm' Jm', mf_told_81 n rule x2 x3 M K e (nI t) (st_loop h (h + 4 + x) (nI t) L 6 0 0 Jc).1 (nI (t + 1)) J1 = K (tl_loop h (h + 4 + x) L d (t + 1) (nI t) (st_loop h (h + 4 + x) (nI t) L 6 0 0 Jc).1 (st_loop h (h + 4 + x) (nI t) L 6 0 0 Jc).2).1 mm' Jm' ∧ (tl_loop h (h + 4 + x) L d (t + 1) (nI t) (st_loop h (h + 4 + x) (nI t) L 6 0 0 Jc).1 (st_loop h (h + 4 + x) (nI t) L 6 0 0 Jc).2).2.1 = mm' ∧ mk2 J1 Jm' ∧ cf9 (st_loop h (h + 4 + x) (nI t) L 6 0 0 Jc).2 (tl_loop h (h + 4 + x) L d (t + 1) (nI t) (st_loop h (h + 4 + x) (nI t) L 6 0 0 Jc).1 (st_loop h (h + 4 + x) (nI t) L 6 0 0 Jc).2).2.2 :=
      ih (t + 1) e (nI t) _ _ _ J1 (by omega) (by omega) (by rw [k3]; exact h11) (by rw [k3]; exact hf) h5' g2 (Or.inr ⟨nI_ne4 (by omega), rfl⟩)
    by_cases u : s = -4 ∨ ¬ (st_loop h (h + 4 + x) (nI t) L 6 0 0 Jc).1 > mc
    · rw [if_pos u]
      obtain ⟨mm', Jm', r1, r2, r3, r4⟩ := upd
      refine ⟨mm', Jm', ?_, r2, mk2_tr g3 r3, cf9_tr g4 r4⟩
      by_cases v : s = -4
      · rw [if_pos v]
        exact r1
      · obtain ⟨-, hmm⟩ := hs.resolve_left (fun w => v w.1)
        rw [if_neg v, if_neg (by rw [← hmm]; exact u.resolve_left v)]
        exact r1
    · rw [if_neg u]
      have v : ¬ s = -4 := fun w => u (Or.inl w)
      obtain ⟨-, hmm⟩ := hs.resolve_left (fun w => v w.1)
      obtain ⟨mm', Jm', r1, r2, r3, r4⟩ := ih (t + 1) e s mc mm _ J1 (by omega) (by omega) (by rw [k3]; exact h11) (by rw [k3]; exact hf) h5' g2 (Or.inr ⟨v, hmm⟩)
      refine ⟨mm', Jm', ?_, r2, mk2_tr g3 r3, cf9_tr g4 r4⟩
      rw [if_neg v, if_pos (by rw [← hmm]; exact Classical.byContradiction (fun w => u (Or.inr w)))]
      exact r1
theorem tn_loop {n : Nat} {x1 x2 x3 : Int32} {I J : zx_I} {M : zx_L} {K : Int32 → Option (Int32 × zx_I)} (h5 : ∀ k, k < 6 → J 5 k = I 26 k) : ∀ (d j e : Nat), j + d = 6 → d < e → mf_told_32 n x1 x2 x3 J M K e (ut_sum (I 26) j) (nI j) = K (ut_sum (I 26) 6) := by
  intro d
  induction d with
  | zero =>
    intro j e hj he
    obtain ⟨e, rfl⟩ : ∃ e9, e = e9 + 1 := ⟨e - 1, by omega⟩
    have : j = 6 := by omega
    subst this
    show mf_told_32_b _ _ _ _ _ _ _ _ _ _ = _
    unfold mf_told_32_b
    rw [if_pos (show (6 : Int32) ≤ nI 6 by decide)]
  | succ d ih =>
    intro j e hj he
    obtain ⟨e, rfl⟩ : ∃ e9, e = e9 + 1 := ⟨e - 1, by omega⟩
    refine Eq.trans ?_ (ih (j + 1) e (by omega) (by omega))
    show mf_told_32_b _ _ _ _ _ _ _ _ _ _ = _
    unfold mf_told_32_b
    rw [if_neg (show ¬ (6 : Int32) ≤ nI j from nI_ge (b := 6) (by omega) (by decide)), mo_g1 (mo_inN (by omega) (by decide)), nI_clamp (by omega), h5 j (by omega), ← nI_succ]
    rfl
theorem cr_told {h sp : Nat} {la : Option Nat} {I : zx_I} {L : zx_L} {J : zx_I} {M : zx_L} (rule i what : Int32) (hW : WR h sp I L J M) : CR mm_X9_told mm_X10_told [.int rule, .int i, .int what] h sp la I L J M := by
  have hW0 := hW
  obtain ⟨m, p, c, f, ct, q⟩ := hW
  have ha := hsp_h q.1
  have e13 := q.2.2.1.1
  have hct6 := q.2.2.1.2.1
  have h16 : J 3 16 = nI ct := (q.2.2.2.1 16 (by omega)).trans e13
  obtain ⟨w1', w2', w3', w4', w5'⟩ := q.2.2.2.2.2.2.1
  have bad : q_tdok I h rule i what = none → mf_told 200 rule i what J M = some (-1, J) → CR mm_X9_told mm_X10_told [.int rule, .int i, .int what] h sp la I L J M := fun b1 b2 => cr_ret (J' := J) (ct_X9_told_bad (d := 7) q.1 b1) (mt_told (d := 2) b2) hW0
  by_cases c1 : q_rule rule = 0
  · refine bad ?_ ?_
    · unfold q_tdok
      rw [c1]
      split
      · rfl
      · exact if_pos rfl
    · unfold mf_told
      rw [if_pos (show mf_isRule rule = 0 from c1)]
  · have c1' : ¬ mf_isRule rule = 0 := c1
    rcases who_cs i e13 hct6 h16 with ⟨w1, w2⟩ | ⟨x, hx, rfl, w1, w2⟩
    · refine bad ?_ ?_
      · unfold q_tdok
        rw [w1]
      · unfold mf_told
        rw [if_neg c1', if_pos w2]
    · rcases in_cs (x := what) (a := 0) (b := 1) with ⟨z, z1⟩ | ⟨z, z1, z2⟩
      · refine bad ?_ ?_
        · unfold q_tdok
          rw [w1]
          show (if q_rule rule = 0 then none else if what < 0 then none else if what ≤ 1 then some (h + 4 + x) else none) = none
          rw [if_neg c1]
          by_cases y : what < 0
          · rw [if_pos y]
          · rw [if_neg y, if_neg (fun w => nlt_le.mpr w (z1.resolve_left y))]
        · unfold mf_told
          rw [if_neg c1', if_neg (by rw [w2]; decide), if_pos z]
      · have ok : q_tdok I h rule (nI x) what = some (h + 4 + x) := by
          unfold q_tdok
          rw [w1]
          show (if q_rule rule = 0 then none else if what < 0 then none else if what ≤ 1 then some (h + 4 + x) else none) = _
          rw [if_neg c1, if_neg z1, if_pos (nlt_le.mp z2)]
        have hT : mf_told 200 rule (nI x) what J M = if ut_sum (I 26) 6 = 10 then ((mf_asTold 200 J).bind fun p68 => (mf_told_81 200 rule (nI x) what M (fun x5_81 x6_81 J_81 => (if what = 0 then some (x5_81, J_81) else some (x6_81, J_81))) 200 (-4 : Int32) (0 : Int32) (0 : Int32) p68)) else some ((-2 : Int32), J) := by
          unfold mf_told
          rw [if_neg c1', if_neg (by rw [w2]; decide), if_neg (by rw [z]; decide)]
          exact tn_loop (I := I) (fun k hk => (w5' k hk).1) 6 0 200 rfl (by omega)
        by_cases hs : ut_sum (I 26) 6 = 10
        · rw [if_pos hs] at hT
          obtain ⟨J1, f1, f2, f3, f4, f5, f6⟩ := ask_RR (n := 200) (rule := rule) (by omega) q
          obtain ⟨F, eF, -, hF⟩ := (q.2.2.1.2.2 x hx).2.2.2.2.1
          have hx6 : x < 6 := by omega
          have hct := ct_X9_told (d := 2) (I := I) (L := L) (la := la) q.1 ok hs (KK_kr (I0 := q_ask I h rule) ha) (fun Jx v hj => KK_9 ha hx6 Jx v hj) hF (fun Jx hj => by
            rw [hj.2.2 x hx6 5 (by decide), ask_ne (by omega) (by omega) (by omega)]
            exact eF) (KK_of f2.1)
          have eL : q_L L 34 3 = M 0 9 := by
            unfold q_L
            simp [zx_uL, w4'.1]
          obtain ⟨mm', J2, r1, r2, r3, r4⟩ := tl_spec (n := 200) (x2 := nI x) (x3 := what) (K := fun x5_81 x6_81 J_81 => (if what = 0 then some (x5_81, J_81) else some (x6_81, J_81))) (L := q_L L) ha (by omega) hx hct6 hF eL rfl (F + 1) 0 200 (-4) (-4) 0 (q_ask I h rule) J1 (by omega) (by omega) (by rw [f4]) (by rw [f4, hrl_b q.2.2.2.1 hx (by decide)]; exact eF) (fun k hk => by
            rw [f6 5 (by decide) (by decide) (by decide), ask_ne (by decide) (by decide) (by omega)]
            exact w5' k hk) (rx_of ha hx f2) (Or.inl ⟨rfl, by omega⟩)
          refine cr_any (J' := J2) hct (mt_told (d := 2) (n := 200) (p := (if what ≠ 0 then (q_td I L h (h + 4 + x) F rule).2.1 else (q_td I L h (h + 4 + x) F rule).1, J2)) ?_) ⟨m, p, c, f, ct, WRx_cg q (cW_tr (ask_cW q.1) (cW_cf9 q.1 r4)) (fun b hb => qL_34 b hb) (mW_tr f3 (mW_mk2 r3))⟩
          rw [hT, f1, Option.bind_some]
          refine r1.trans ?_
          unfold q_td
          rw [r2]
          by_cases u : what = 0
          · rw [if_pos u, if_neg (show ¬ what ≠ 0 from fun w => w u)]
          · rw [if_neg u, if_pos u]
        · rw [if_neg hs] at hT
          exact cr_ret (J' := J) (ct_X9_told_no (d := 7) q.1 ok hs) (mt_told (d := 2) hT) hW0
