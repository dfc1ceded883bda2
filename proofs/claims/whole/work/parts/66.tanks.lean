theorem in_z {v hi : Nat} {lo : Int32} {h : Int32} (hh : h = nI hi) : mf_in (nI v) lo h = mf_in (nI v) lo (nI hi) := by rw [hh]
/-- two numbers: the kettle -/
def Bk : List Nat → Int32 × Int32 := fun acc => if acc.length = 0 then (0, 20) else (1, 30)
theorem it_kettle {a l n9 : Nat} {T : Nat → Nat} {I J : zx_I} {m p c f ct pos p0 : Nat} (ha : a = 4 ∨ a = 14) (hn : 200 ≤ n9) (q : PS a l T false I J m p c f ct pos) (hp0 : p0 + 1 ≤ l) {J1 : zx_I} (hf1 : fr3 J J1) (hf2 : ∀ z, J1 2 z = J 2 z) (h2 : J1 0 2 = nI (p0 + 1)) : IT a l T I J1 p0 (seq9 n9 13 [(fun _ => 0, 20), (fun _ => 1, 30)] J1) (fun I' => tk_if (ti_kettle I') (tm_kettle I' a)) := by
  have htx : tx l T I J1 := tx_cg q.1 rfl rfl (hf1.2 0 (by decide) (by decide) (by decide)) (hf1.1 1 (by decide) (by decide))
  obtain ⟨b, J2, r1, r2, r4⟩ := seq_spec (A0 := 13) (B := Bk) htx hn [(fun _ => 1, 30)] (fun _ => 0, 20) 0 (p0 + 1) [] J1 rfl (fun s hs => by omega) ⟨fun acc J hacc _ => by unfold Bk; rw [if_pos hacc]; exact ⟨rfl, rfl⟩, fun acc J hacc _ => by unfold Bk; rw [if_neg (by omega)]; exact ⟨rfl, rfl⟩, trivial⟩ (by decide) hp0 fr2_rf h2
  obtain ⟨n1, n2⟩ := run_is (l := l) (T := T) (B := Bk) 1 6 [] (p0 + 1) (by decide)
  refine ⟨b, J2, r1, fr3_of r2, r2.2 3 (by decide) (by decide), ?_⟩
  rcases r4 with ⟨s1, s2⟩ | ⟨s1, ws, e, s2, s3, s4, s5⟩
  · refine Or.inl ⟨s1, fun vs e I' hns hV => tk_if_f (fun w => ?_)⟩
    obtain ⟨w1, w2, w3⟩ := w
    rw [hV.1] at w1
    have hl : vs.length = 2 := (nI_eq (b := 2) (by have := hV.2.2.2.2.2; omega) (by decide)).mp w1
    obtain ⟨t, t1, t2⟩ := n2 s2 vs e hns hl
    obtain ⟨v0, v1, rfl⟩ := len2 hl
    have e0 := fin_at (lo := 0) (hi := 20) hV (t := 0) (Nat.le_of_ble_eq_true rfl)
    have e1 := fin_at (lo := 1) (hi := 30) hV (t := 1) (Nat.le_of_ble_eq_true rfl)
    rcases (show t = 0 ∨ t = 1 by omega) with rfl | rfl
    · exact w2 (e0.trans t2)
    · exact w3 (e1.trans t2)
  · obtain ⟨vs, hns, hl, hw, hin⟩ := n1 ws e s2
    obtain ⟨v0, v1, rfl⟩ := len2 hl
    rw [List.nil_append] at hw
    subst hw
    have i0 : mf_in (nI v0) (nI 0) (nI 20) = 1 := hin 0 (by decide)
    have i1 : mf_in (nI v1) (nI 1) (nI 30) = 1 := hin 1 (by decide)
    refine Or.inr ⟨s1, [v0, v1], e, hns, fun I' hV => ?_⟩
    have b0 : v0 < 10000 := (hV.2.2.1 0 (Nat.le_of_ble_eq_true rfl)).2
    have b1 : v1 < 10000 := (hV.2.2.1 1 (Nat.le_of_ble_eq_true rfl)).2
    obtain ⟨-, g0⟩ := in_rg b0 (by decide) (by decide) i0
    obtain ⟨g1, g1'⟩ := in_rg b1 (by decide) (by decide) i1
    have e0 : fi_num I' 0 = nI v0 := num_at hV (t := 0) (Nat.le_of_ble_eq_true rfl)
    have e1 : fi_num I' 1 = nI v1 := num_at hV (t := 1) (Nat.le_of_ble_eq_true rfl)
    have one : ∀ {x : Int32}, x = 1 → ¬ x = 0 := fun {x} hx => by rw [hx]; decide
    have ok : ti_kettle I' := ⟨by rw [hV.1]; rfl, one ((fin_at (lo := 0) (hi := 20) hV (t := 0) (Nat.le_of_ble_eq_true rfl)).trans i0), one ((fin_at (lo := 1) (hi := 30) hV (t := 1) (Nat.le_of_ble_eq_true rfl)).trans i1)⟩
    refine ⟨tm_kettle I' a, tk_if_t ok, ?_, m, p, c, f, ct, ?_⟩
    · unfold tm_kettle
      exact ⟨fun b z2 z3 za _ _ _ => by rw [zx_uI_ne za, zx_uI_ne za, hV.2.2.2.1 b z2 z3], fun i hi => by rw [zx_uI_ne (by omega), zx_uI_ne (by omega), hV.2.2.2.1 _ (by omega) (by omega)]⟩
    · obtain ⟨q1, q2, ⟨q3, q4⟩, q5, ⟨q6, q7, q8⟩, q9, q10, q11⟩ := id q
      obtain ⟨d1, d2, d3, d4, d5, d6, d7, -⟩ := q4
      have ea : ∀ z, tm_kettle I' a a z = if z = 10 then nI v1 else if z = 9 then nI v0 else I a z := fun z => by
        unfold tm_kettle
        rw [e0, e1]
        simp only [zx_uI, if_pos]
        rw [hV.2.2.2.1 a (by omega) (by omega)]
      have ne : ∀ z, z ≠ 9 → z ≠ 10 → tm_kettle I' a a z = I a z := fun z h9 h10 => by rw [ea, if_neg h10, if_neg h9]
      have nb' : ∀ b, b ≠ 2 → b ≠ 3 → b ≠ a → tm_kettle I' a b = I b := fun b z2 z3 za => by
        unfold tm_kettle
        rw [zx_uI_ne za, zx_uI_ne za, hV.2.2.2.1 b z2 z3]
      have je : ∀ z, z < 13 ∨ 15 ≤ z → J2 2 z = J 2 z := fun z hz => by rw [s5 z (by show z < 13 + 0 ∨ 13 + 0 + 1 + 1 ≤ z; omega), hf2]
      have en : e ≤ l := by
        obtain ⟨v, i', vs', w1, w2, w3⟩ := ns_two hns (Nat.le_of_ble_eq_true rfl)
        cases w3
        obtain ⟨-, n3, -, -⟩ := nb_is hp0 w1
        exact (nb_is n3 (ns_one w2)).2.1
      refine PS_a ha q nb' (ne 13 (by decide) (by decide)) (by rw [ne 0 (by decide) (by decide)]; exact q2) ?_ (by rw [ne 5 (by decide) (by decide)]; exact d1) (by rw [ne 8 (by decide) (by decide)]; exact d3) (by rw [ea, if_neg (by decide), if_pos rfl]; exact ⟨v0, rfl, Nat.zero_le _, by omega⟩) (by rw [ea, if_pos rfl]; exact ⟨v1, rfl, g1, g1'⟩) (by rw [ne 11 (by decide) (by decide)]; exact d6) (by rw [ne 12 (by decide) (by decide)]; exact d7) (fun z hz => ?_) (fun z hz => je z (by omega)) (fr3_tr hf1 (fr3_of r2)) s3 en
      · unfold hvt
        rw [ne 1 (by decide) (by decide), ne 2 (by decide) (by decide), ne 3 (by decide) (by decide), ne 4 (by decide) (by decide)]
        exact q3
      · have o1 := nb' (a + 1) (by omega) (by omega) (by omega)
        have o2 := nb' (a + 2) (by omega) (by omega) (by omega)
        have j13 : J2 2 13 = nI v0 := s4 0 (Nat.le_of_ble_eq_true rfl)
        have j14 : J2 2 14 = nI v1 := s4 1 (Nat.le_of_ble_eq_true rfl)
        rcases (show z = 13 ∨ z = 14 ∨ (z < 13 ∨ 15 ≤ z) by omega) with rfl | rfl | hz'
        · rw [j13]
          show nI v0 = tm_kettle I' a a 9
          rw [ea, if_neg (by decide), if_pos rfl]
        · rw [j14]
          show nI v1 = tm_kettle I' a a 10
          rw [ea, if_pos rfl]
        · rw [je z hz', q9 z (by omega)]
          rcases (show z = 0 ∨ z = 1 ∨ z = 2 ∨ z = 3 ∨ z = 4 ∨ z = 5 ∨ z = 6 ∨ z = 7 ∨ z = 8 ∨ z = 9 ∨ z = 10 ∨ z = 11 ∨ z = 12 ∨ z = 15 ∨ z = 16 by omega) with rfl | rfl | rfl | rfl | rfl | rfl | rfl | rfl | rfl | rfl | rfl | rfl | rfl | rfl | rfl <;> simp only [ho, o1, o2] <;> exact (ne _ (by decide) (by decide)).symm
theorem ns_end {l : Nat} {T : Nat → Nat} : ∀ (k i : Nat) (vs : List Nat) (e : Nat), i ≤ l → ns l T k i = some (vs, e) → e ≤ l := by
  intro k
  induction k with
  | zero =>
    intro i vs e _ h
    cases h
  | succ k ih =>
    intro i vs e hi h
    rw [ns] at h
    cases h44 : nb l T i 44 with
    | some q =>
      rw [h44] at h
      dsimp only at h
      obtain ⟨-, n2, -, -⟩ := nb_is (v := q.1) (e := q.2) hi h44
      cases hn : ns l T k q.2 with
      | some q2 =>
        rw [hn] at h
        cases h
        exact ih q.2 q2.1 q2.2 n2 hn
      | none =>
        rw [hn] at h
        cases h
    | none =>
      rw [h44] at h
      dsimp only at h
      cases h59 : nb l T i 59 with
      | some q =>
        rw [h59] at h
        cases h
        exact (nb_is (v := q.1) (e := q.2) hi h59).2.1
      | none =>
        rw [h59] at h
        cases h
/-- five numbers: the tank -/
def Bt : List Nat → Int32 × Int32 := fun acc => if acc.length = 0 then (1, 6) else if acc.length = 1 then (1, 60) else if acc.length = 2 then (0, 40) else if acc.length = 3 then (nI (acc.getD 2 0), 95) else (0, 999)
theorem it_tank {a l n9 : Nat} {T : Nat → Nat} {I J : zx_I} {m p c f ct pos p0 : Nat} (ha : a = 4 ∨ a = 14) (hn : 200 ≤ n9) (q : PS a l T true I J m p c f ct pos) (hp0 : p0 + 1 ≤ l) {J1 : zx_I} (hf1 : fr3 J J1) (hf2 : ∀ z, J1 2 z = J 2 z) (h2 : J1 0 2 = nI (p0 + 1)) : IT a l T I J1 p0 (seq9 n9 0 [(fun _ => 1, 6), (fun _ => 1, 60), (fun _ => 0, 40), (fun J => J 2 2, 95), (fun _ => 0, 999)] J1) (fun I' => tk_if (ti_tank I') (tm_tank I' a)) := by
  have htx : tx l T I J1 := tx_cg q.1 rfl rfl (hf1.2 0 (by decide) (by decide) (by decide)) (hf1.1 1 (by decide) (by decide))
  obtain ⟨b, J2, r1, r2, r4⟩ := seq_spec (A0 := 0) (B := Bt) htx hn [(fun _ => 1, 60), (fun _ => 0, 40), (fun J => J 2 2, 95), (fun _ => 0, 999)] (fun _ => 1, 6) 0 (p0 + 1) [] J1 rfl (fun s hs => by omega)
    ⟨fun acc J hacc _ => by unfold Bt; rw [if_pos hacc]; exact ⟨rfl, rfl⟩, fun acc J hacc _ => by unfold Bt; rw [if_neg (by omega), if_pos hacc]; exact ⟨rfl, rfl⟩, fun acc J hacc _ => by unfold Bt; rw [if_neg (by omega), if_neg (by omega), if_pos hacc]; exact ⟨rfl, rfl⟩, fun acc J hacc hj => by unfold Bt; rw [if_neg (by omega), if_neg (by omega), if_neg (by omega), if_pos hacc]; exact ⟨hj 2 (by decide), rfl⟩, fun acc J hacc _ => by unfold Bt; rw [if_neg (by omega), if_neg (by omega), if_neg (by omega), if_neg (by omega)]; exact ⟨rfl, rfl⟩, trivial⟩ (by decide) hp0 fr2_rf h2
  obtain ⟨n1, n2⟩ := run_is (l := l) (T := T) (B := Bt) 4 6 [] (p0 + 1) (by decide)
  refine ⟨b, J2, r1, fr3_of r2, r2.2 3 (by decide) (by decide), ?_⟩
  rcases r4 with ⟨s1, s2⟩ | ⟨s1, ws, e, s2, s3, s4, s5⟩
  · refine Or.inl ⟨s1, fun vs e I' hns hV => tk_if_f (fun w => ?_)⟩
    obtain ⟨w1, w2, w3, w4, w5, w6⟩ := w
    rw [hV.1] at w1
    have hl : vs.length = 5 := (nI_eq (b := 5) (by have := hV.2.2.2.2.2; omega) (by decide)).mp w1
    obtain ⟨t, t1, t2⟩ := n2 s2 vs e hns hl
    obtain ⟨v0, v1, v2, v3, v4, rfl⟩ := len5 hl
    have e2 : fi_num I' 2 = nI v2 := num_at hV (t := 2) (Nat.le_of_ble_eq_true rfl)
    rw [e2] at w5
    rcases (show t = 0 ∨ t = 1 ∨ t = 2 ∨ t = 3 ∨ t = 4 by omega) with rfl | rfl | rfl | rfl | rfl
    · exact w2 ((fin_at (lo := 1) (hi := 6) hV (t := 0) (Nat.le_of_ble_eq_true rfl)).trans t2)
    · exact w3 ((fin_at (lo := 1) (hi := 60) hV (t := 1) (Nat.le_of_ble_eq_true rfl)).trans t2)
    · exact w4 ((fin_at (lo := 0) (hi := 40) hV (t := 2) (Nat.le_of_ble_eq_true rfl)).trans t2)
    · exact w5 ((fin_at (lo := nI v2) (hi := 95) hV (t := 3) (Nat.le_of_ble_eq_true rfl)).trans t2)
    · exact w6 ((fin_at (lo := 0) (hi := 999) hV (t := 4) (Nat.le_of_ble_eq_true rfl)).trans t2)
  · obtain ⟨vs, hns, hl, hw, hin⟩ := n1 ws e s2
    obtain ⟨v0, v1, v2, v3, v4, rfl⟩ := len5 hl
    rw [List.nil_append] at hw
    subst hw
    have i0 : mf_in (nI v0) (nI 1) (nI 6) = 1 := hin 0 (by decide)
    have i1 : mf_in (nI v1) (nI 1) (nI 60) = 1 := hin 1 (by decide)
    have i2 : mf_in (nI v2) (nI 0) (nI 40) = 1 := hin 2 (by decide)
    have i3 : mf_in (nI v3) (nI v2) (nI 95) = 1 := hin 3 (by decide)
    have i4 : mf_in (nI v4) (nI 0) (nI 999) = 1 := hin 4 (by decide)
    refine Or.inr ⟨s1, [v0, v1, v2, v3, v4], e, hns, fun I' hV => ?_⟩
    have b0 : v0 < 10000 := (hV.2.2.1 0 (Nat.le_of_ble_eq_true rfl)).2
    have b1 : v1 < 10000 := (hV.2.2.1 1 (Nat.le_of_ble_eq_true rfl)).2
    have b2 : v2 < 10000 := (hV.2.2.1 2 (Nat.le_of_ble_eq_true rfl)).2
    have b3 : v3 < 10000 := (hV.2.2.1 3 (Nat.le_of_ble_eq_true rfl)).2
    have b4 : v4 < 10000 := (hV.2.2.1 4 (Nat.le_of_ble_eq_true rfl)).2
    obtain ⟨g0, g0'⟩ := in_rg b0 (by decide) (by decide) i0
    obtain ⟨g1, g1'⟩ := in_rg b1 (by decide) (by decide) i1
    obtain ⟨-, g2⟩ := in_rg b2 (by decide) (by decide) i2
    obtain ⟨g3, g3'⟩ := in_rg b3 (by omega) (by decide) i3
    obtain ⟨-, g4⟩ := in_rg b4 (by decide) (by decide) i4
    have e0 : fi_num I' 0 = nI v0 := num_at hV (t := 0) (Nat.le_of_ble_eq_true rfl)
    have e1 : fi_num I' 1 = nI v1 := num_at hV (t := 1) (Nat.le_of_ble_eq_true rfl)
    have e2 : fi_num I' 2 = nI v2 := num_at hV (t := 2) (Nat.le_of_ble_eq_true rfl)
    have e3 : fi_num I' 3 = nI v3 := num_at hV (t := 3) (Nat.le_of_ble_eq_true rfl)
    have e4 : fi_num I' 4 = nI v4 := num_at hV (t := 4) (Nat.le_of_ble_eq_true rfl)
    have one : ∀ {x : Int32}, x = 1 → ¬ x = 0 := fun {x} hx => by rw [hx]; decide
    have ok : ti_tank I' := ⟨by rw [hV.1]; rfl, one ((fin_at (lo := 1) (hi := 6) hV (t := 0) (Nat.le_of_ble_eq_true rfl)).trans i0), one ((fin_at (lo := 1) (hi := 60) hV (t := 1) (Nat.le_of_ble_eq_true rfl)).trans i1), one ((fin_at (lo := 0) (hi := 40) hV (t := 2) (Nat.le_of_ble_eq_true rfl)).trans i2), by rw [e2]; exact one ((fin_at (lo := nI v2) (hi := 95) hV (t := 3) (Nat.le_of_ble_eq_true rfl)).trans i3), one ((fin_at (lo := 0) (hi := 999) hV (t := 4) (Nat.le_of_ble_eq_true rfl)).trans i4)⟩
    have ea : ∀ z, tm_tank I' a a z = if z = 0 then 1 else if z = 5 then nI v4 else if z = 4 then nI v3 else if z = 3 then nI v2 else if z = 2 then nI v1 else if z = 1 then nI v0 else I a z := fun z => by
      unfold tm_tank
      rw [e0, e1, e2, e3, e4]
      simp only [zx_uI, if_pos]
      rw [hV.2.2.2.1 a (by omega) (by omega)]
    have nb' : ∀ b, b ≠ 2 → b ≠ 3 → b ≠ a → tm_tank I' a b = I b := fun b z2 z3 za => by
      unfold tm_tank
      rw [zx_uI_ne za, zx_uI_ne za, zx_uI_ne za, zx_uI_ne za, zx_uI_ne za, zx_uI_ne za, hV.2.2.2.1 b z2 z3]
    refine ⟨tm_tank I' a, tk_if_t ok, ⟨fun b z2 z3 za _ _ _ => nb' b z2 z3 za, fun i hi => by rw [nb' _ (by omega) (by omega) (by omega)]⟩, v0, v1, v2, v3, ct, ?_⟩
    obtain ⟨q1, q2, ⟨q3, q4⟩, q5, ⟨q6, q7, q8⟩, q9, q10, q11⟩ := id q
    obtain ⟨d1, d2, d3, d4, d5, d6, d7, -⟩ := q4
    have ne : ∀ z, 6 ≤ z → tm_tank I' a a z = I a z := fun z hz => by rw [ea, if_neg (by omega), if_neg (by omega), if_neg (by omega), if_neg (by omega), if_neg (by omega), if_neg (by omega)]
    have je : ∀ z, 5 ≤ z → J2 2 z = J 2 z := fun z hz => by rw [s5 z (by show z < 0 + 0 ∨ 0 + 0 + 4 + 1 ≤ z; omega), hf2]
    have j0 : J2 2 0 = nI v0 := s4 0 (Nat.le_of_ble_eq_true rfl)
    have j1 : J2 2 1 = nI v1 := s4 1 (Nat.le_of_ble_eq_true rfl)
    have j2 : J2 2 2 = nI v2 := s4 2 (Nat.le_of_ble_eq_true rfl)
    have j3 : J2 2 3 = nI v3 := s4 3 (Nat.le_of_ble_eq_true rfl)
    have j4 : J2 2 4 = nI v4 := s4 4 (Nat.le_of_ble_eq_true rfl)
    have k0 : tm_tank I' a a 1 = nI v0 := by rw [ea]; rfl
    have k1 : tm_tank I' a a 2 = nI v1 := by rw [ea]; rfl
    have k2 : tm_tank I' a a 3 = nI v2 := by rw [ea]; rfl
    have k3 : tm_tank I' a a 4 = nI v3 := by rw [ea]; rfl
    have k4 : tm_tank I' a a 5 = nI v4 := by rw [ea]; rfl
    refine PS_a ha q nb' (ne 13 (by decide)) (by rw [ea, if_pos rfl]) ⟨k0, k1, k2, k3, g0, g0', g1, g1', g2, g3, g3'⟩ (by rw [k4]; exact ⟨v4, rfl, Nat.zero_le _, g4⟩) (by rw [ne 8 (by decide)]; exact d3) (by rw [ne 9 (by decide)]; exact d4) (by rw [ne 10 (by decide)]; exact d5) (by rw [ne 11 (by decide)]; exact d6) (by rw [ne 12 (by decide)]; exact d7) (fun z hz => ?_) (fun z hz => je z (by omega)) (fr3_tr hf1 (fr3_of r2)) s3 (ns_end 6 (p0 + 1) _ e hp0 hns)
    have o1 := nb' (a + 1) (by omega) (by omega) (by omega)
    have o2 := nb' (a + 2) (by omega) (by omega) (by omega)
    by_cases u : z < 5
    · rcases (show z = 0 ∨ z = 1 ∨ z = 2 ∨ z = 3 ∨ z = 4 by omega) with rfl | rfl | rfl | rfl | rfl
      · exact j0.trans k0.symm
      · exact j1.trans k1.symm
      · exact j2.trans k2.symm
      · exact j3.trans k3.symm
      · exact j4.trans k4.symm
    · rw [je z (by omega), q9 z (by omega)]
      rcases (show z = 5 ∨ z = 6 ∨ z = 7 ∨ z = 8 ∨ z = 9 ∨ z = 10 ∨ z = 11 ∨ z = 12 ∨ z = 13 ∨ z = 14 ∨ z = 15 ∨ z = 16 by omega) with rfl | rfl | rfl | rfl | rfl | rfl | rfl | rfl | rfl | rfl | rfl | rfl <;> simp only [ho, o1, o2] <;> exact (ne _ (by decide)).symm
