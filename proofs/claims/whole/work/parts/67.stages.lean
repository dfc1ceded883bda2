/-- three numbers: a stage of the fire -/
def Bs : List Nat → Int32 × Int32 := fun acc => if acc.length = 0 then (0, 9999) else (1, 30)
theorem it_stage {a l n9 : Nat} {T : Nat → Nat} {I J : zx_I} {m p c f ct pos p0 : Nat} (ha : a = 4 ∨ a = 14) (hn : 200 ≤ n9) (q : PS a l T false I J m p c f ct pos) (hp0 : p0 + 1 ≤ l) {J1 : zx_I} (hf1 : fr3 J J1) (hf2 : ∀ z, J1 2 z = J 2 z) (h2 : J1 0 2 = nI (p0 + 1)) : IT a l T I J1 p0 (mf_isFire n9 J1) (fun I' => tk_if (ti_stage I') (tm_stage I' a)) := by
  have htx : tx l T I J1 := tx_cg q.1 rfl rfl (hf1.2 0 (by decide) (by decide) (by decide)) (hf1.1 1 (by decide) (by decide))
  have one : ∀ {x : Int32}, x = 1 → ¬ x = 0 := fun {x} hx => by rw [hx]; decide
  obtain ⟨b, JA, r1, r2, r3, r4⟩ := isNum (lo := 1) (hi := 3) (bh := 44) htx hn hp0 (by decide) htx.2.2.1 rfl h2
  have r1' : mf_isNumber n9 (1 : Int32) (3 : Int32) (44 : Int32) J1 = some (b, JA) := r1
  have fA : fr2 J1 JA := ⟨fun x x0 _ => r2 x x0, r3⟩
  rcases r4 with ⟨s1, s2⟩ | ⟨s1, v0, i1, s2, s3, s4, s5⟩
  · refine ⟨0, JA, ?_, fr3_of fA, r3 3 (by decide) (by decide), Or.inl ⟨rfl, fun vs e I' hns hV => tk_if_f (fun w => ?_)⟩⟩
    · unfold mf_isFire
      rw [r1', Option.bind_some, if_pos s1]
    · obtain ⟨w1, w2, w3, w4⟩ := w
      rw [hV.1] at w1
      have hl : vs.length = 3 := (nI_eq (b := 3) (by have := hV.2.2.2.2.2; omega) (by decide)).mp w1
      obtain ⟨v, i', vs', u1, u2, rfl⟩ := ns_two hns (by omega)
      exact w2 ((fin_at (lo := 1) (hi := 3) hV (t := 0) (by omega)).trans (s2 v i' u1))
  · obtain ⟨k1, k2, k3, -⟩ := nb_is hp0 s2
    obtain ⟨g0, g0'⟩ := in_rg (lo := 1) (hi := 3) k3 (by decide) (by decide) s3
    have hA2 : ∀ z, JA 2 z = J 2 z := fun z => by rw [r2 2 (by decide), hf2]
    obtain ⟨b', J2, t1, t2, t4⟩ := seq_spec (A0 := 5 + 2 * (v0 - 1)) (B := Bs) htx hn [(fun _ => 1, 30)] (fun _ => 0, 9999) 0 i1 [] JA rfl (fun s hs => by omega) ⟨fun acc J hacc _ => by unfold Bs; rw [if_pos hacc]; exact ⟨rfl, rfl⟩, fun acc J hacc _ => by unfold Bs; rw [if_neg (by omega)]; exact ⟨rfl, rfl⟩, trivial⟩ (by show 5 + 2 * (v0 - 1) + 0 + 1 + 1 ≤ 65; omega) k2 fA s4
    have hfire : mf_isFire n9 J1 = some (b', J2) := by
      unfold mf_isFire
      rw [r1', Option.bind_some, if_neg (one s1)]
      dsimp only
      rw [s5, st_ix g0, nI_1]
      exact t1
    obtain ⟨n1, n2⟩ := run_is (l := l) (T := T) (B := Bs) 1 5 [] i1 (by decide)
    refine ⟨b', J2, hfire, fr3_tr (fr3_of fA) (fr3_of t2), by rw [t2.2 3 (by decide) (by decide)]; exact r3 3 (by decide) (by decide), ?_⟩
    rcases t4 with ⟨z1, z2⟩ | ⟨z1, ws, e, z2, z3, z4, z5⟩
    · refine Or.inl ⟨z1, fun vs e I' hns hV => tk_if_f (fun w => ?_)⟩
      obtain ⟨w1, w2, w3, w4⟩ := w
      rw [hV.1] at w1
      have hl : vs.length = 3 := (nI_eq (b := 3) (by have := hV.2.2.2.2.2; omega) (by decide)).mp w1
      rw [ns_44 s2] at hns
      cases hn5 : ns l T 5 i1 with
      | none =>
        rw [hn5] at hns
        cases hns
      | some q5 =>
        obtain ⟨vs', e5⟩ := q5
        rw [hn5] at hns
        cases hns
        rw [List.length_cons] at hl
        obtain ⟨t, t9, t10⟩ := n2 z2 vs' _ hn5 (by omega)
        obtain ⟨v1, v2, rfl⟩ := len2 (show vs'.length = 2 by omega)
        rcases (show t = 0 ∨ t = 1 by omega) with rfl | rfl
        · exact w3 ((fin_at (lo := 0) (hi := 9999) hV (t := 1) (Nat.le_of_ble_eq_true rfl)).trans t10)
        · exact w4 ((fin_at (lo := 1) (hi := 30) hV (t := 2) (Nat.le_of_ble_eq_true rfl)).trans t10)
    · obtain ⟨vs, hns, hl, hw, hin⟩ := n1 ws e z2
      obtain ⟨v1, v2, rfl⟩ := len2 hl
      rw [List.nil_append] at hw
      subst hw
      have j1 : mf_in (nI v1) (nI 0) (nI 9999) = 1 := hin 0 (by decide)
      have j2 : mf_in (nI v2) (nI 1) (nI 30) = 1 := hin 1 (by decide)
      have hns6 : ns l T 6 (p0 + 1) = some ([v0, v1, v2], e) := by
        rw [ns_44 s2, hns]
      refine Or.inr ⟨z1, [v0, v1, v2], e, hns6, fun I' hV => ?_⟩
      have b1 : v1 < 10000 := (hV.2.2.1 1 (Nat.le_of_ble_eq_true rfl)).2
      have b2 : v2 < 10000 := (hV.2.2.1 2 (Nat.le_of_ble_eq_true rfl)).2
      obtain ⟨-, g1⟩ := in_rg b1 (by decide) (by decide) j1
      obtain ⟨g2, g2'⟩ := in_rg b2 (by decide) (by decide) j2
      have e0 : fi_num I' 0 = nI v0 := num_at hV (t := 0) (Nat.le_of_ble_eq_true rfl)
      have e1 : fi_num I' 1 = nI v1 := num_at hV (t := 1) (Nat.le_of_ble_eq_true rfl)
      have e2 : fi_num I' 2 = nI v2 := num_at hV (t := 2) (Nat.le_of_ble_eq_true rfl)
      have ok : ti_stage I' := ⟨by rw [hV.1]; rfl, one ((fin_at (lo := 1) (hi := 3) hV (t := 0) (Nat.le_of_ble_eq_true rfl)).trans s3), one ((fin_at (lo := 0) (hi := 9999) hV (t := 1) (Nat.le_of_ble_eq_true rfl)).trans j1), one ((fin_at (lo := 1) (hi := 30) hV (t := 2) (Nat.le_of_ble_eq_true rfl)).trans j2)⟩
      have nb' : ∀ b, b ≠ 2 → b ≠ 3 → b ≠ a + 1 → b ≠ a + 2 → tm_stage I' a b = I b := fun b y2 y3 y4 y5 => by
        unfold tm_stage
        rw [zx_uI_ne y5, zx_uI_ne y4, hV.2.2.2.1 b y2 y3]
      have ka1 : ∀ y, tm_stage I' a (a + 1) y = if y = v0 then nI v1 else I (a + 1) y := fun y => by
        unfold tm_stage
        rw [e0, e1, e2, nI_clamp (by omega), zx_uI_ne (by omega)]
        simp only [zx_uI, if_pos]
        rw [hV.2.2.2.1 (a + 1) (by omega) (by omega)]
      have ka2 : ∀ y, tm_stage I' a (a + 2) y = if y = v0 then nI v2 else I (a + 2) y := fun y => by
        unfold tm_stage
        rw [e0, e1, e2, nI_clamp (by omega)]
        simp only [zx_uI, if_pos]
        rw [if_neg (show ¬ a + 2 = a + 1 by omega), hV.2.2.2.1 (a + 2) (by omega) (by omega)]
      have ka := nb' a (by omega) (by omega) (by omega) (by omega)
      have kb : ∀ i, tm_stage I' a (a + 4 + i) = I (a + 4 + i) := fun i => nb' _ (by omega) (by omega) (by omega) (by omega)
      refine ⟨tm_stage I' a, tk_if_t ok, ⟨fun b y2 y3 _ y4 y5 _ => nb' b y2 y3 y4 y5, fun i hi => by rw [kb]⟩, m, p, c, f, ct, ?_⟩
      obtain ⟨q1, q2, ⟨q3, q4⟩, q5, ⟨q6, q7, q8⟩, q9, q10, q11⟩ := q
      obtain ⟨d1, d2, d3, d4, d5, d6, d7, ⟨ct', d8, d9, d10⟩, d11⟩ := q4
      have hf : fr3 J J2 := fr3_tr hf1 (fr3_tr (fr3_of fA) (fr3_of t2))
      have y0 : J2 2 (5 + 2 * (v0 - 1)) = nI v1 := z4 0 (Nat.le_of_ble_eq_true rfl)
      have y1 : J2 2 (5 + 2 * (v0 - 1) + 1) = nI v2 := z4 1 (Nat.le_of_ble_eq_true rfl)
      have je : ∀ z, (z < 5 + 2 * (v0 - 1) ∨ 5 + 2 * (v0 - 1) + 2 ≤ z) → J2 2 z = J 2 z := fun z hz => by rw [z5 z (by show z < 5 + 2 * (v0 - 1) + 0 ∨ 5 + 2 * (v0 - 1) + 0 + 1 + 1 ≤ z; omega), hA2]
      refine ⟨tx_cg q1 (nb' 0 (by decide) (by decide) (by omega) (by omega)) (nb' 1 (by decide) (by decide) (by omega) (by omega)) (hf.2 0 (by decide) (by decide) (by decide)) (hf.1 1 (by decide) (by decide)), by rw [ka]; exact q2, ⟨hvt_cg ka q3, by rw [ka]; exact d1, fun s y1' y3' => ?_, by rw [ka]; exact d3, by rw [ka]; exact d4, by rw [ka]; exact d5, by rw [ka]; exact d6, by rw [ka]; exact d7, ⟨ct', d8, by rw [ka]; exact d9, fun i hi => by rw [kb]; exact d10 i hi⟩, fun i hi => by rw [kb]; exact d11 i hi⟩, fun s y1' y3' => ?_, ⟨by rw [ka]; exact q6, q7, fun i hi => by rw [kb]; exact q8 i hi⟩, fun k hk => ?_, z3, ns_end 6 (p0 + 1) _ e hp0 hns6⟩
      · rw [ka1, ka2]
        by_cases u : s = v0
        · rw [if_pos u, if_pos u]
          exact ⟨⟨v1, rfl, Nat.zero_le _, by omega⟩, v2, rfl, g2, g2'⟩
        · rw [if_neg u, if_neg u]
          exact d2 s y1' y3'
      · rw [ka1]
        by_cases u : s = v0
        · rw [if_pos u]
          exact ⟨v1, rfl, Nat.zero_le _, by omega⟩
        · rw [if_neg u]
          exact q5 s y1' y3'
      · rcases Nat.lt_or_ge k 17 with u | u
        · by_cases w1 : k = 5 + 2 * (v0 - 1)
          · rw [w1, y0]
            rcases (show v0 = 1 ∨ v0 = 2 ∨ v0 = 3 by omega) with rfl | rfl | rfl
            · show nI v1 = tm_stage I' a (a + 1) 1
              rw [ka1, if_pos rfl]
            · show nI v1 = tm_stage I' a (a + 1) 2
              rw [ka1, if_pos rfl]
            · show nI v1 = tm_stage I' a (a + 1) 3
              rw [ka1, if_pos rfl]
          · by_cases w2 : k = 5 + 2 * (v0 - 1) + 1
            · rw [w2, y1]
              rcases (show v0 = 1 ∨ v0 = 2 ∨ v0 = 3 by omega) with rfl | rfl | rfl
              · show nI v2 = tm_stage I' a (a + 2) 1
                rw [ka2, if_pos rfl]
              · show nI v2 = tm_stage I' a (a + 2) 2
                rw [ka2, if_pos rfl]
              · show nI v2 = tm_stage I' a (a + 2) 3
                rw [ka2, if_pos rfl]
            · rw [je k (by omega), q9 k hk]
              rcases (show k = 0 ∨ k = 1 ∨ k = 2 ∨ k = 3 ∨ k = 4 ∨ k = 5 ∨ k = 6 ∨ k = 7 ∨ k = 8 ∨ k = 9 ∨ k = 10 ∨ k = 11 ∨ k = 12 ∨ k = 13 ∨ k = 14 ∨ k = 15 ∨ k = 16 by omega) with rfl | rfl | rfl | rfl | rfl | rfl | rfl | rfl | rfl | rfl | rfl | rfl | rfl | rfl | rfl | rfl | rfl <;> simp only [ho, ka, ka1, ka2] <;> rw [if_neg (by omega)]
        · obtain ⟨i, w, hw, ek⟩ : ∃ i w, w < 8 ∧ k = 17 + 8 * i + w := ⟨(k - 17) / 8, (k - 17) % 8, Nat.mod_lt _ (by decide), by omega⟩
          rw [je k (by omega), q9 k hk, ek, ho_b hw, ho_b hw, kb]
