theorem it_pair {a l n9 xx : Nat} {T : Nat → Nat} {I J : zx_I} {m p c f ct pos p0 : Nat} (ha : a = 4 ∨ a = 14) (hn : 200 ≤ n9) (q : PS a l T false I J m p c f ct pos) (hp0 : p0 + 1 ≤ l) {J1 : zx_I} (hf1 : fr3 J J1) (hf2 : ∀ z, J1 2 z = J 2 z) (h2 : J1 0 2 = nI (p0 + 1)) (hx : xx = 6 ∧ I 1 p0 = 97 ∨ xx = 7 ∧ ¬ I 1 p0 = 97) : IT a l T I J1 p0 (mf_isPair n9 (nI xx) J1) (fun I' => tk_pair I' a) := by
  have htx : tx l T I J1 := tx_cg q.1 rfl rfl (hf1.2 0 (by decide) (by decide) (by decide)) (hf1.1 1 (by decide) (by decide))
  obtain ⟨q1, q2, ⟨q3, q4⟩, q5, ⟨q6, q7, q8⟩, q9, q10, q11⟩ := q
  have h16 : J1 2 16 = nI ct := (hf2 16).trans ((q9 16 (by omega)).trans q6)
  have one : ∀ {x : Int32}, x = 1 → ¬ x = 0 := fun {x} hx => by rw [hx]; decide
  obtain ⟨b, JA, r1, r2, r3, r4⟩ := isNum (lo := 0) (hi := nI ct - 1) (bh := 44) htx hn hp0 (by decide) htx.2.2.1 rfl h2
  have r1' : mf_isNumber n9 (0 : Int32) (J1 2 16 - 1) (44 : Int32) J1 = some (b, JA) := by rw [h16]; exact r1
  have fA : fr2 J1 JA := ⟨fun x x0 _ => r2 x x0, r3⟩
  rcases r4 with ⟨s1, s2⟩ | ⟨s1, v0, i1, s2, s3, s4, s5⟩
  · refine ⟨0, JA, ?_, fr3_of fA, r3 3 (by decide) (by decide), Or.inl ⟨rfl, fun vs e I' hns hV => ?_⟩⟩
    · unfold mf_isPair
      rw [r1', Option.bind_some, if_pos s1]
    · cases hK : tk_pair I' a with
      | none => exact hK
      | some K =>
        obtain ⟨v0, v1, rfl, u0, u1, hne⟩ := (pr_cond ha hV q6 q7).1 K hK
        obtain ⟨v, i', vs', w1, w2, w3⟩ := ns_two hns (Nat.le_of_ble_eq_true rfl)
        cases w3
        have := s2 _ i' w1
        have b0 : v0 < 10000 := (hV.2.2.1 0 (Nat.le_of_ble_eq_true rfl)).2
        rw [in_ct b0 q7, if_pos u0] at this
        exact absurd this (by decide)
  · obtain ⟨k1, k2, k3, -⟩ := nb_is hp0 s2
    have u0 : v0 < ct := by
      refine Classical.byContradiction (fun w => ?_)
      rw [in_ct k3 q7, if_neg w] at s3
      exact absurd s3 (by decide)
    have hA16 : JA 2 16 = nI ct := by rw [r2 2 (by decide)]; exact h16
    obtain ⟨b', JB, t1, t2, t3, t4⟩ := isNum (J := JA) (lo := 0) (hi := nI ct - 1) (bh := 59) htx hn k2 (by decide) ((r3 0 (by decide) (by decide)).trans htx.2.2.1) (r2 1 (by decide)) s4
    have t1' : mf_isNumber n9 (0 : Int32) (JA 2 16 - 1) (59 : Int32) JA = some (b', JB) := by rw [hA16]; exact t1
    have fB : fr2 JA JB := ⟨fun x x0 _ => t2 x x0, t3⟩
    rcases t4 with ⟨z1, z2⟩ | ⟨z1, v1, e, z2, z3, z4, z5⟩
    · refine ⟨0, JB, ?_, fr3_tr (fr3_of fA) (fr3_of fB), (t3 3 (by decide) (by decide)).trans (r3 3 (by decide) (by decide)), Or.inl ⟨rfl, fun vs e I' hns hV => ?_⟩⟩
      · unfold mf_isPair
        rw [r1', Option.bind_some, if_neg (one s1)]
        dsimp only
        rw [t1', Option.bind_some, if_pos z1]
      · cases hK : tk_pair I' a with
        | none => exact hK
        | some K =>
          obtain ⟨v0', v1, rfl, u0', u1, hne⟩ := (pr_cond ha hV q6 q7).1 K hK
          obtain ⟨v, i', vs', w1, w2, w3⟩ := ns_two hns (Nat.le_of_ble_eq_true rfl)
          cases w3
          rw [s2] at w1
          cases w1
          have := z2 _ _ (ns_one w2)
          have b1 : v1 < 10000 := (hV.2.2.1 1 (Nat.le_of_ble_eq_true rfl)).2
          rw [in_ct b1 q7, if_pos u1] at this
          exact absurd this (by decide)
    · obtain ⟨y1, y2, y3, -⟩ := nb_is k2 z2
      have u1 : v1 < ct := by
        refine Classical.byContradiction (fun w => ?_)
        rw [in_ct y3 q7, if_neg w] at z3
        exact absurd z3 (by decide)
      have h44 : nb l T i1 44 = none := by
        cases h44 : nb l T i1 44 with
        | none => rfl
        | some q9' => exact (nb_un h44 z2).elim
      have hns6 : ns l T 6 (p0 + 1) = some ([v0, v1], e) := by
        rw [ns_44 s2, ns, h44]
        dsimp only
        rw [z2]
      have B4 : JB 0 4 = nI v1 := z5
      have A4 : JA 0 4 = nI v0 := s5
      by_cases hne : v0 = v1
      · refine ⟨0, JB, ?_, fr3_tr (fr3_of fA) (fr3_of fB), (t3 3 (by decide) (by decide)).trans (r3 3 (by decide) (by decide)), Or.inl ⟨rfl, fun vs e' I' hns hV => ?_⟩⟩
        · unfold mf_isPair
          rw [r1', Option.bind_some, if_neg (one s1)]
          dsimp only
          rw [t1', Option.bind_some, if_neg (one z1)]
          dsimp only
          rw [if_pos (by rw [B4, A4, hne])]
        · cases hK : tk_pair I' a with
          | none => exact hK
          | some K =>
            obtain ⟨a0, a1, hvs, -, -, hne'⟩ := (pr_cond ha hV q6 q7).1 K hK
            rw [hns6] at hns
            cases hns
            cases hvs
            exact absurd hne hne'
      · have hx67 : xx = 6 ∨ xx = 7 := by omega
        have hvb0 := q8 v0 u0
        obtain ⟨A, eA, hA⟩ : ∃ A, I (a + 4 + v0) (xx + 1) = nI A ∧ A ≤ 2 ^ ct - 1 := by
          rcases hx67 with u | u
          · obtain ⟨A, e1, -, e2⟩ := hvb0.2.2.2.2.2.2.1
            exact ⟨A, by rw [u]; exact e1, e2⟩
          · obtain ⟨A, e1, -, e2⟩ := hvb0.2.2.2.2.2.2.2
            exact ⟨A, by rw [u]; exact e1, e2⟩
        have hpow : 2 ^ ct ≤ 2 ^ 6 := Nat.pow_le_pow_right (by decide) q7
        have hpos : 0 < 2 ^ ct := Nat.two_pow_pos ct
        have hor : nI A ||| nI (2 ^ v1) = nI (A ||| 2 ^ v1) := (bx4 ⟨A, by omega⟩ ⟨v1, by omega⟩ ⟨v1, by omega⟩).1
        have hle := or_le hA u1
        have hJ2 : ∀ z, JB 2 z = J 2 z := fun z => by rw [t2 2 (by decide), r2 2 (by decide), hf2]
        have eidx : (17 + (8 * nI v0)) + nI xx = nI (17 + 8 * v0 + xx) := by
          rw [show (8 : Int32) = nI 8 from rfl, pk_mul, show (17 : Int32) = nI 17 from rfl, nI_add, nI_add]
        have ecell : JB 2 (17 + 8 * v0 + xx) = nI A := by
          rw [hJ2, q9 _ (by omega), ho_b (by omega)]
          exact eA
        refine ⟨1, zx_uI JB 2 (17 + 8 * v0 + xx) (nI (A ||| 2 ^ v1)), ?_, fr3_tr (fr3_tr (fr3_of fA) (fr3_of fB)) ⟨fun x _ x2 => zx_uI_ne x2, fun y _ _ _ => by rw [zx_uI_ne (by decide)]⟩, by rw [zx_uI_ne (by decide)]; exact (t3 3 (by decide) (by decide)).trans (r3 3 (by decide) (by decide)), Or.inr ⟨rfl, [v0, v1], e, hns6, fun I' hV => ?_⟩⟩
        · unfold mf_isPair
          rw [r1', Option.bind_some, if_neg (one s1)]
          dsimp only
          rw [t1', Option.bind_some, if_neg (one z1)]
          dsimp only
          have hin : mo_in (17 + (8 * JA 0 4) + nI xx) 65 := by
            rw [A4, eidx]
            exact mo_inN (by omega) (by decide)
          rw [if_neg (show ¬ JB 0 4 = JA 0 4 by rw [B4, A4]; exact nI_e (by omega) (by omega) (fun w => hne w.symm)), mo_g1 hin, mo_g1 hin, A4, B4, eidx, nI_clamp (by omega), ecell, sh_1 ⟨v1, by omega⟩, hor]
        · have hok := (pr_cond ha hV q6 q7).2 v0 v1 rfl u0 u1 hne
          have hI' : ∀ b, b ≠ 2 → b ≠ 3 → I' b = I b := hV.2.2.2.1
          have eK : tm_pair I' (a + 4 + v0) (a + 4 + v1) = zx_uI I' (a + 4 + v0) (xx + 1) (nI (A ||| 2 ^ v1)) := by
            have ebit : I (a + 4 + v1) 0 = nI (2 ^ v1) := q4.2.2.2.2.2.2.2.2 v1 (by omega)
            unfold tm_pair
            rw [hV.2.1, hI' (a + 4 + v0) (by omega) (by omega), hI' (a + 4 + v1) (by omega) (by omega), ebit]
            rcases hx with ⟨x1, x2⟩ | ⟨x1, x2⟩
            · subst x1
              rw [if_pos x2, show I (a + 4 + v0) 7 = nI A from eA, hor]
            · subst x1
              rw [if_neg x2, show I (a + 4 + v0) 8 = nI A from eA, hor]
          refine ⟨_, hok, ?_, m, p, c, f, ct, ?_⟩
          · rw [eK]
            refine ⟨fun b y2 y3 _ _ _ yb => by rw [zx_uI_ne (by omega), hI' b y2 y3], fun i hi => ?_⟩
            rw [show zx_uI I' (a + 4 + v0) (xx + 1) (nI (A ||| 2 ^ v1)) (a + 4 + i) 0 = I' (a + 4 + i) 0 by simp [zx_uI], hI' _ (by omega) (by omega)]
          · rw [eK]
            have ne : ∀ b, b ≠ 2 → b ≠ 3 → b ≠ a + 4 + v0 → zx_uI I' (a + 4 + v0) (xx + 1) (nI (A ||| 2 ^ v1)) b = I b := fun b y2 y3 yb => by rw [zx_uI_ne yb, hI' b y2 y3]
            have nf : ∀ i y, zx_uI I' (a + 4 + v0) (xx + 1) (nI (A ||| 2 ^ v1)) (a + 4 + i) y = if i = v0 ∧ y = xx + 1 then nI (A ||| 2 ^ v1) else I (a + 4 + i) y := fun i y => by
              by_cases w : i = v0
              · subst w
                simp only [zx_uI, if_pos]
                by_cases w2 : y = xx + 1
                · rw [if_pos w2, if_pos ⟨trivial, w2⟩]
                · rw [if_neg w2, if_neg (fun z => w2 z.2), hI' _ (by omega) (by omega)]
              · rw [ne _ (by omega) (by omega) (by omega), if_neg (fun z => w z.1)]
            have ka := ne a (by omega) (by omega) (by omega)
            have hf : fr3 J (zx_uI JB 2 (17 + 8 * v0 + xx) (nI (A ||| 2 ^ v1))) := fr3_tr hf1 (fr3_tr (fr3_tr (fr3_of fA) (fr3_of fB)) ⟨fun x _ x2 => zx_uI_ne x2, fun y _ _ _ => by rw [zx_uI_ne (by decide)]⟩)
            have hb : ∀ i, i < ct → hvb (zx_uI I' (a + 4 + v0) (xx + 1) (nI (A ||| 2 ^ v1)) (a + 4 + i)) ct := fun i hi => by
              have h0 := q8 i hi
              unfold hvb at h0 ⊢
              obtain ⟨c1, c2, c3, c4, c5, c6, c7, c8⟩ := h0
              rw [nf i 1, nf i 2, nf i 3, nf i 4, nf i 5, nf i 6, nf i 7, nf i 8, if_neg (by omega), if_neg (by omega), if_neg (by omega), if_neg (by omega), if_neg (by omega), if_neg (by omega)]
              refine ⟨c1, c2, c3, c4, c5, c6, ?_, ?_⟩
              · split
                · exact ⟨_, rfl, Nat.zero_le _, hle⟩
                · exact c7
              · split
                · exact ⟨_, rfl, Nat.zero_le _, hle⟩
                · exact c8
            obtain ⟨d1, d2, d3, d4, d5, d6, d7, ⟨ct', d8, d9, d10⟩, d11⟩ := q4
            have hcc : ct' = ct := (nI_eq (by omega) (by omega)).mp (d9.symm.trans q6)
            subst hcc
            have k1' := ne (a + 1) (by omega) (by omega) (by omega)
            have k2' := ne (a + 2) (by omega) (by omega) (by omega)
            refine ⟨tx_cg q1 (ne 0 (by decide) (by decide) (by omega)) (ne 1 (by decide) (by decide) (by omega)) (hf.2 0 (by decide) (by decide) (by decide)) (hf.1 1 (by decide) (by decide)), by rw [ka]; exact q2, ⟨hvt_cg ka q3, by rw [ka]; exact d1, by rw [k1', k2']; exact d2, by rw [ka]; exact d3, by rw [ka]; exact d4, by rw [ka]; exact d5, by rw [ka]; exact d6, by rw [ka]; exact d7, ⟨ct', d8, by rw [ka]; exact d9, hb⟩, fun i hi => by rw [nf, if_neg (by omega)]; exact d11 i hi⟩, by rw [k1']; exact q5, ⟨by rw [ka]; exact q6, q7, hb⟩, fun k hk => ?_, by rw [zx_uI_ne (by decide)]; exact z4, y2⟩
            rcases Nat.lt_or_ge k 17 with u | u
            · rw [show zx_uI JB 2 (17 + 8 * v0 + xx) (nI (A ||| 2 ^ v1)) 2 k = JB 2 k by simp only [zx_uI, if_pos]; rw [if_neg (by omega)], hJ2, q9 k hk]
              rcases (show k = 0 ∨ k = 1 ∨ k = 2 ∨ k = 3 ∨ k = 4 ∨ k = 5 ∨ k = 6 ∨ k = 7 ∨ k = 8 ∨ k = 9 ∨ k = 10 ∨ k = 11 ∨ k = 12 ∨ k = 13 ∨ k = 14 ∨ k = 15 ∨ k = 16 by omega) with rfl | rfl | rfl | rfl | rfl | rfl | rfl | rfl | rfl | rfl | rfl | rfl | rfl | rfl | rfl | rfl | rfl <;> simp only [ho, ka, k1', k2']
            · obtain ⟨i, w, hw, ek⟩ : ∃ i w, w < 8 ∧ k = 17 + 8 * i + w := ⟨(k - 17) / 8, (k - 17) % 8, Nat.mod_lt _ (by decide), by omega⟩
              rw [ek, ho_b hw, nf]
              by_cases w2 : i = v0 ∧ w + 1 = xx + 1
              · rw [if_pos w2, show 17 + 8 * i + w = 17 + 8 * v0 + xx by omega]
                simp [zx_uI]
              · rw [if_neg w2, show zx_uI JB 2 (17 + 8 * v0 + xx) (nI (A ||| 2 ^ v1)) 2 (17 + 8 * i + w) = JB 2 (17 + 8 * i + w) by simp only [zx_uI, if_pos]; rw [if_neg (by omega)], hJ2, q9 _ (by omega), ho_b hw]
/-- six numbers: a bather -/
def Bb : List Nat → Int32 × Int32 := fun acc => if acc.length = 0 then (1, 99) else if acc.length = 1 then (0, 99) else if acc.length = 2 then (nI (acc.getD 1 0), 99) else if acc.length = 3 then (1, 20) else if acc.length = 4 then (0, 60) else (0, 99)
theorem it_bather {a l n9 : Nat} {T : Nat → Nat} {I J : zx_I} {m p c f ct pos p0 : Nat} (ha : a = 4 ∨ a = 14) (hn : 200 ≤ n9) (q : PS a l T false I J m p c f ct pos) (hp0 : p0 + 1 ≤ l) {J1 : zx_I} (hf1 : fr3 J J1) (hf2 : ∀ z, J1 2 z = J 2 z) (h2 : J1 0 2 = nI (p0 + 1)) : IT a l T I J1 p0 (mf_isBather n9 J1) (fun I' => tk_if (ti_bather I' a) (tm_bather I' a (I' a 13).toInt.toNat)) := by
  have one : ∀ {x : Int32}, x = 1 → ¬ x = 0 := fun {x} hx => by rw [hx]; decide
  obtain ⟨q1, q2, ⟨q3, q4⟩, q5, ⟨q6, q7, q8⟩, q9, q10, q11⟩ := q
  have h16 : J1 2 16 = nI ct := (hf2 16).trans ((q9 16 (by omega)).trans q6)
  by_cases c6 : ct = 6
  · refine ⟨0, J1, ?_, fr3_rf, rfl, Or.inl ⟨rfl, fun vs e I' _ hV => tk_if_f (fun w => w.1 ?_)⟩⟩
    · unfold mf_isBather
      rw [h16, if_pos (by rw [c6]; rfl)]
    · rw [hV.2.2.2.1 a (by omega) (by omega), q6, c6]
      decide
  · have c5 : ct ≤ 5 := by omega
    have eat : (17 + (8 * nI ct) : Int32) = nI (17 + 8 * ct) := by
      rw [show (8 : Int32) = nI 8 from rfl, pk_mul, show (17 : Int32) = nI 17 from rfl, nI_add]
    have e1 : nI (17 + 8 * ct) + 1 = nI (17 + 8 * ct + 1) := nI_add _ 1
    have e2 : nI (17 + 8 * ct) + 2 = nI (17 + 8 * ct + 2) := nI_add _ 2
    have e3 : nI (17 + 8 * ct) + 3 = nI (17 + 8 * ct + 3) := nI_add _ 3
    have e4 : nI (17 + 8 * ct) + 4 = nI (17 + 8 * ct + 4) := nI_add _ 4
    have e5 : nI (17 + 8 * ct) + 5 = nI (17 + 8 * ct + 5) := nI_add _ 5
    have e6 : nI (17 + 8 * ct) + 6 = nI (17 + 8 * ct + 6) := nI_add _ 6
    have e7 : nI (17 + 8 * ct) + 7 = nI (17 + 8 * ct + 7) := nI_add _ 7
    generalize hJb : zx_uI (zx_uI (zx_uI J1 2 (17 + 8 * ct + 6) 0) 2 (17 + 8 * ct + 7) 0) 2 16 (nI (ct + 1)) = Jb
    have jb : ∀ z, Jb 2 z = if z = 16 then nI (ct + 1) else if z = 17 + 8 * ct + 7 then 0 else if z = 17 + 8 * ct + 6 then 0 else J 2 z := fun z => by
      rw [← hJb]
      simp only [zx_uI, if_pos]
      rw [hf2]
    have fb : fr2 J1 Jb := by
      rw [← hJb]
      exact ⟨fun x _ x2 => by rw [zx_uI_ne x2, zx_uI_ne x2, zx_uI_ne x2], fun y _ _ => by rw [zx_uI_ne (by decide), zx_uI_ne (by decide), zx_uI_ne (by decide)]⟩
    have h2b : Jb 0 2 = nI (p0 + 1) := by
      rw [← hJb, zx_uI_ne (by decide), zx_uI_ne (by decide), zx_uI_ne (by decide)]
      exact h2
    have htx : tx l T I Jb := tx_cg q1 rfl rfl ((fb.2 0 (by decide) (by decide)).trans (hf1.2 0 (by decide) (by decide) (by decide))) ((fb.1 1 (by decide) (by decide)).trans (hf1.1 1 (by decide) (by decide)))
    have hmod : mf_isBather n9 J1 = seq9 n9 (17 + 8 * ct) [(fun _ => 1, 99), (fun _ => 0, 99), (fun J => J 2 (17 + 8 * ct + 1), 99), (fun _ => 1, 20), (fun _ => 0, 60), (fun _ => 0, 99)] Jb := by
      have e16 : zx_uI (zx_uI J1 2 (17 + 8 * ct + 6) 0) 2 (17 + 8 * ct + 7) 0 2 16 = nI ct := by
        simp only [zx_uI, if_pos]
        rw [if_neg (by omega), if_neg (by omega)]
        exact h16
      unfold mf_isBather
      rw [h16, if_neg (show ¬ nI ct = (6 : Int32) from fun w => c6 ((nI_eq (b := 6) (by omega) (by decide)).mp w)), eat, e1, e2, e3, e4, e5, e6, e7, mo_g1 (mo_inN (by omega) (by decide)), mo_g1 (mo_inN (by omega) (by decide)), nI_clamp (by omega), nI_clamp (by omega), nI_clamp (by omega), e16, nI_1, hJb]
      simp only [mo_g1 (mo_inN (show 17 + 8 * ct + 1 < 65 by omega) (by decide))]
      rfl
    obtain ⟨b, J2, r1, r2, r4⟩ := seq_spec (A0 := 17 + 8 * ct) (B := Bb) htx hn [(fun _ => 0, 99), (fun J => J 2 (17 + 8 * ct + 1), 99), (fun _ => 1, 20), (fun _ => 0, 60), (fun _ => 0, 99)] (fun _ => 1, 99) 0 (p0 + 1) [] Jb rfl (fun s hs => by omega)
      ⟨fun acc J hacc _ => by unfold Bb; rw [if_pos hacc]; exact ⟨rfl, rfl⟩, fun acc J hacc _ => by unfold Bb; rw [if_neg (by omega), if_pos hacc]; exact ⟨rfl, rfl⟩, fun acc J hacc hj => by unfold Bb; rw [if_neg (by omega), if_neg (by omega), if_pos hacc]; exact ⟨hj 1 (by decide), rfl⟩, fun acc J hacc _ => by unfold Bb; rw [if_neg (by omega), if_neg (by omega), if_neg (by omega), if_pos hacc]; exact ⟨rfl, rfl⟩, fun acc J hacc _ => by unfold Bb; rw [if_neg (by omega), if_neg (by omega), if_neg (by omega), if_neg (by omega), if_pos hacc]; exact ⟨rfl, rfl⟩, fun acc J hacc _ => by unfold Bb; rw [if_neg (by omega), if_neg (by omega), if_neg (by omega), if_neg (by omega), if_neg (by omega)]; exact ⟨rfl, rfl⟩, trivial⟩ (by show 17 + 8 * ct + 0 + 5 + 1 ≤ 65; omega) hp0 fr2_rf h2b
    obtain ⟨n1, n2⟩ := run_is (l := l) (T := T) (B := Bb) 5 6 [] (p0 + 1) (by decide)
    refine ⟨b, J2, hmod.trans r1, fr3_tr (fr3_of fb) (fr3_of r2), (r2.2 3 (by decide) (by decide)).trans (fb.2 3 (by decide) (by decide)), ?_⟩
    rcases r4 with ⟨s1, s2⟩ | ⟨s1, ws, e, s2, s3, s4, s5⟩
    · refine Or.inl ⟨s1, fun vs e I' hns hV => tk_if_f (fun w => ?_)⟩
      obtain ⟨-, w1, w2, w3, w4, w5, w6, w7⟩ := w
      rw [hV.1] at w1
      have hl : vs.length = 6 := (nI_eq (b := 6) (by have := hV.2.2.2.2.2; omega) (by decide)).mp w1
      obtain ⟨t, t1, t2⟩ := n2 s2 vs e hns hl
      obtain ⟨v0, v1, v2, v3, v4, v5, rfl⟩ := len6 hl
      have f1 : fi_num I' 1 = nI v1 := num_at hV (t := 1) (Nat.le_of_ble_eq_true rfl)
      rw [f1] at w4
      rcases (show t = 0 ∨ t = 1 ∨ t = 2 ∨ t = 3 ∨ t = 4 ∨ t = 5 by omega) with rfl | rfl | rfl | rfl | rfl | rfl
      · exact w2 ((fin_at (lo := 1) (hi := 99) hV (t := 0) (Nat.le_of_ble_eq_true rfl)).trans t2)
      · exact w3 ((fin_at (lo := 0) (hi := 99) hV (t := 1) (Nat.le_of_ble_eq_true rfl)).trans t2)
      · exact w4 ((fin_at (lo := nI v1) (hi := 99) hV (t := 2) (Nat.le_of_ble_eq_true rfl)).trans t2)
      · exact w5 ((fin_at (lo := 1) (hi := 20) hV (t := 3) (Nat.le_of_ble_eq_true rfl)).trans t2)
      · exact w6 ((fin_at (lo := 0) (hi := 60) hV (t := 4) (Nat.le_of_ble_eq_true rfl)).trans t2)
      · exact w7 ((fin_at (lo := 0) (hi := 99) hV (t := 5) (Nat.le_of_ble_eq_true rfl)).trans t2)
    · obtain ⟨vs, hns, hl, hw, hin⟩ := n1 ws e s2
      obtain ⟨v0, v1, v2, v3, v4, v5, rfl⟩ := len6 hl
      rw [List.nil_append] at hw
      subst hw
      have i0 : mf_in (nI v0) (nI 1) (nI 99) = 1 := hin 0 (by decide)
      have i1 : mf_in (nI v1) (nI 0) (nI 99) = 1 := hin 1 (by decide)
      have i2 : mf_in (nI v2) (nI v1) (nI 99) = 1 := hin 2 (by decide)
      have i3 : mf_in (nI v3) (nI 1) (nI 20) = 1 := hin 3 (by decide)
      have i4 : mf_in (nI v4) (nI 0) (nI 60) = 1 := hin 4 (by decide)
      have i5 : mf_in (nI v5) (nI 0) (nI 99) = 1 := hin 5 (by decide)
      refine Or.inr ⟨s1, [v0, v1, v2, v3, v4, v5], e, hns, fun I' hV => ?_⟩
      have b0 : v0 < 10000 := (hV.2.2.1 0 (Nat.le_of_ble_eq_true rfl)).2
      have b1 : v1 < 10000 := (hV.2.2.1 1 (Nat.le_of_ble_eq_true rfl)).2
      have b2 : v2 < 10000 := (hV.2.2.1 2 (Nat.le_of_ble_eq_true rfl)).2
      have b3 : v3 < 10000 := (hV.2.2.1 3 (Nat.le_of_ble_eq_true rfl)).2
      have b4 : v4 < 10000 := (hV.2.2.1 4 (Nat.le_of_ble_eq_true rfl)).2
      have b5 : v5 < 10000 := (hV.2.2.1 5 (Nat.le_of_ble_eq_true rfl)).2
      obtain ⟨g0, g0'⟩ := in_rg b0 (by decide) (by decide) i0
      obtain ⟨-, g1⟩ := in_rg b1 (by decide) (by decide) i1
      obtain ⟨-, g2⟩ := in_rg b2 (by omega) (by decide) i2
      obtain ⟨g3, g3'⟩ := in_rg b3 (by decide) (by decide) i3
      obtain ⟨-, g4⟩ := in_rg b4 (by decide) (by decide) i4
      obtain ⟨-, g5⟩ := in_rg b5 (by decide) (by decide) i5
      have f0 : fi_num I' 0 = nI v0 := num_at hV (t := 0) (Nat.le_of_ble_eq_true rfl)
      have f1 : fi_num I' 1 = nI v1 := num_at hV (t := 1) (Nat.le_of_ble_eq_true rfl)
      have f2 : fi_num I' 2 = nI v2 := num_at hV (t := 2) (Nat.le_of_ble_eq_true rfl)
      have f3 : fi_num I' 3 = nI v3 := num_at hV (t := 3) (Nat.le_of_ble_eq_true rfl)
      have f4 : fi_num I' 4 = nI v4 := num_at hV (t := 4) (Nat.le_of_ble_eq_true rfl)
      have f5 : fi_num I' 5 = nI v5 := num_at hV (t := 5) (Nat.le_of_ble_eq_true rfl)
      have hI' : ∀ b, b ≠ 2 → b ≠ 3 → I' b = I b := hV.2.2.2.1
      have h13 : I' a 13 = nI ct := by rw [hI' a (by omega) (by omega)]; exact q6
      have ok : ti_bather I' a := ⟨by rw [h13]; exact nI_ge (b := 6) (by omega) (by decide), by rw [hV.1]; rfl, one ((fin_at (lo := 1) (hi := 99) hV (t := 0) (Nat.le_of_ble_eq_true rfl)).trans i0), one ((fin_at (lo := 0) (hi := 99) hV (t := 1) (Nat.le_of_ble_eq_true rfl)).trans i1), by rw [f1]; exact one ((fin_at (lo := nI v1) (hi := 99) hV (t := 2) (Nat.le_of_ble_eq_true rfl)).trans i2), one ((fin_at (lo := 1) (hi := 20) hV (t := 3) (Nat.le_of_ble_eq_true rfl)).trans i3), one ((fin_at (lo := 0) (hi := 60) hV (t := 4) (Nat.le_of_ble_eq_true rfl)).trans i4), one ((fin_at (lo := 0) (hi := 99) hV (t := 5) (Nat.le_of_ble_eq_true rfl)).trans i5)⟩
      have ect : (I' a 13).toInt.toNat = ct := by
        rw [h13, nI_toInt (by omega)]
        rfl
      have hKa : ∀ y, tm_bather I' a ct a y = if y = 13 then nI (ct + 1) else I a y := fun y => by
        unfold tm_bather
        rw [zx_uI_at, fb_become_ne (show a ≠ a + 4 + ct by omega), h13, nI_1, hI' a (by omega) (by omega)]
        rfl
      have hKw : ∀ y, tm_bather I' a ct (a + 4 + ct) y = if y = 8 then 0 else if y = 7 then 0 else if y = 6 then nI v5 else if y = 5 then nI v4 else if y = 4 then nI v3 else if y = 3 then nI v2 else if y = 2 then nI v1 else if y = 1 then nI v0 else I (a + 4 + ct) y := fun y => by
        unfold tm_bather
        rw [zx_uI_ne (by omega)]
        unfold fb_become
        rw [f0, f1, f2, f3, f4, f5, zx_uI_at, zx_uI_at, zx_uI_at, zx_uI_at, zx_uI_at, zx_uI_at, zx_uI_at, zx_uI_at, hI' (a + 4 + ct) (by omega) (by omega)]
        rfl
      have hKn : ∀ b, b ≠ 2 → b ≠ 3 → b ≠ a → b ≠ a + 4 + ct → tm_bather I' a ct b = I b := fun b y2 y3 ya yw => by
        unfold tm_bather fb_become
        rw [zx_uI_ne ya, zx_uI_ne yw, zx_uI_ne yw, zx_uI_ne yw, zx_uI_ne yw, zx_uI_ne yw, zx_uI_ne yw, zx_uI_ne yw, zx_uI_ne yw, hI' b y2 y3]
      refine ⟨tm_bather I' a ct, ?_, ⟨fun b y2 y3 ya _ _ yb => hKn b y2 y3 ya (by omega), fun i hi => ?_⟩, m, p, c, f, ct + 1, ?_⟩
      · show tk_if (ti_bather I' a) (tm_bather I' a (I' a 13).toInt.toNat) = _
        rw [ect]
        exact tk_if_t ok
      · by_cases w : i = ct
        · rw [w, hKw, if_neg (by decide), if_neg (by decide), if_neg (by decide), if_neg (by decide), if_neg (by decide), if_neg (by decide), if_neg (by decide), if_neg (by decide)]
        · rw [hKn _ (by omega) (by omega) (by omega) (by omega)]
      · have ne : ∀ y, y ≠ 13 → tm_bather I' a ct a y = I a y := fun y hy => by rw [hKa, if_neg hy]
        have hf : fr3 J J2 := fr3_tr hf1 (fr3_tr (fr3_of fb) (fr3_of r2))
        have k1' := hKn (a + 1) (by omega) (by omega) (by omega) (by omega)
        have k2' := hKn (a + 2) (by omega) (by omega) (by omega) (by omega)
        have hpow : 2 ^ ct ≤ 2 ^ (ct + 1) := Nat.pow_le_pow_right (by decide) (by omega)
        have hb : ∀ i, i < ct + 1 → hvb (tm_bather I' a ct (a + 4 + i)) (ct + 1) := fun i hi => by
          by_cases w : i = ct
          · subst w
            unfold hvb
            rw [hKw 1, hKw 2, hKw 3, hKw 4, hKw 5, hKw 6, hKw 7, hKw 8]
            exact ⟨⟨v0, rfl, g0, g0'⟩, ⟨v1, rfl, Nat.zero_le _, g1⟩, ⟨v2, rfl, Nat.zero_le _, g2⟩, ⟨v3, rfl, g3, g3'⟩, ⟨v4, rfl, Nat.zero_le _, g4⟩, ⟨v5, rfl, Nat.zero_le _, g5⟩, ⟨0, rfl, Nat.le_refl _, Nat.zero_le _⟩, ⟨0, rfl, Nat.le_refl _, Nat.zero_le _⟩⟩
          · rw [hKn _ (by omega) (by omega) (by omega) (by omega)]
            obtain ⟨c1, c2, c3, c4, c5', c6', ⟨x7, y7, z7, w7⟩, ⟨x8, y8, z8, w8⟩⟩ := q8 i (by omega)
            exact ⟨c1, c2, c3, c4, c5', c6', ⟨x7, y7, z7, by omega⟩, ⟨x8, y8, z8, by omega⟩⟩
        obtain ⟨d1, d2, d3, d4, d5, d6, d7, -, d11⟩ := q4
        have h13' : tm_bather I' a ct a 13 = nI (ct + 1) := by rw [hKa, if_pos rfl]
        have hbit : ∀ i, i < 6 → tm_bather I' a ct (a + 4 + i) 0 = nI (2 ^ i) := fun i hi => by
          by_cases w : i = ct
          · rw [w, hKw, if_neg (by decide), if_neg (by decide), if_neg (by decide), if_neg (by decide), if_neg (by decide), if_neg (by decide), if_neg (by decide), if_neg (by decide)]
            exact d11 ct (by omega)
          · rw [hKn _ (by omega) (by omega) (by omega) (by omega)]
            exact d11 i hi
        have je : ∀ z, (z < 17 + 8 * ct ∨ 17 + 8 * ct + 6 ≤ z) → J2 2 z = Jb 2 z := fun z hz => s5 z (by show z < 17 + 8 * ct + 0 ∨ 17 + 8 * ct + 0 + 5 + 1 ≤ z; omega)
        refine ⟨tx_cg q1 (hKn 0 (by decide) (by decide) (by omega) (by omega)) (hKn 1 (by decide) (by decide) (by omega) (by omega)) (hf.2 0 (by decide) (by decide) (by decide)) (hf.1 1 (by decide) (by decide)), by rw [ne 0 (by decide)]; exact q2, ⟨?_, by rw [ne 5 (by decide)]; exact d1, by rw [k1', k2']; exact d2, by rw [ne 8 (by decide)]; exact d3, by rw [ne 9 (by decide)]; exact d4, by rw [ne 10 (by decide)]; exact d5, by rw [ne 11 (by decide)]; exact d6, by rw [ne 12 (by decide)]; exact d7, ⟨ct + 1, by omega, h13', hb⟩, hbit⟩, by rw [k1']; exact q5, ⟨h13', by omega, hb⟩, fun k hk => ?_, s3, ns_end 6 (p0 + 1) _ e hp0 hns⟩
        · unfold hvt
          rw [ne 1 (by decide), ne 2 (by decide), ne 3 (by decide), ne 4 (by decide)]
          exact q3
        · rcases Nat.lt_or_ge k 17 with u | u
          · rw [je k (by omega), jb]
            by_cases w : k = 16
            · rw [if_pos w, w]
              exact h13'.symm
            · rw [if_neg w, if_neg (by omega), if_neg (by omega), q9 k (by omega)]
              rcases (show k = 0 ∨ k = 1 ∨ k = 2 ∨ k = 3 ∨ k = 4 ∨ k = 5 ∨ k = 6 ∨ k = 7 ∨ k = 8 ∨ k = 9 ∨ k = 10 ∨ k = 11 ∨ k = 12 ∨ k = 13 ∨ k = 14 ∨ k = 15 by omega) with rfl | rfl | rfl | rfl | rfl | rfl | rfl | rfl | rfl | rfl | rfl | rfl | rfl | rfl | rfl | rfl <;> simp only [ho, k1', k2'] <;> exact (ne _ (by decide)).symm
          · obtain ⟨i, w, hw, ek⟩ : ∃ i w, w < 8 ∧ k = 17 + 8 * i + w := ⟨(k - 17) / 8, (k - 17) % 8, Nat.mod_lt _ (by decide), by omega⟩
            rw [ek, ho_b hw]
            by_cases u2 : i = ct
            · subst u2
              rw [hKw]
              rcases (show w = 0 ∨ w = 1 ∨ w = 2 ∨ w = 3 ∨ w = 4 ∨ w = 5 ∨ w = 6 ∨ w = 7 by omega) with rfl | rfl | rfl | rfl | rfl | rfl | rfl | rfl
              · exact s4 0 (Nat.le_of_ble_eq_true rfl)
              · exact s4 1 (Nat.le_of_ble_eq_true rfl)
              · exact s4 2 (Nat.le_of_ble_eq_true rfl)
              · exact s4 3 (Nat.le_of_ble_eq_true rfl)
              · exact s4 4 (Nat.le_of_ble_eq_true rfl)
              · exact s4 5 (Nat.le_of_ble_eq_true rfl)
              · rw [je _ (by omega), jb, if_neg (by omega), if_neg (by omega), if_pos rfl]
                rfl
              · rw [je _ (by omega), jb, if_neg (by omega), if_pos rfl]
                rfl
            · rw [je _ (by omega), jb, if_neg (by omega), if_neg (by omega), if_neg (by omega), q9 _ (by omega), ho_b hw, hKn _ (by omega) (by omega) (by omega) (by omega)]
