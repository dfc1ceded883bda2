/-! an item, in both -/
theorem it_fin {a l pos : Nat} {T : Nat → Nat} {I J J1 : zx_I} {mres : Option (Int32 × zx_I)} {tk' : zx_I → Option zx_I} (htx : tx l T I J) (hpl : pos < l) (hIT : IT a l T I J1 pos mres tk') (htk : ∀ I' vs, VI I I' pos vs → fh_takes I' a = tk' I') (hfr : fr3 J J1) (h03 : J1 0 3 = nI pos) (ha : a = 4 ∨ a = 14) : ∃ b J', mres = some (b, J') ∧ fr3 J J' ∧ J' 0 3 = nI pos ∧ cT a I (fi_read I l pos).2 ∧ ((b = 0 ∧ ((fi_read I l pos).1 = -4 ∨ fh_takes (fi_read I l pos).2 a = none)) ∨ (b = 1 ∧ ∃ e K, pos < e ∧ e ≤ l ∧ (fi_read I l pos).1 = nI e ∧ fh_takes (fi_read I l pos).2 a = some K ∧ cT a I K ∧ ∃ m p c f ct, PS a l T false K J' m p c f ct e)) := by
  obtain ⟨b, J', r1, r2, r3, r4⟩ := hIT
  have hl := htx.1
  obtain ⟨n1, n2⟩ := rd_ns htx 6 (pos + 1) (zx_uI (zx_uI I 2 2 0) 2 1 (I 1 (nI pos).toNatClampNeg)) (Nat.le_refl _) hpl (by rw [zx_uI_ne (by decide), zx_uI_ne (by decide)]) (by simp [zx_uI]; rfl)
  have eR : fi_read I l pos = rd_loop (l - (pos + 1)) (pos + 1) 0 0 (zx_uI (zx_uI I 2 2 0) 2 1 (I 1 (nI pos).toNatClampNeg)) := rfl
  have cTof : ∀ K : zx_I, (∀ b, b ≠ 2 → b ≠ 3 → K b = (zx_uI (zx_uI I 2 2 0) 2 1 (I 1 (nI pos).toNatClampNeg)) b) → cT a I K := fun K hK => ⟨fun b z2 z3 _ _ _ _ => by rw [hK b z2 z3, zx_uI_ne z2, zx_uI_ne z2], fun i hi => by rw [hK _ (by omega) (by omega), zx_uI_ne (by omega), zx_uI_ne (by omega)]⟩
  cases hns : ns l T 6 (pos + 1) with
  | none =>
    obtain ⟨z1, z2⟩ := n1 hns
    refine ⟨b, J', r1, fr3_tr hfr r2, r3.trans h03, by rw [eR]; exact cTof _ z2, ?_⟩
    rcases r4 with ⟨s1, -⟩ | ⟨s1, vs, e, s2, -⟩
    · exact Or.inl ⟨s1, Or.inl (by rw [eR]; exact z1)⟩
    · rw [hns] at s2
      cases s2
  | some q =>
    obtain ⟨vs, e⟩ := q
    obtain ⟨I', t1, t2, t3, t4, t5, t6, t7, t8, t9, t10⟩ := n2 vs e hns
    have hV : VI I I' pos vs := by
      refine ⟨?_, ?_, fun t ht => ?_, fun b z2 z3 => by rw [t10 b z2 z3, zx_uI_ne z2, zx_uI_ne z2], t4, t5⟩
      · rw [t6]
        congr 1
        omega
      · rw [t7, nI_clamp (by omega)]
        simp [zx_uI]
      · have := t8 t ht
        rw [show 6 - 6 + t = t by omega] at this
        exact this
    refine ⟨b, J', r1, fr3_tr hfr r2, r3.trans h03, by rw [eR, t1]; exact cTof _ t10, ?_⟩
    rcases r4 with ⟨s1, s2⟩ | ⟨s1, vs', e', s2, s3⟩
    · refine Or.inl ⟨s1, Or.inr ?_⟩
      rw [eR, t1]
      exact (htk I' vs hV).trans (s2 vs e I' hns hV)
    · rw [hns] at s2
      cases s2
      obtain ⟨K, k1, k2, k3⟩ := s3 I' hV
      refine Or.inr ⟨s1, e, K, by omega, t3, by rw [eR, t1], ?_, k2, k3⟩
      rw [eR, t1]
      exact (htk I' vs hV).trans k1
theorem it_none {a l pos : Nat} {T : Nat → Nat} {I J1 : zx_I} : IT a l T I J1 pos (some (0, J1)) (fun _ => none) := ⟨0, J1, rfl, fr3_rf, rfl, Or.inl ⟨rfl, fun _ _ _ _ _ => rfl⟩⟩
theorem item_spec {a l n9 pos : Nat} {T : Nat → Nat} {fst : Bool} {I J : zx_I} {m p c f ct : Nat} (ha : a = 4 ∨ a = 14) (hn : 200 ≤ n9) (q : PS a l T fst I J m p c f ct pos) (hpl : pos < l) : ∃ b J', mf_isItem n9 (if fst = true then 1 else 0) (zx_uI J 0 3 (nI pos)) = some (b, J') ∧ fr3 J J' ∧ J' 0 3 = nI pos ∧ cT a I (fi_read I l pos).2 ∧ ((b = 0 ∧ ((fi_read I l pos).1 = -4 ∨ fh_takes (fi_read I l pos).2 a = none)) ∨ (b = 1 ∧ ∃ e K, pos < e ∧ e ≤ l ∧ (fi_read I l pos).1 = nI e ∧ fh_takes (fi_read I l pos).2 a = some K ∧ cT a I K ∧ ∃ m p c f ct, PS a l T false K J' m p c f ct e)) := by
  have hl := q.1.1
  obtain ⟨T256, tJ, tI1, tI2⟩ := q.1.2.2.2 pos hpl
  have hpos : J 0 2 = nI pos := q.2.2.2.2.2.2.1
  have hJ00 : J 0 0 = nI l := q.1.2.2.1
  have hby : mf_byteNow (zx_uI J 0 3 (nI pos)) = some (nI (T pos)) := by
    rw [by_at (J := zx_uI J 0 3 (nI pos)) q.1 (by simp [zx_uI]; exact hJ00) (zx_uI_ne (by decide)) (by simp [zx_uI]; exact hpos) (by omega), if_pos hpl]
  have e02 : zx_uI J 0 3 (nI pos) 0 2 + 1 = nI (pos + 1) := by
    rw [show zx_uI J 0 3 (nI pos) 0 2 = J 0 2 by simp [zx_uI], hpos, nI_1]
  generalize hJ1 : zx_uI (zx_uI J 0 3 (nI pos)) 0 2 (nI (pos + 1)) = J1
  have fJ1 : fr3 J J1 := by
    rw [← hJ1]
    exact ⟨fun b b0 _ => by rw [zx_uI_ne b0, zx_uI_ne b0], fun y y2 y3 _ => by simp [zx_uI, y2, y3]⟩
  have h03 : J1 0 3 = nI pos := by
    rw [← hJ1]
    simp [zx_uI]
  have h02 : J1 0 2 = nI (pos + 1) := by
    rw [← hJ1]
    simp [zx_uI]
  have h2z : ∀ z, J1 2 z = J 2 z := fun z => by rw [← hJ1, zx_uI_ne (by decide), zx_uI_ne (by decide)]
  have lam : ∀ k : Nat, k < 128 → (I 1 pos = nI k ↔ T pos = k) := fun k hk => by
    by_cases u : T pos < 128
    · rw [tI1 u]
      exact nI_eq (by omega) (by omega)
    · have hneg := tI2 (by omega)
      refine ⟨fun w => ?_, fun w => by omega⟩
      rw [w] at hneg
      exact absurd hneg (nI_pos (by omega))
  have hV0 : ∀ I' vs, VI I I' pos vs → I' a 0 = (if fst = true then 0 else 1) ∧ I' 2 1 = I 1 pos := fun I' vs hV => ⟨by rw [hV.2.2.2.1 a (by omega) (by omega)]; exact q.2.1, hV.2.1⟩
  have tInt : (nI (T pos)).toInt = (T pos : Int) := nI_toInt (by omega)
  -- the model in short
  have hmod : ∀ mres : Option (Int32 × zx_I), mf_isItem n9 (if fst = true then 1 else 0) (zx_uI J 0 3 (nI pos)) = mres → (∃ tk', IT a l T I J1 pos mres tk' ∧ ∀ I' vs, VI I I' pos vs → fh_takes I' a = tk' I') → ∃ b J', mf_isItem n9 (if fst = true then 1 else 0) (zx_uI J 0 3 (nI pos)) = some (b, J') ∧ fr3 J J' ∧ J' 0 3 = nI pos ∧ cT a I (fi_read I l pos).2 ∧ ((b = 0 ∧ ((fi_read I l pos).1 = -4 ∨ fh_takes (fi_read I l pos).2 a = none)) ∨ (b = 1 ∧ ∃ e K, pos < e ∧ e ≤ l ∧ (fi_read I l pos).1 = nI e ∧ fh_takes (fi_read I l pos).2 a = some K ∧ cT a I K ∧ ∃ m p c f ct, PS a l T false K J' m p c f ct e)) := by
    rintro mres e1 ⟨tk', e2, e3⟩
    rw [e1]
    exact it_fin q.1 hpl e2 e3 fJ1 h03 ha
  have e116 : (nI (T pos) = 116) ↔ T pos = 116 := nI_eq (b := 116) (by omega) (by decide)
  have l116 : (I 1 pos = 116) ↔ T pos = 116 := lam 116 (by decide)
  by_cases hA : (fst = true ↔ T pos = 116)
  · cases fst with
    | true =>
      have t116 : T pos = 116 := hA.mp rfl
      refine hmod (seq9 n9 0 [(fun _ => 1, 6), (fun _ => 1, 60), (fun _ => 0, 40), (fun J => J 2 2, 95), (fun _ => 0, 999)] J1) ?_ ⟨_, it_tank ha hn q hpl fJ1 h2z h02, fun I' vs hV => ?_⟩
      · unfold mf_isItem
        rw [hby, Option.bind_some, if_pos (e116.mpr t116), Option.bind_some, if_pos (show (1 : Int32) = (if true = true then 1 else 0) from rfl), tInt, t116, e02, hJ1]
        rfl
      · obtain ⟨v1, v2⟩ := hV0 I' vs hV
        have v1' : I' a 0 = 0 := v1
        unfold fh_takes
        rw [v1', v2, if_pos (l116.mpr t116), if_neg (by decide), if_pos (l116.mpr t116)]
    | false =>
      have t116 : ¬ T pos = 116 := fun w => by have := hA.mpr w; cases this
      have start : ∀ I' vs, VI I I' pos vs → I' a 0 = 1 ∧ I' 2 1 = I 1 pos := fun I' vs hV => hV0 I' vs hV
      have ln : ∀ k : Nat, k < 128 → T pos ≠ k → ¬ I 1 pos = nI k := fun k hk w z => w ((lam k hk).mp z)
      have n116 : ¬ I 1 pos = 116 := ln 116 (by decide) t116
      have n97 : T pos ≠ 97 → ¬ I 1 pos = 97 := ln 97 (by decide)
      have p97 : T pos = 97 → I 1 pos = 97 := (lam 97 (by decide)).mpr
      have n98 : T pos ≠ 98 → ¬ I 1 pos = 98 := ln 98 (by decide)
      have p98 : T pos = 98 → I 1 pos = 98 := (lam 98 (by decide)).mpr
      have n99 : T pos ≠ 99 → ¬ I 1 pos = 99 := ln 99 (by decide)
      have p99 : T pos = 99 → I 1 pos = 99 := (lam 99 (by decide)).mpr
      have n102 : T pos ≠ 102 → ¬ I 1 pos = 102 := ln 102 (by decide)
      have p102 : T pos = 102 → I 1 pos = 102 := (lam 102 (by decide)).mpr
      have n107 : T pos ≠ 107 → ¬ I 1 pos = 107 := ln 107 (by decide)
      have p107 : T pos = 107 → I 1 pos = 107 := (lam 107 (by decide)).mpr
      have n110 : T pos ≠ 110 → ¬ I 1 pos = 110 := ln 110 (by decide)
      have p110 : T pos = 110 → I 1 pos = 110 := (lam 110 (by decide)).mpr
      have n113 : T pos ≠ 113 → ¬ I 1 pos = 113 := ln 113 (by decide)
      have p113 : T pos = 113 → I 1 pos = 113 := (lam 113 (by decide)).mpr
      have n115 : T pos ≠ 115 → ¬ I 1 pos = 115 := ln 115 (by decide)
      have p115 : T pos = 115 → I 1 pos = 115 := (lam 115 (by decide)).mpr
      have m0 : mf_isItem n9 (if false = true then 1 else 0) (zx_uI J 0 3 (nI pos)) = (if (T pos : Int) = 97 then ((mf_isPair n9 (6 : Int32) J1).bind fun p230 => some (p230.1, p230.2)) else (if (T pos : Int) = 98 then ((mf_isBather n9 J1).bind fun p223 => some (p223.1, p223.2)) else (if (T pos : Int) = 99 then ((mf_isPut n9 (11 : Int32) (0 : Int32) (9 : Int32) (59 : Int32) J1).bind fun p218 => some (p218.1, p218.2)) else (if (T pos : Int) = 102 then ((mf_isFire n9 J1).bind fun p206 => some (p206.1, p206.2)) else (if (T pos : Int) = 107 then seq9 n9 13 [(fun _ => 0, 20), (fun _ => 1, 30)] J1 else (if (T pos : Int) = 110 then ((mf_isPut n9 (15 : Int32) (1 : Int32) (60 : Int32) (59 : Int32) J1).bind fun p295 => some (p295.1, p295.2)) else (if (T pos : Int) = 113 then ((mf_isPut n9 (12 : Int32) (0 : Int32) (9 : Int32) (59 : Int32) J1).bind fun p249 => some (p249.1, p249.2)) else (if (T pos : Int) = 115 then ((mf_isPair n9 (7 : Int32) J1).bind fun p237 => some (p237.1, p237.2)) else (if (T pos : Int) = 116 then seq9 n9 0 [(fun _ => 1, 6), (fun _ => 1, 60), (fun _ => 0, 40), (fun J => J 2 2, 95), (fun _ => 0, 999)] J1 else some (0, J1)))))))))) := by
        unfold mf_isItem
        rw [hby, Option.bind_some, if_neg (fun w => t116 (e116.mp w)), Option.bind_some, if_pos (show (0 : Int32) = (if false = true then 1 else 0) from rfl), tInt, e02, hJ1]
        rfl
      have eta : ∀ x : Option (Int32 × zx_I), (x.bind fun p => some (p.1, p.2)) = x := fun x => by cases x <;> rfl
      by_cases t97 : T pos = 97
      · refine hmod (mf_isPair n9 (nI 6) J1) ?_ ⟨_, it_pair ha hn q hpl fJ1 h2z h02 (Or.inl ⟨rfl, (lam 97 (by decide)).mpr t97⟩), fun I' vs hV => ?_⟩
        · rw [m0, if_pos (by omega)]
          exact eta _
        · obtain ⟨v1, v2⟩ := start I' vs hV
          unfold fh_takes
          rw [v1, v2, if_neg n116, if_neg (by decide), if_neg n116, if_neg (n102 (by omega)), if_neg (n98 (by omega)), if_pos (Or.inl (p97 t97))]
      · by_cases t98 : T pos = 98
        · refine hmod (mf_isBather n9 J1) ?_ ⟨_, it_bather ha hn q hpl fJ1 h2z h02, fun I' vs hV => ?_⟩
          · rw [m0, if_neg (by omega), if_pos (by omega)]
            exact eta _
          · obtain ⟨v1, v2⟩ := start I' vs hV
            unfold fh_takes
            rw [v1, v2, if_neg n116, if_neg (by decide), if_neg n116, if_neg (n102 (by omega)), if_pos (p98 t98)]
        · by_cases t99 : T pos = 99
          · refine hmod ((mf_isPut n9 (nI 11) (nI 0) (nI 9) 59 J1).bind fun p218 => some (p218.1, p218.2)) ?_ ⟨fun I' => tk_if (¬ fi_one I' (nI 0) (nI 9) = 0) (zx_uI I' a 8 (fi_num I' 0)), it_one (y := 8) ha hn q hpl fJ1 h2z h02 (by decide) (by decide) _ (by decide) (fun I' => ⟨fun w => tk_if_t w, fun w => tk_if_f (fun z => z w)⟩), fun I' vs hV => ?_⟩
            · rw [m0, if_neg (by omega), if_neg (by omega), if_pos (by omega)]
              rfl
            · obtain ⟨v1, v2⟩ := start I' vs hV
              have l99 : I 1 pos = 99 := p99 t99
              have et : ti_num I' = fi_one I' (nI 0) (nI 9) := by
                unfold ti_num
                rw [v2, if_pos l99]
                rfl
              have em : tm_num I' a = zx_uI I' a 8 (fi_num I' 0) := by
                unfold tm_num
                rw [v2, if_pos l99]
              unfold fh_takes
              rw [v1, v2, if_neg n116, if_neg (by decide), if_neg n116, if_neg (n102 (by omega)), if_neg (n98 (by omega)), if_neg (fun w => w.elim (n97 (by omega)) (n115 (by omega))), if_neg (n107 (by omega)), et, em]
          · by_cases t102 : T pos = 102
            · refine hmod (mf_isFire n9 J1) ?_ ⟨_, it_stage ha hn q hpl fJ1 h2z h02, fun I' vs hV => ?_⟩
              · rw [m0, if_neg (by omega), if_neg (by omega), if_neg (by omega), if_pos (by omega)]
                exact eta _
              · obtain ⟨v1, v2⟩ := start I' vs hV
                unfold fh_takes
                rw [v1, v2, if_neg n116, if_neg (by decide), if_neg n116, if_pos (p102 t102)]
            · by_cases t107 : T pos = 107
              · refine hmod (seq9 n9 13 [(fun _ => 0, 20), (fun _ => 1, 30)] J1) ?_ ⟨_, it_kettle ha hn q hpl fJ1 h2z h02, fun I' vs hV => ?_⟩
                · rw [m0, if_neg (by omega), if_neg (by omega), if_neg (by omega), if_neg (by omega), if_pos (by omega)]
                · obtain ⟨v1, v2⟩ := start I' vs hV
                  unfold fh_takes
                  rw [v1, v2, if_neg n116, if_neg (by decide), if_neg n116, if_neg (n102 (by omega)), if_neg (n98 (by omega)), if_neg (fun w => w.elim (n97 (by omega)) (n115 (by omega))), if_pos (p107 t107)]
              · by_cases t110 : T pos = 110
                · refine hmod ((mf_isPut n9 (nI 15) (nI 1) (nI 60) 59 J1).bind fun p218 => some (p218.1, p218.2)) ?_ ⟨fun I' => tk_if (¬ fi_one I' (nI 1) (nI 60) = 0) (zx_uI I' a 12 (fi_num I' 0)), it_one (y := 12) ha hn q hpl fJ1 h2z h02 (by decide) (by decide) _ (by decide) (fun I' => ⟨fun w => tk_if_t w, fun w => tk_if_f (fun z => z w)⟩), fun I' vs hV => ?_⟩
                  · rw [m0, if_neg (by omega), if_neg (by omega), if_neg (by omega), if_neg (by omega), if_neg (by omega), if_pos (by omega)]
                    rfl
                  · obtain ⟨v1, v2⟩ := start I' vs hV
                    have l110 : I 1 pos = 110 := p110 t110
                    have n99 : ¬ I 1 pos = 99 := n99 t99
                    have n113 : ¬ I 1 pos = 113 := n113 (by omega)
                    have et : ti_num I' = fi_one I' (nI 1) (nI 60) := by
                      unfold ti_num
                      rw [v2, if_neg n99, if_neg n113, if_pos l110]
                      rfl
                    have em : tm_num I' a = zx_uI I' a 12 (fi_num I' 0) := by
                      unfold tm_num
                      rw [v2, if_neg n99, if_neg n113]
                    unfold fh_takes
                    rw [v1, v2, if_neg n116, if_neg (by decide), if_neg n116, if_neg (n102 (by omega)), if_neg (n98 (by omega)), if_neg (fun w => w.elim (n97 (by omega)) (n115 (by omega))), if_neg (n107 (by omega)), et, em]
                · by_cases t113 : T pos = 113
                  · refine hmod ((mf_isPut n9 (nI 12) (nI 0) (nI 9) 59 J1).bind fun p218 => some (p218.1, p218.2)) ?_ ⟨fun I' => tk_if (¬ fi_one I' (nI 0) (nI 9) = 0) (zx_uI I' a 11 (fi_num I' 0)), it_one (y := 11) ha hn q hpl fJ1 h2z h02 (by decide) (by decide) _ (by decide) (fun I' => ⟨fun w => tk_if_t w, fun w => tk_if_f (fun z => z w)⟩), fun I' vs hV => ?_⟩
                    · rw [m0, if_neg (by omega), if_neg (by omega), if_neg (by omega), if_neg (by omega), if_neg (by omega), if_neg (by omega), if_pos (by omega)]
                      rfl
                    · obtain ⟨v1, v2⟩ := start I' vs hV
                      have l113 : I 1 pos = 113 := p113 t113
                      have n99 : ¬ I 1 pos = 99 := n99 t99
                      have et : ti_num I' = fi_one I' (nI 0) (nI 9) := by
                        unfold ti_num
                        rw [v2, if_neg n99, if_pos l113]
                        rfl
                      have em : tm_num I' a = zx_uI I' a 11 (fi_num I' 0) := by
                        unfold tm_num
                        rw [v2, if_neg n99, if_pos l113]
                      unfold fh_takes
                      rw [v1, v2, if_neg n116, if_neg (by decide), if_neg n116, if_neg (n102 (by omega)), if_neg (n98 (by omega)), if_neg (fun w => w.elim (n97 (by omega)) (n115 (by omega))), if_neg (n107 (by omega)), et, em]
                  · by_cases t115 : T pos = 115
                    · refine hmod (mf_isPair n9 (nI 7) J1) ?_ ⟨_, it_pair ha hn q hpl fJ1 h2z h02 (Or.inr ⟨rfl, ln 97 (by decide) t97⟩), fun I' vs hV => ?_⟩
                      · rw [m0, if_neg (by omega), if_neg (by omega), if_neg (by omega), if_neg (by omega), if_neg (by omega), if_neg (by omega), if_neg (by omega), if_pos (by omega)]
                        exact eta _
                      · obtain ⟨v1, v2⟩ := start I' vs hV
                        unfold fh_takes
                        rw [v1, v2, if_neg n116, if_neg (by decide), if_neg n116, if_neg (n102 (by omega)), if_neg (n98 (by omega)), if_pos (Or.inr (p115 t115))]
                    · refine hmod (some (0, J1)) ?_ ⟨_, it_none, fun I' vs hV => ?_⟩
                      · rw [m0, if_neg (by omega), if_neg (by omega), if_neg (by omega), if_neg (by omega), if_neg (by omega), if_neg (by omega), if_neg (by omega), if_neg (by omega), if_neg (by omega)]
                      · obtain ⟨v1, v2⟩ := start I' vs hV
                        have et : ti_num I' = 0 := by
                          unfold ti_num
                          rw [v2, if_neg (n99 t99), if_neg (n113 t113), if_neg (n110 t110)]
                        unfold fh_takes
                        rw [v1, v2, if_neg n116, if_neg (by decide), if_neg n116, if_neg (n102 t102), if_neg (n98 t98), if_neg (fun w => w.elim (n97 t97) (n115 t115)), if_neg (n107 t107)]
                        exact tk_if_f (fun w => w et)
  · refine hmod (some (0, J1)) ?_ ⟨_, it_none, fun I' vs hV => ?_⟩
    · unfold mf_isItem
      rw [hby, Option.bind_some]
      cases fst with
      | true =>
        rw [if_neg (fun w => hA ⟨fun _ => e116.mp w, fun _ => rfl⟩), Option.bind_some, if_neg (by decide), e02, hJ1]
      | false =>
        have t116 : T pos = 116 := Classical.byContradiction (fun w => hA ⟨(fun z => by cases z), fun z => absurd z w⟩)
        rw [if_pos (e116.mpr t116), Option.bind_some, if_neg (by decide), e02, hJ1]
    · obtain ⟨v1, v2⟩ := hV0 I' vs hV
      unfold fh_takes
      rw [v1, v2]
      cases fst with
      | true =>
        rw [if_neg (c := I 1 pos = 116) (fun w => hA ⟨fun _ => l116.mp w, fun _ => rfl⟩), if_pos (by decide)]
      | false =>
        have t116 : T pos = 116 := Classical.byContradiction (fun w => hA ⟨(fun z => by cases z), fun z => absurd z w⟩)
        rw [if_pos (c := I 1 pos = 116) (l116.mpr t116), if_pos (by decide)]
/-! the whole text -/
theorem cT_tr {a : Nat} {I J K : zx_I} (h1 : cT a I J) (h2 : cT a J K) : cT a I K := ⟨fun b z2 z3 za z4 z5 z6 => (h2.1 b z2 z3 za z4 z5 z6).trans (h1.1 b z2 z3 za z4 z5 z6), fun i hi => (h2.2 i hi).trans (h1.2 i hi)⟩
theorem text_loop {a l n9 : Nat} {T : Nat → Nat} {K : zx_I → Option (Int32 × zx_I)} (ha : a = 4 ∨ a = 14) (hn : 200 ≤ n9) (hl : l ≤ 400) : ∀ (n e pos : Nat) (fst : Bool) (I J : zx_I) (m p c f ct : Nat), PS a l T fst I J m p c f ct pos → l ≤ pos + n → n < e → (fst = true → pos < l) → ∃ J', fr3 J J' ∧ cT a I (ff_loop a l n pos I).2 ∧ ((mf_isRead_19 n9 K e (if fst = true then 1 else 0) J = K J' ∧ (ff_loop a l n pos I).1 = -4 ∧ ∃ m p c f ct, PS a l T false (ff_loop a l n pos I).2 J' m p c f ct l) ∨ (mf_isRead_19 n9 K e (if fst = true then 1 else 0) J = some (0, J') ∧ ∃ pp, pp < l ∧ (ff_loop a l n pos I).1 = nI pp ∧ J' 0 3 = nI pp)) := by
  intro n
  induction n with
  | zero =>
    intro e pos fst I J m p c f ct q hp he hfst
    obtain ⟨e, rfl⟩ : ∃ e9, e = e9 + 1 := ⟨e - 1, by omega⟩
    have hpl := q.2.2.2.2.2.2.2
    have hpe : pos = l := by omega
    subst hpe
    cases fst with
    | true => exact absurd (hfst rfl) (by omega)
    | false =>
      refine ⟨J, fr3_rf, ⟨fun _ _ _ _ _ _ _ => rfl, fun _ _ => rfl⟩, Or.inl ⟨?_, rfl, m, p, c, f, ct, q⟩⟩
      show mf_isRead_19_b _ _ _ _ _ = _
      unfold mf_isRead_19_b
      rw [q.2.2.2.2.2.2.1, q.1.2.2.1, if_neg (nI_nlt (Nat.le_refl _) (by omega)), if_pos (by decide)]
  | succ n ih =>
    intro e pos fst I J m p c f ct q hp he hfst
    obtain ⟨e, rfl⟩ : ∃ e9, e = e9 + 1 := ⟨e - 1, by omega⟩
    by_cases hpl : pos < l
    · obtain ⟨b, J1, r1, r2, r3, r4, r5⟩ := item_spec ha hn q hpl
      have body : mf_isRead_19 n9 K (e + 1) (if fst = true then 1 else 0) J = if b = 0 then some (0, J1) else mf_isRead_19 n9 K e 0 J1 := by
        show mf_isRead_19_b _ _ _ _ _ = _
        unfold mf_isRead_19_b
        rw [q.2.2.2.2.2.2.1, q.1.2.2.1, if_pos (nI_lt hpl (by omega)), r1, Option.bind_some]
      rcases r5 with ⟨s1, s2⟩ | ⟨s1, e', K', s2, s3, s4, s5, s6, s7⟩
      · have eL : ff_loop a l (n + 1) pos I = (nI pos, (fi_read I l pos).2) := by
          rw [ff_loop, if_pos hpl]
          rcases s2 with s2 | s2
          · rw [s2, if_pos (nI_neg4 (by omega))]
          · by_cases u : (fi_read I l pos).1 ≤ nI pos
            · rw [if_pos u]
            · rw [if_neg u, s2]
        rw [eL]
        exact ⟨J1, r2, r4, Or.inr ⟨by rw [body, if_pos s1], pos, hpl, rfl, r3⟩⟩
      · have eL : ff_loop a l (n + 1) pos I = ff_loop a l n e' K' := by
          rw [ff_loop, if_pos hpl, s4, if_neg (nI_ge s2 (by omega)), s5]
          dsimp only
          rw [nI_toInt (by omega)]
          rfl
        rw [eL]
        obtain ⟨m', p', c', f', ct', s8⟩ := s7
        obtain ⟨J', t1, t2, t3⟩ := ih e e' false K' J1 m' p' c' f' ct' s8 (by omega) (by omega) (fun w => by cases w)
        refine ⟨J', fr3_tr r2 t1, cT_tr s6 t2, ?_⟩
        have body' : mf_isRead_19 n9 K (e + 1) (if fst = true then 1 else 0) J = mf_isRead_19 n9 K e (if false = true then 1 else 0) J1 := by
          rw [body, s1, if_neg (by decide)]
          rfl
        rw [body']
        exact t3
    · have hpe : pos = l := by
        have := q.2.2.2.2.2.2.2
        omega
      subst hpe
      cases fst with
      | true => exact absurd (hfst rfl) (by omega)
      | false =>
        have eL : ff_loop a pos (n + 1) pos I = (-4, I) := by
          rw [ff_loop, if_neg hpl]
        rw [eL]
        refine ⟨J, fr3_rf, ⟨fun _ _ _ _ _ _ _ => rfl, fun _ _ => rfl⟩, Or.inl ⟨?_, rfl, m, p, c, f, ct, q⟩⟩
        show mf_isRead_19_b _ _ _ _ _ = _
        unfold mf_isRead_19_b
        rw [q.2.2.2.2.2.2.1, q.1.2.2.1, if_neg (nI_nlt (Nat.le_refl _) (by omega)), if_pos (by decide)]
