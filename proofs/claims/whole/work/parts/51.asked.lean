/-! evening, score, left, tap in both -/
theorem in_le {x b : Int32} {k : Nat} (hb : b.toInt = k) (h : ¬ x < 0) (h2 : ¬ b < x) : ∃ y : Nat, y ≤ k ∧ x = nI y := nI_of2 hb h (nlt_le.mp h2)
theorem cr_evening {h sp : Nat} {la : Option Nat} {I : zx_I} {L : zx_L} {J : zx_I} {M : zx_L} (rule i what : Int32) (hW : WR h sp I L J M) : CR mm_X9_evening mm_X10_evening [.int rule, .int i, .int what] h sp la I L J M := by
  have hW0 := hW
  obtain ⟨m, p, c, f, ct, q⟩ := hW
  have e13 := q.2.2.1.1
  have hct := q.2.2.1.2.1
  have h16 : J 3 16 = nI ct := (q.2.2.2.1 16 (by omega)).trans e13
  have bad : q_evok I h rule i what = none → mf_evening 200 rule i what J M = some (-1, J) → CR mm_X9_evening mm_X10_evening [.int rule, .int i, .int what] h sp la I L J M := fun b1 b2 => cr_ret (ct_X9_evening_no (d := 7) q.1 b1) (mt_evening (d := 1) b2) hW0
  by_cases c1 : q_rule rule = 0
  · refine bad ?_ ?_
    · unfold q_evok
      rw [c1]
      split
      · rfl
      · exact if_pos rfl
    · unfold mf_evening
      rw [if_pos (show mf_isRule rule = 0 from c1)]
  · have c1' : ¬ mf_isRule rule = 0 := c1
    rcases who_cs i e13 hct h16 with ⟨w1, w2⟩ | ⟨x, hx, rfl, w1, w2⟩
    · refine bad ?_ ?_
      · unfold q_evok
        rw [w1]
      · unfold mf_evening
        rw [if_neg c1', if_pos w2]
    · rcases in_cs (x := what) (a := 0) (b := 3) with ⟨z, z1⟩ | ⟨z, z1, z2⟩
      · refine bad ?_ ?_
        · unfold q_evok
          rw [w1]
          show (if q_rule rule = 0 then none else if what < 0 then none else if what ≤ 3 then some (h + 4 + x) else none) = none
          rw [if_neg c1]
          by_cases y : what < 0
          · rw [if_pos y]
          · rw [if_neg y, if_neg]
            intro y2
            exact nlt_le.mpr y2 (z1.resolve_left y)
        · unfold mf_evening
          rw [if_neg c1', if_neg (by rw [w2]; decide), if_pos z]
      · have ok : q_evok I h rule (nI x) what = some (h + 4 + x) := by
          unfold q_evok
          rw [w1]
          show (if q_rule rule = 0 then none else if what < 0 then none else if what ≤ 3 then some (h + 4 + x) else none) = _
          rw [if_neg c1, if_neg z1, if_pos (nlt_le.mp z2)]
        obtain ⟨J', s1, s2, s3, s4, -⟩ := so_spec (n := 200) (rule := rule) (by omega) q
        refine cr_ret (ct_X9_evening (d := 3) q.1 ok s2) (mt_evening (d := 1) (n := 200) (p := (q_evv (q_end I L h rule).1 (h + 4 + x) what, J')) ?_) ⟨m, p, c, f, ct, s3⟩
        have hx6 : x < 6 := by omega
        obtain ⟨r1, r2, r3, r4⟩ := s4.1 x hx6
        unfold mf_evening
        rw [if_neg c1', if_neg (by rw [w2]; decide), if_neg (by rw [z]; decide), s1, Option.bind_some, mo_g1 (mo_inN hx6 (by decide)), mo_g1 (mo_inN hx6 (by decide)), mo_g1 (mo_inN hx6 (by decide)), mo_g1 (mo_inN hx6 (by decide)), nI_clamp (by omega)]
        obtain ⟨y, hy, rfl⟩ := in_le (k := 3) rfl z1 z2
        unfold q_evv
        rw [nI_toInt (by omega)]
        dsimp only
        rw [r1, r2, r3, r4]
        rcases (show y = 0 ∨ y = 1 ∨ y = 2 ∨ y = 3 by omega) with rfl | rfl | rfl | rfl <;> rfl
theorem cr_score {h sp : Nat} {la : Option Nat} {I : zx_I} {L : zx_L} {J : zx_I} {M : zx_L} (rule what : Int32) (hW : WR h sp I L J M) : CR mm_X9_score mm_X10_score [.int rule, .int what] h sp la I L J M := by
  have hW0 := hW
  obtain ⟨m, p, c, f, ct, q⟩ := hW
  have bad : ¬ q_scok rule what → mf_score 200 rule what J M = some (-1, J) → CR mm_X9_score mm_X10_score [.int rule, .int what] h sp la I L J M := fun b1 b2 => cr_ret (ct_X9_score_no (d := 7) q.1 b1) (mt_score (d := 1) b2) hW0
  by_cases c1 : q_rule rule = 0
  · refine bad (fun z => z.1 c1) ?_
    unfold mf_score
    rw [if_pos (show mf_isRule rule = 0 from c1)]
  · have c1' : ¬ mf_isRule rule = 0 := c1
    rcases in_cs (x := what) (a := 0) (b := 2) with ⟨z, z1⟩ | ⟨z, z1, z2⟩
    · refine bad (fun w => ?_) ?_
      · rcases z1 with z1 | z1
        · exact w.2.1 z1
        · exact nlt_le.mpr w.2.2 z1
      · unfold mf_score
        rw [if_neg c1', if_pos z]
    · obtain ⟨J', s1, s2, s3, s4, lt, dn, l1, l2, l3, l4, l5⟩ := so_spec (n := 200) (rule := rule) (by omega) q
      refine cr_ret (ct_X9_score (d := 3) q.1 ⟨c1, z1, nlt_le.mp z2⟩ s2) (mt_score (d := 1) (n := 200) (p := (q_scv (q_scr I L h rule) what, J')) ?_) ⟨m, p, c, f, ct, s3⟩
      unfold mf_score
      rw [if_neg c1', if_neg (by rw [z]; decide), s1, Option.bind_some]
      dsimp only
      rw [l3, l4, Option.bind_some, Option.bind_some]
      obtain ⟨y, hy, rfl⟩ := in_le (k := 2) rfl z1 z2
      unfold q_scv
      rw [nI_toInt (by omega), l5, show (100 : Int32) = nI 100 from rfl, pk_rem (by omega) (by decide) (by decide), pk_div (by omega) (by decide) (by decide), show (100 * lt + dn) / 100 = lt by omega, show (100 * lt + dn) % 100 = dn by omega]
      rcases (show y = 0 ∨ y = 1 ∨ y = 2 by omega) with rfl | rfl | rfl <;> rfl
theorem EA_tk {a m p c f ct : Nat} {I J : zx_I} (h : EA a m ct I J) (q : hvt I a m p c f) : tk_ok I := by
  obtain ⟨e1, e2, -, -, m1, m6, p1, p60, -⟩ := q
  unfold tk_ok
  rw [h.2.2.2.2.2.2.1, h.2.2.2.2.2.2.2, e2, nI_toInt (by omega), nI_toInt (by omega)]
  omega
theorem cr_left {h sp : Nat} {la : Option Nat} {I : zx_I} {L : zx_L} {J : zx_I} {M : zx_L} (rule what : Int32) (hW : WR h sp I L J M) : CR mm_X9_left mm_X10_left [.int rule, .int what] h sp la I L J M := by
  have hW0 := hW
  obtain ⟨m, p, c, f, ct, q⟩ := hW
  have bad : ¬ q_lfok I h rule what → mf_left 200 rule what J M = some (-1, J) → CR mm_X9_left mm_X10_left [.int rule, .int what] h sp la I L J M := fun b1 b2 => cr_ret (ct_X9_left_no (d := 7) q.1 b1) (mt_left (d := 1) b2) hW0
  by_cases c1 : q_rule rule = 0
  · refine bad (fun z => z.1 c1) ?_
    unfold mf_left
    rw [if_pos (show mf_isRule rule = 0 from c1)]
  · have c1' : ¬ mf_isRule rule = 0 := c1
    have e0 : J 3 0 = I h 1 := q.2.2.2.1 0 (by omega)
    have em : I h 1 = nI m := q.2.1.1.1
    have hm6 : m ≤ 6 := q.2.1.1.2.2.2.2.2.1
    rcases in_cs (x := what) (a := 0) (b := 7) with ⟨z, z1⟩ | ⟨z, z1, z2⟩
    · refine bad (fun w => ?_) ?_
      · rcases z1 with z1 | z1
        · exact w.2.1 z1
        · exact w.2.2.1 z1
      · unfold mf_left
        rw [if_neg c1', if_pos z]
    · obtain ⟨y, hy, rfl⟩ := in_le (k := 7) rfl z1 z2
      have z2' : ¬ nI y > 7 := z2
      obtain ⟨J', s1, s2, s3, s4, -⟩ := so_spec (n := 200) (rule := rule) (by omega) q
      have good : q_lfok I h rule (nI y) → mf_left 200 rule (nI y) J M = some (q_lfv (q_end I L h rule).1 (nI y), J') → CR mm_X9_left mm_X10_left [.int rule, .int (nI y)] h sp la I L J M := fun g1 g2 => cr_ret (ct_X9_left (d := 3) q.1 g1 s2 (EA_tk s4 s3.2.1.1)) (mt_left (d := 1) g2) ⟨m, p, c, f, ct, s3⟩
      by_cases c6 : 6 ≤ y
      · refine good ⟨c1, z1, z2', Or.inl (show (6 : Int32) ≤ nI y from nI_le (a := 6) c6 (by omega))⟩ ?_
        unfold mf_left
        rw [if_neg c1', if_neg (by rw [z]; decide), if_pos (show (6 : Int32) ≤ nI y from nI_le (a := 6) c6 (by omega)), s1, Option.bind_some]
        dsimp only
        unfold q_lfv
        rw [s4.2.2.1, s4.2.2.2.1, nI_toInt (by omega)]
        rcases (show y = 6 ∨ y = 7 by omega) with rfl | rfl <;> rfl
      · by_cases c7 : y < m
        · have hy2 : nI y < I h 1 := by rw [em]; exact nI_lt c7 (by omega)
          refine good ⟨c1, z1, z2', Or.inr hy2⟩ ?_
          have e1 : J' 3 1 = nI p := (s3.2.2.2.1 1 (by omega)).trans s3.2.1.1.2.1
          have p1 : 1 ≤ p := s3.2.1.1.2.2.2.2.2.2.1
          have p60 : p ≤ 60 := s3.2.1.1.2.2.2.2.2.2.2.1
          unfold mf_left
          rw [if_neg c1', if_neg (by rw [z]; decide), if_neg (show ¬ (6 : Int32) ≤ nI y from nI_ge (b := 6) (by omega) (by decide)), e0, if_pos hy2, s1, Option.bind_some]
          dsimp only
          rw [if_neg (show ¬ nI y = (6 : Int32) from fun w => by have := (nI_eq (a := y) (b := 6) (by omega) (by decide)).mp w; omega), if_neg (show ¬ nI y = (7 : Int32) from fun w => by have := (nI_eq (a := y) (b := 7) (by omega) (by decide)).mp w; omega), mo_g1 (mo_inN (by omega) (by decide)), e1, mo_g1 (mo_nzN p1 (by omega)), nI_clamp (by omega), s4.2.1 y c7]
          unfold q_lfv ft_unitsIn
          rw [nI_toInt (by omega), if_neg (by omega), if_neg (by omega), if_neg (nI_pos (by omega)), s4.2.2.2.2.2.2.1, if_pos (nI_lt c7 (by omega)), nI_clamp (by omega), s4.2.2.2.2.2.2.2, s3.2.1.1.2.1]
        · have hy2 : ¬ nI y < I h 1 := by rw [em]; exact nI_nlt (by omega) (by omega)
          refine bad (fun w => ?_) ?_
          · rcases w.2.2.2 with w | w
            · exact nI_ge (b := 6) (a := y) (by omega) (by decide) w
            · exact hy2 w
          · unfold mf_left
            rw [if_neg c1', if_neg (by rw [z]; decide), if_neg (show ¬ (6 : Int32) ≤ nI y from nI_ge (b := 6) (by omega) (by decide)), e0, if_neg hy2]
theorem AR_34 {a : Nat} {I I' J J' : zx_I} {rule : Int32} {m p c f ct : Nat} (ha : a = 4 ∨ a = 14) (h : AR a I J rule m p c f ct) (h1 : ∀ b, b ≠ 34 → I' b = I b) (h1' : I' 34 0 = I 34 0 ∧ I' 34 1 = I 34 1) (h2 : ∀ b, b = 3 ∨ b = 12 ∨ b = 17 → J' b = J b) (h3 : J' 0 8 = J 0 8) (h4 : tpr I' J') (h5 : rg (I' 34 7) 0 99) : AR a I' J' rule m p c f ct := by
  obtain ⟨⟨a1, a2⟩, ⟨b1, b2, b3⟩, a3, ⟨a4, a4'⟩, a5, a6, a7, a8, a9⟩ := h
  have hs : hsame I I' a := ⟨h1 _ (by omega), h1 _ (by omega), h1 _ (by omega), fun i hi k _ => by rw [h1 _ (by omega)]⟩
  have e35 := h1 35 (by decide)
  refine ⟨⟨hvt_cg hs.1 a1, hvr_cg hs a2⟩, ⟨by rw [hs.1]; exact b1, b2, fun i hi => hvb_cg (fun k hk => hs.2.2.2 i (by omega) k hk) (b3 i hi)⟩, fun k hk => by rw [h2 3 (by omega), ho_cg hs b2 hk]; exact a3 k hk, ⟨h1'.1.trans a4, by rw [h3, h1'.2]; exact a4'⟩, fun k hk => by rw [e35, h2 17 (by omega)]; exact a5 k hk, by rw [e35]; exact a6, fun j hj => ?_, h4, h5⟩
  rw [h2 12 (by omega), h1 _ (by omega)]
  exact a7 j hj
theorem cW_34 {h sp : Nat} {I I' : zx_I} (hh : hsp h sp) (h1 : ∀ b, b ≠ 34 → b ≠ 35 → b ≠ 41 → I' b = I b) : cW h sp I I' := ⟨fun b _ _ _ _ _ z _ => h1 b (by omega) (by omega) (by omega), fun b hb => by rw [h1 b (by unfold bt at hb; omega) (by unfold bt at hb; omega) (by unfold bt at hb; omega)], fun i hi k _ => by rw [h1 _ (by unfold hsp at hh; omega) (by unfold hsp at hh; omega) (by unfold hsp at hh; omega)]⟩
theorem cr_tap {h sp : Nat} {la : Option Nat} {I : zx_I} {L : zx_L} {J : zx_I} {M : zx_L} (rule s n pp : Int32) (hW : WR h sp I L J M) : CR mm_X9_tap mm_X10_tap [.int rule, .int s, .int n, .int pp] h sp la I L J M := by
  have hW0 := hW
  obtain ⟨m, p, c, f, ct, q⟩ := hW
  have bad : ¬ q_tpok rule s n pp → mf_tap 200 rule s n pp J M = some (-1, J) → CR mm_X9_tap mm_X10_tap [.int rule, .int s, .int n, .int pp] h sp la I L J M := fun b1 b2 => cr_ret (ct_X9_tap_no (d := 7) q.1 b1) (mt_tap (d := 2) b2) hW0
  by_cases c1 : q_rule rule = 0
  · refine bad (fun z => z.1 c1) ?_
    unfold mf_tap
    rw [if_pos (show mf_isRule rule = 0 from c1)]
  · have c1' : ¬ mf_isRule rule = 0 := c1
    rcases in_cs (x := s) (a := 0) (b := 59) with ⟨z, z1⟩ | ⟨z, z1, z2⟩
    · refine bad (fun w => ?_) ?_
      · rcases z1 with z1 | z1
        · exact w.2.1 z1
        · exact w.2.2.1 z1
      · unfold mf_tap
        rw [if_neg c1', if_pos z]
    · rcases in_cs (x := n) (a := 1) (b := 60) with ⟨y, y1⟩ | ⟨y, y1, y2⟩
      · refine bad (fun w => ?_) ?_
        · rcases y1 with y1 | y1
          · exact w.2.2.2.1 y1
          · exact w.2.2.2.2.1 y1
        · unfold mf_tap
          rw [if_neg c1', if_neg (by rw [z]; decide), if_pos y]
      · rcases in_cs (x := pp) (a := 1) (b := 99) with ⟨x, x1⟩ | ⟨x, x1, x2⟩
        · refine bad (fun w => ?_) ?_
          · rcases x1 with x1 | x1
            · exact w.2.2.2.2.2.1 x1
            · exact nlt_le.mpr w.2.2.2.2.2.2 x1
          · unfold mf_tap
            rw [if_neg c1', if_neg (by rw [z]; decide), if_neg (by rw [y]; decide), if_pos x]
        · obtain ⟨J1, f1, f2, f3, f4, f5, f6⟩ := ask_AR (n := 200) (rule := rule) (by omega) q
          have hh := hsp_h q.1
          have x0 : ¬ pp < 0 := fun w => x1 (by rw [Int32.lt_iff_toInt_lt] at w ⊢; have e0 : (0 : Int32).toInt = 0 := rfl; have e1 : (1 : Int32).toInt = 1 := rfl; omega)
          obtain ⟨k, hk, ek⟩ := in_le (k := 99) rfl x0 x2
          have eq5 : ∀ b, b ≠ 34 → q_tpm I h rule s n pp b = q_ask I h rule b := fun b hb => by
            unfold q_tpm
            rw [zx_uI_ne hb, zx_uI_ne hb, zx_uI_ne hb]
          have hAR : AR h (q_tpm I h rule s n pp) (zx_uI (zx_uI (zx_uI J1 0 28 s) 0 29 n) 0 30 pp) rule m p c f ct := by
            refine AR_34 hh f2 eq5 ?_ (fun b hb => by rw [zx_uI_ne (by omega), zx_uI_ne (by omega), zx_uI_ne (by omega)]) (by simp [zx_uI]) (Or.inr ?_) ?_
            · unfold q_tpm
              exact ⟨by simp [zx_uI], by simp [zx_uI]⟩
            · unfold q_tpm
              exact ⟨by simp [zx_uI], by simp [zx_uI], by simp [zx_uI]⟩
            · unfold q_tpm
              exact ⟨k, by simp [zx_uI, ek], Nat.zero_le _, hk⟩
          obtain ⟨J2, g1, g2, g3, g4, g5, g6⟩ := run_spec (n := 200) (L := q_L L) hh (by omega) hAR
          have eL : q_L L 34 3 = M 0 9 := by
            unfold q_L
            have := q.2.2.2.2.2.2.1.2.2.2.1.1
            simp [zx_uL, this]
          have e8 : q_tpm I h rule s n pp 34 2 = J1 3 11 := by
            have e9 : q_tpm I h rule s n pp 34 2 = q_ask I h rule 34 2 := by
              unfold q_tpm
              simp [zx_uI]
            rw [e9, (ask_34 hh).2.2.1, f4, q.2.2.2.1 11 (by omega)]
            rfl
          refine cr_ret (ct_X9_tap (d := 3) q.1 ⟨c1, z1, z2, y1, y2, x1, nlt_le.mp x2⟩ (Kh_rn hh (AR_Kh hAR))) (mt_tap (d := 2) (n := 200) (p := (fr_score (q_tpm I h rule s n pp) (q_L L) h, J2)) ?_) ⟨m, p, c, f, ct, WRx_cg q (cW_tr (ask_cW q.1) (cW_tr (cW_34 q.1 (fun b z1 _ _ => eq5 b z1)) (cW_cfr q.1 g4))) (fun b hb => zx_uL_ne hb) (mW_tr f3 (mW_tr ⟨fun b hb => by rw [zx_uI_ne (by omega), zx_uI_ne (by omega), zx_uI_ne (by omega)], by simp [zx_uI], by simp [zx_uI], by simp [zx_uI]⟩ (mW_mkeep g2)))⟩
          unfold mf_tap
          rw [if_neg c1', if_neg (by rw [z]; decide), if_neg (by rw [y]; decide), if_neg (by rw [x]; decide), f1, Option.bind_some, ← eL, ← e8, g1]
          rfl
