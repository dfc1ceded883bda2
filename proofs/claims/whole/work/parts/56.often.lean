/-! evenings over and over in both: when, fewest -/
def RR (h : Nat) (rule may : Int32) (m p c f ct : Nat) (I J : zx_I) : Prop := AR h I J rule m p c f ct ∧ I 34 2 = may
theorem run_RR {n h : Nat} {I J : zx_I} {rule may : Int32} {m p c f ct : Nat} (L : zx_L) (ha : h = 4 ∨ h = 14) (hn : 200 ≤ n) (q : RR h rule may m p c f ct I J) : ∃ J', mf_goThrough n rule (L 34 3) may J = some (fr_score I L h, J') ∧ RR h rule may m p c f ct (fr_end I L h).1 J' ∧ mkeep J J' ∧ cfr I (fr_end I L h).1 ∧ EA h m ct (fr_end I L h).1 J' ∧ ∃ lt dn, lt ≤ 6 ∧ dn ≤ 99 ∧ mf_lateNow n J' = some (nI lt) ∧ mf_doneNow n J' = some (nI dn) ∧ fr_score I L h = nI (100 * lt + dn) := by
  obtain ⟨J', e1, e2, e3, e4, e5, e6⟩ := run_spec (L := L) ha hn q.1
  rw [q.2] at e1
  exact ⟨J', e1, ⟨e3, by rw [e4.1 34 (by decide) (by decide) (by decide) (by decide) (by decide) (by unfold bt; decide)]; exact q.2⟩, e2, e4, e5, e6⟩
/-- the house as it was -/
def KK (h : Nat) (I0 J : zx_I) : Prop := Kh h J ∧ J h = I0 h ∧ ∀ i, i < 6 → ∀ k, k < 9 → J (h + 4 + i) k = I0 (h + 4 + i) k
theorem KK_kr {h : Nat} {I0 : zx_I} (ha : h = 4 ∨ h = 14) : kr (KK h I0) h := by
  intro J L q
  obtain ⟨z1, z2⟩ := Kh_kr ha J L q.1
  have hc := cfr_run (L := L) ha q.1
  refine ⟨z1, z2, ?_, fun i hi k hk => ?_⟩
  · rw [hc.1 h (by omega) (by omega) (by omega) (by omega) (by omega) (by unfold bt; omega)]
    exact q.2.1
  · rw [hc.2 _ (bt_of ha hi) k (by omega)]
    exact q.2.2 i hi k hk
theorem KK_9 {h : Nat} {I0 : zx_I} (ha : h = 4 ∨ h = 14) {j : Nat} (hj : j < 6) (J : zx_I) (x : Int32) (q : KK h I0 J) : KK h I0 (zx_uI J (h + 4 + j) 9 x) := by
  have e : ∀ i, i < 6 → ∀ k, k < 9 → zx_uI J (h + 4 + j) 9 x (h + 4 + i) k = J (h + 4 + i) k := fun i _ k hk => by
    simp only [zx_uI]
    split
    · rw [if_neg (by omega)]
    · rfl
  have ne : ∀ b, b = h ∨ b = h + 1 ∨ b = h + 2 ∨ b = 34 → zx_uI J (h + 4 + j) 9 x b = J b := fun b hb => zx_uI_ne (by omega)
  refine ⟨⟨hv_cg ⟨ne _ (by omega), ne _ (by omega), ne _ (by omega), e⟩ q.1.1, by rw [ne 34 (by omega)]; exact q.1.2⟩, by rw [ne h (by omega)]; exact q.2.1, fun i hi k hk => by rw [e i hi k hk]; exact q.2.2 i hi k hk⟩
theorem KK_of {h : Nat} {I J : zx_I} {rule : Int32} {m p c f ct : Nat} (q : AR h I J rule m p c f ct) : KK h I I := ⟨AR_Kh q, rfl, fun _ _ _ _ => rfl⟩
theorem rr_34 {h : Nat} {I J : zx_I} {rule may may' : Int32} {m p c f ct : Nat} (ha : h = 4 ∨ h = 14) (q : RR h rule may m p c f ct I J) : RR h rule may' m p c f ct (zx_uI I 34 2 may') J := by
  refine ⟨AR_34 ha q.1 (fun b hb => zx_uI_ne hb) ⟨by simp [zx_uI], by simp [zx_uI]⟩ (fun _ _ => rfl) rfl ?_ ?_, by simp [zx_uI]⟩
  · have := q.1.2.2.2.2.2.2.2.1
    unfold tpr at this ⊢
    rw [show zx_uI I 34 2 may' 34 5 = I 34 5 by simp [zx_uI], show zx_uI I 34 2 may' 34 6 = I 34 6 by simp [zx_uI], show zx_uI I 34 2 may' 34 7 = I 34 7 by simp [zx_uI]]
    exact this
  · rw [show zx_uI I 34 2 may' 34 7 = I 34 7 by simp [zx_uI]]
    exact q.1.2.2.2.2.2.2.2.2
theorem ask_RR {h sp n : Nat} {I : zx_I} {L : zx_L} {J : zx_I} {M : zx_L} {rule : Int32} {m p c f ct : Nat} (hn : 200 ≤ n) (q : WRx h sp I L J M m p c f ct) : ∃ J1, mf_asTold n J = some J1 ∧ RR h rule (J 3 11) m p c f ct (q_ask I h rule) J1 ∧ mW J J1 ∧ J1 3 = J 3 ∧ (∀ k, k ≠ 29 → J1 0 k = J 0 k) ∧ ∀ b, b ≠ 0 → b ≠ 12 → b ≠ 17 → J1 b = J b := by
  obtain ⟨J1, f1, f2, f3, f4, f5, f6⟩ := ask_AR (rule := rule) hn q
  refine ⟨J1, f1, ⟨f2, ?_⟩, f3, f4, f5, f6⟩
  rw [(ask_34 (hsp_h q.1)).2.2.1, q.2.2.2.1 11 (by omega)]
  rfl
theorem mkeep_3 {J J' : zx_I} (h : mkeep J J') : J' 3 = J 3 := h.1 3 (by decide) (by decide) (by decide) (by decide) (by decide) (by decide) (by decide)
theorem wh_spec {n h N : Nat} {rule may x2 : Int32} {m p c f ct : Nat} {M : zx_L} {K : Int32 → Int32 → zx_I → Option (Int32 × zx_I)} (ha : h = 4 ∨ h = 14) (hn : 200 ≤ n) (hN : N ≤ 60) : ∀ (d t e : Nat) (s mc mm : Int32) (Jc Jm : zx_I) (L : zx_L), t + d = N → d < e → Jm 3 15 = nI N → Jm 3 11 + 1 = may → L 24 2 = M 0 9 → RR h rule may m p c f ct Jc Jm → ((s = -4 ∧ mc = -4) ∨ (¬ s = -4 ∧ mc = mm)) → ∃ mm' Jm', mf_when_31 n rule x2 M K e s mm (nI t) Jm = K (wh_loop h d t s mc Jc L).1 mm' Jm' ∧ (((wh_loop h d t s mc Jc L).1 = -4 ∧ (wh_loop h d t s mc Jc L).2.1 = -4) ∨ (¬ (wh_loop h d t s mc Jc L).1 = -4 ∧ (wh_loop h d t s mc Jc L).2.1 = mm')) ∧ mkeep Jm Jm' ∧ cfr Jc (wh_loop h d t s mc Jc L).2.2.1 ∧ ∀ b, b ≠ 34 → (wh_loop h d t s mc Jc L).2.2.2 b = L b := by
  intro d
  induction d with
  | zero =>
    intro t e s mc mm Jc Jm L ht he h15 h11 hL hR hs
    obtain ⟨e, rfl⟩ : ∃ e9, e = e9 + 1 := ⟨e - 1, by omega⟩
    refine ⟨mm, Jm, ?_, hs, mkeep_rf, cfr_rf, fun _ _ => rfl⟩
    show mf_when_31_b _ _ _ _ _ _ _ _ _ _ = _
    unfold mf_when_31_b
    rw [h15, if_pos (nI_le (by omega) (by omega))]
    rfl
  | succ d ih =>
    intro t e s mc mm Jc Jm L ht he h15 h11 hL hR hs
    obtain ⟨e, rfl⟩ : ∃ e9, e = e9 + 1 := ⟨e - 1, by omega⟩
    have hLt : ∀ b, b ≠ 34 → wh_L L t b = L b := fun b hb => zx_uL_ne hb
    have hL' : wh_L L t 24 2 = M 0 9 := by rw [hLt 24 (by decide)]; exact hL
    have e34 : wh_L L t 34 3 = (M 0 9 ||| ((1 : Int64) <<< ((nI t).toInt64 &&& 63))) := by
      unfold wh_L
      rw [← hL]
      simp [zx_uL]
    have c1 : (lg_cmp (L 24 2 ||| ((1 : Int64) <<< ((nI t).toInt64 &&& 63))) (L 24 2) = 0) ↔ (M 0 9).toBitVec.getLsbD t = true := by
      rw [hL]
      exact cmp_0.trans (b_or (by omega))
    have c2 : (lg_cmp (((M 0 9) >>> ((nI t).toInt64 &&& 63)) &&& (1 : Int64)) (0 : Int64) = 0) ↔ ¬ (M 0 9).toBitVec.getLsbD t = true := by
      rw [cmp_0, b_shr (by omega)]
      by_cases u : (M 0 9).toBitVec.getLsbD t = true
      · rw [if_pos u]
        exact ⟨fun z => absurd z (by decide), fun z => absurd u z⟩
      · rw [if_neg u]
        exact ⟨fun _ => u, fun _ => rfl⟩
    have hge : ¬ nI N ≤ nI t := nI_ge (by omega) (by omega)
    rw [wh_loop]
    by_cases u : (M 0 9).toBitVec.getLsbD t = true
    · rw [if_neg (fun w => w (c1.mpr u))]
      obtain ⟨mm', Jm', r1, r2, r3, r4, r5⟩ := ih (t + 1) e s mc mm Jc Jm (wh_L L t) (by omega) (by omega) h15 h11 hL' hR hs
      refine ⟨mm', Jm', ?_, r2, r3, r4, fun b hb => by rw [r5 b hb, hLt b hb]⟩
      show mf_when_31_b _ _ _ _ _ _ _ _ _ _ = _
      unfold mf_when_31_b
      rw [h15, if_neg hge, if_neg (fun w => c2.mp w u), ← nI_succ]
      exact r1
    · rw [if_pos (fun w => u (c1.mp w))]
      obtain ⟨J1, g1, g2, g3, g4, -, lt, dn, -, -, -, -, esc⟩ := run_RR (wh_L L t) ha hn hR
      rw [e34] at g1
      have k3 := mkeep_3 g3
      have body : mf_when_31 n rule x2 M K (e + 1) s mm (nI t) Jm = if s = -4 then mf_when_31 n rule x2 M K e (nI t) (fr_score Jc (wh_L L t) h) (nI (t + 1)) J1 else if mm ≤ fr_score Jc (wh_L L t) h then mf_when_31 n rule x2 M K e s mm (nI (t + 1)) J1 else mf_when_31 n rule x2 M K e (nI t) (fr_score Jc (wh_L L t) h) (nI (t + 1)) J1 := by
        show mf_when_31_b _ _ _ _ _ _ _ _ _ _ = _
        unfold mf_when_31_b
        rw [h15, if_neg hge, if_pos (c2.mpr u), h11, g1, Option.bind_some, ← nI_succ]
      rw [body]
      by_cases u2 : s = -4 ∨ ¬ fr_score Jc (wh_L L t) h ≥ mc
      · rw [if_pos u2]
        obtain ⟨mm', Jm', r1, r2, r3, r4, r5⟩ := ih (t + 1) e (nI t) (fr_score Jc (wh_L L t) h) (fr_score Jc (wh_L L t) h) _ J1 (wh_L L t) (by omega) (by omega) (by rw [k3]; exact h15) (by rw [k3]; exact h11) hL' g2 (Or.inr ⟨nI_ne4 (by omega), rfl⟩)
        refine ⟨mm', Jm', ?_, r2, mkeep_tr g3 r3, cfr_tr g4 r4, fun b hb => by rw [r5 b hb, hLt b hb]⟩
        by_cases u3 : s = -4
        · rw [if_pos u3]
          exact r1
        · obtain ⟨-, hmm⟩ := hs.resolve_left (fun w => u3 w.1)
          rw [if_neg u3, if_neg (by rw [← hmm]; exact u2.resolve_left u3)]
          exact r1
      · rw [if_neg u2]
        have u3 : ¬ s = -4 := fun w => u2 (Or.inl w)
        obtain ⟨-, hmm⟩ := hs.resolve_left (fun w => u3 w.1)
        have u4 : mm ≤ fr_score Jc (wh_L L t) h := by
          rw [← hmm]
          exact Classical.byContradiction (fun w => u2 (Or.inr w))
        obtain ⟨mm', Jm', r1, r2, r3, r4, r5⟩ := ih (t + 1) e s mc mm _ J1 (wh_L L t) (by omega) (by omega) (by rw [k3]; exact h15) (by rw [k3]; exact h11) hL' g2 hs
        refine ⟨mm', Jm', ?_, r2, mkeep_tr g3 r3, cfr_tr g4 r4, fun b hb => by rw [r5 b hb, hLt b hb]⟩
        rw [if_neg u3, if_pos u4]
        exact r1
theorem qL_34 {L : zx_L} : ∀ b, b ≠ 34 → q_L L b = L b := fun b hb => zx_uL_ne hb
theorem cr_when {h sp : Nat} {la : Option Nat} {I : zx_I} {L : zx_L} {J : zx_I} {M : zx_L} (rule what : Int32) (hW : WR h sp I L J M) : CR mm_X9_when mm_X10_when [.int rule, .int what] h sp la I L J M := by
  have hW0 := hW
  obtain ⟨m, p, c, f, ct, q⟩ := hW
  have ha := hsp_h q.1
  have bad : ¬ q_whok rule what → mf_when 200 rule what J M = some (-1, J) → CR mm_X9_when mm_X10_when [.int rule, .int what] h sp la I L J M := fun b1 b2 => cr_ret (J' := J) (ct_X9_when_no (d := 7) q.1 b1) (mt_when (d := 2) b2) hW0
  by_cases c1 : q_rule rule = 0
  · refine bad (fun z => z.1 c1) ?_
    unfold mf_when
    rw [if_pos (show mf_isRule rule = 0 from c1)]
  · have c1' : ¬ mf_isRule rule = 0 := c1
    rcases in_cs (x := what) (a := 0) (b := 1) with ⟨z, z1⟩ | ⟨z, z1, z2⟩
    · refine bad (fun w => ?_) ?_
      · rcases z1 with z1 | z1
        · exact w.2.1 z1
        · exact nlt_le.mpr w.2.2 z1
      · unfold mf_when
        rw [if_neg c1', if_pos z]
    · obtain ⟨J1, f1, f2, f3, f4, f5, f6⟩ := ask_RR (n := 200) (rule := rule) (by omega) q
      obtain ⟨N, eN, hN1, hN⟩ := q.2.1.2.2.2.2.2.2.2.1
      have e8 : q_ask I h rule h 8 + 1 = J 3 11 + 1 := by
        rw [ask_ne (by omega) (by omega) (by omega), q.2.2.2.1 11 (by omega)]
        rfl
      have g2 : RR h rule (J 3 11 + 1) m p c f ct (q_whm I h rule) J1 := by
        unfold q_whm
        rw [e8]
        exact rr_34 ha f2
      have hKK := KK_of g2.1
      have hst : ∀ Jx, KK h (q_whm I h rule) Jx → Jx h 12 = nI N := fun Jx hx => by
        rw [hx.2.1]
        unfold q_whm
        rw [zx_uI_ne (by omega), ask_ne (by omega) (by omega) (by omega)]
        exact eN
      have hct := ct_X9_when (d := 3) (I := I) (L := L) (la := la) (rule := rule) (what := what) q.1 ⟨c1, z1, nlt_le.mp z2⟩ (KK_kr ha) hN hst hKK
      have e15 : J1 3 15 = nI N := by
        rw [f4, q.2.2.2.1 15 (by omega)]
        exact eN
      have eL : q_L L 24 2 = M 0 9 := by
        rw [qL_34 24 (by decide)]
        exact q.2.2.2.2.2.2.1.2.2.2.1.1.symm
      obtain ⟨mm', J2, r1, r2, r3, r4, r5⟩ := wh_spec (n := 200) (x2 := what) (K := fun x3_31 x4_31 J_31 => (if x3_31 = (-4 : Int32) then some (x3_31, J_31) else (if what = 0 then some (x3_31, J_31) else some (x4_31, J_31)))) ha (by omega) hN N 0 200 (-4) (-4) 0 (q_whm I h rule) J1 (q_L L) (by omega) (by omega) e15 (by rw [f4]) eL g2 (Or.inl ⟨rfl, rfl⟩)
      refine cr_any (J' := J2) hct (mt_when (d := 2) (n := 200) (p := (if what ≠ 0 then (q_wh I L h N rule).2.1 else (q_wh I L h N rule).1, J2)) ?_) ⟨m, p, c, f, ct, WRx_cg q (cW_tr (ask_cW q.1) (cW_tr (cW_34 q.1 (fun b z1 _ _ => zx_uI_ne z1)) (cW_cfr q.1 r4))) (fun b hb => by rw [show (q_wh I L h N rule).2.2.2 b = q_L L b from r5 b hb, qL_34 b hb]) (mW_tr f3 (mW_mkeep r3))⟩
      unfold mf_when
      rw [if_neg c1', if_neg (by rw [z]; decide), f1, Option.bind_some]
      refine r1.trans ?_
      unfold q_wh
      by_cases u : what = 0
      · rw [if_pos u, ite_self, if_neg (show ¬ what ≠ 0 from fun w => w u)]
      · rw [if_pos u, if_neg u]
        rcases r2 with ⟨y1, y2⟩ | ⟨y1, y2⟩
        · rw [if_pos y1, y1, y2]
        · rw [if_neg y1, y2]
/-! fewest -/
theorem nb_spec {n h : Nat} {I J : zx_I} {rule may : Int32} {m p c f ct : Nat} (L : zx_L) (ha : h = 4 ∨ h = 14) (hn : 200 ≤ n) (hm : J 3 11 = may) (q : RR h rule may m p c f ct I J) : ∃ J', mf_isNobodyLate n rule (L 34 3) J = some (if fr_score I L h ≥ 100 then 0 else 1, J') ∧ RR h rule may m p c f ct (fr_end I L h).1 J' ∧ mkeep J J' ∧ cfr I (fr_end I L h).1 := by
  obtain ⟨J', e1, e2, e3, e4, -, lt, dn, l6, d99, l1, d1, es⟩ := run_RR L ha hn q
  refine ⟨J', ?_, e2, e3, e4⟩
  unfold mf_isNobodyLate
  rw [hm, e1, Option.bind_some]
  dsimp only
  rw [l1, Option.bind_some, es]
  by_cases u : lt = 0
  · subst u
    rw [if_pos (by rfl), if_neg (show ¬ nI (100 * 0 + dn) ≥ (100 : Int32) from nI_ge (b := 100) (a := 100 * 0 + dn) (by omega) (by decide))]
  · rw [if_neg (nI_ne0 (by omega) (by omega)), if_pos (show (100 : Int32) ≤ nI (100 * lt + dn) from nI_le (a := 100) (by omega) (by omega))]
theorem fv1 {what : Int32} {t : Nat} {J : zx_I} : (if what = 0 then some ((1 : Int32), J) else (if what = (1 : Int32) then some (nI t, J) else some ((-4 : Int32), J))) = some (fw_v1 what t, J) := by
  unfold fw_v1
  by_cases u : what = 0
  · rw [if_pos u, if_neg (fun w => w u)]
  · rw [if_neg u, if_pos u]
    by_cases u2 : what = 1
    · rw [if_pos u2, if_neg (fun w => w u2)]
    · rw [if_neg u2, if_pos u2]
theorem fv2 {what : Int32} {t u9 : Nat} {J : zx_I} : (if what = 0 then some ((2 : Int32), J) else (if what = (1 : Int32) then some (nI t, J) else some (nI u9, J))) = some (fw_v2 what t u9, J) := by
  unfold fw_v2
  by_cases u : what = 0
  · rw [if_pos u, if_neg (fun w => w u)]
  · rw [if_neg u, if_pos u]
    by_cases u2 : what = 1
    · rw [if_pos u2, if_neg (fun w => w u2)]
    · rw [if_neg u2, if_pos u2]
theorem f1_spec {n h N : Nat} {rule may what : Int32} {m p c f ct : Nat} {K : zx_I → Option (Int32 × zx_I)} (ha : h = 4 ∨ h = 14) (hn : 200 ≤ n) (hN : N ≤ 60) : ∀ (d t e : Nat) (Jc Jm : zx_I) (L : zx_L), t + d = N → d < e → Jm 3 15 = nI N → Jm 3 11 = may → RR h rule may m p c f ct Jc Jm → ∃ Jm', mf_fewest_44 n rule what K e (nI t) Jm = (match (fw_1 h d t Jc L).1 with
    | none => K Jm'
    | some t' => some (fw_v1 what t', Jm')) ∧ RR h rule may m p c f ct (fw_1 h d t Jc L).2.1 Jm' ∧ mkeep Jm Jm' ∧ cfr Jc (fw_1 h d t Jc L).2.1 ∧ ∀ b, b ≠ 34 → (fw_1 h d t Jc L).2.2 b = L b := by
  intro d
  induction d with
  | zero =>
    intro t e Jc Jm L ht he h15 h11 hR
    obtain ⟨e, rfl⟩ : ∃ e9, e = e9 + 1 := ⟨e - 1, by omega⟩
    refine ⟨Jm, ?_, hR, mkeep_rf, cfr_rf, fun _ _ => rfl⟩
    show mf_fewest_44_b _ _ _ _ _ _ _ = _
    unfold mf_fewest_44_b
    rw [h15, if_pos (nI_le (by omega) (by omega))]
    rfl
  | succ d ih =>
    intro t e Jc Jm L ht he h15 h11 hR
    obtain ⟨e, rfl⟩ : ∃ e9, e = e9 + 1 := ⟨e - 1, by omega⟩
    obtain ⟨J1, g1, g2, g3, g4⟩ := nb_spec (fw_L1 L t) ha hn h11 hR
    have e34 : fw_L1 L t 34 3 = ((1 : Int64) <<< ((nI t).toInt64 &&& 63)) := by unfold fw_L1; simp [zx_uL]
    have hLt : ∀ b, b ≠ 34 → fw_L1 L t b = L b := fun b hb => zx_uL_ne hb
    rw [e34] at g1
    have k3 := mkeep_3 g3
    rw [fw_1]
    by_cases u : fr_score Jc (fw_L1 L t) h ≥ 100
    · rw [if_pos u] at g1 ⊢
      obtain ⟨Jm', r1, r2, r3, r4, r5⟩ := ih (t + 1) e _ J1 (fw_L1 L t) (by omega) (by omega) (by rw [k3]; exact h15) (by rw [k3]; exact h11) g2
      refine ⟨Jm', ?_, r2, mkeep_tr g3 r3, cfr_tr g4 r4, fun b hb => by rw [r5 b hb, hLt b hb]⟩
      show mf_fewest_44_b _ _ _ _ _ _ _ = _
      unfold mf_fewest_44_b
      rw [h15, if_neg (nI_ge (by omega) (by omega)), g1, Option.bind_some, if_pos rfl, ← nI_succ]
      exact r1
    · rw [if_neg u] at g1 ⊢
      refine ⟨J1, ?_, g2, g3, g4, hLt⟩
      show mf_fewest_44_b _ _ _ _ _ _ _ = _
      unfold mf_fewest_44_b
      rw [h15, if_neg (nI_ge (by omega) (by omega)), g1, Option.bind_some, if_neg (show ¬ (1, J1).1 = (0 : Int32) from by show ¬ (1 : Int32) = 0; decide)]
      exact fv1
theorem f3_spec {n h N t0 : Nat} {rule may what : Int32} {m p c f ct : Nat} {K : zx_I → Option (Int32 × zx_I)} (ha : h = 4 ∨ h = 14) (hn : 200 ≤ n) (hN : N ≤ 60) : ∀ (d t e : Nat) (Jc Jm : zx_I) (L : zx_L), t + d = N → d < e → Jm 3 15 = nI N → Jm 3 11 = may → RR h rule may m p c f ct Jc Jm → ∃ Jm', mf_fewest_110 n rule what (nI t0) K e (nI t) Jm = (match (fw_3 h t0 d t Jc L).1 with
    | none => K Jm'
    | some t' => some (fw_v2 what t0 t', Jm')) ∧ RR h rule may m p c f ct (fw_3 h t0 d t Jc L).2.1 Jm' ∧ mkeep Jm Jm' ∧ cfr Jc (fw_3 h t0 d t Jc L).2.1 ∧ ∀ b, b ≠ 34 → (fw_3 h t0 d t Jc L).2.2 b = L b := by
  intro d
  induction d with
  | zero =>
    intro t e Jc Jm L ht he h15 h11 hR
    obtain ⟨e, rfl⟩ : ∃ e9, e = e9 + 1 := ⟨e - 1, by omega⟩
    refine ⟨Jm, ?_, hR, mkeep_rf, cfr_rf, fun _ _ => rfl⟩
    show mf_fewest_110_b _ _ _ _ _ _ _ _ = _
    unfold mf_fewest_110_b
    rw [h15, if_pos (nI_le (by omega) (by omega))]
    rfl
  | succ d ih =>
    intro t e Jc Jm L ht he h15 h11 hR
    obtain ⟨e, rfl⟩ : ∃ e9, e = e9 + 1 := ⟨e - 1, by omega⟩
    obtain ⟨J1, g1, g2, g3, g4⟩ := nb_spec (fw_L2 L t0 t) ha hn h11 hR
    have e34 : fw_L2 L t0 t 34 3 = ((1 : Int64) <<< ((nI t0).toInt64 &&& 63) ||| ((1 : Int64) <<< ((nI t).toInt64 &&& 63))) := by unfold fw_L2; simp [zx_uL]
    have hLt : ∀ b, b ≠ 34 → fw_L2 L t0 t b = L b := fun b hb => zx_uL_ne hb
    rw [e34] at g1
    have k3 := mkeep_3 g3
    rw [fw_3]
    by_cases u : fr_score Jc (fw_L2 L t0 t) h ≥ 100
    · rw [if_pos u] at g1 ⊢
      obtain ⟨Jm', r1, r2, r3, r4, r5⟩ := ih (t + 1) e _ J1 (fw_L2 L t0 t) (by omega) (by omega) (by rw [k3]; exact h15) (by rw [k3]; exact h11) g2
      refine ⟨Jm', ?_, r2, mkeep_tr g3 r3, cfr_tr g4 r4, fun b hb => by rw [r5 b hb, hLt b hb]⟩
      show mf_fewest_110_b _ _ _ _ _ _ _ _ = _
      unfold mf_fewest_110_b
      rw [h15, if_neg (nI_ge (by omega) (by omega)), g1, Option.bind_some, if_pos rfl, ← nI_succ]
      exact r1
    · rw [if_neg u] at g1 ⊢
      refine ⟨J1, ?_, g2, g3, g4, hLt⟩
      show mf_fewest_110_b _ _ _ _ _ _ _ _ = _
      unfold mf_fewest_110_b
      rw [h15, if_neg (nI_ge (by omega) (by omega)), g1, Option.bind_some, if_neg (show ¬ (1, J1).1 = (0 : Int32) from by show ¬ (1 : Int32) = 0; decide)]
      exact fv2
theorem f2_spec {n h N : Nat} {rule may what : Int32} {m p c f ct : Nat} {K : zx_I → Option (Int32 × zx_I)} (ha : h = 4 ∨ h = 14) (hn : 200 ≤ n) (hN : N ≤ 60) : ∀ (d t e : Nat) (Jc Jm : zx_I) (L : zx_L), t + d = N → d < e → Jm 3 15 = nI N → Jm 3 11 = may → RR h rule may m p c f ct Jc Jm → ∃ Jm', mf_fewest_94 n rule what K e (nI t) Jm = (match (fw_2 h N d t Jc L).1 with
    | none => K Jm'
    | some (t', u') => some (fw_v2 what t' u', Jm')) ∧ mkeep Jm Jm' ∧ cfr Jc (fw_2 h N d t Jc L).2.1 ∧ ∀ b, b ≠ 34 → (fw_2 h N d t Jc L).2.2 b = L b := by
  intro d
  induction d with
  | zero =>
    intro t e Jc Jm L ht he h15 h11 hR
    obtain ⟨e, rfl⟩ : ∃ e9, e = e9 + 1 := ⟨e - 1, by omega⟩
    refine ⟨Jm, ?_, mkeep_rf, cfr_rf, fun _ _ => rfl⟩
    show mf_fewest_94_b _ _ _ _ _ _ _ = _
    unfold mf_fewest_94_b
    rw [h15, if_pos (nI_le (by omega) (by omega))]
    rfl
  | succ d ih =>
    intro t e Jc Jm L ht he h15 h11 hR
    obtain ⟨e, rfl⟩ : ∃ e9, e = e9 + 1 := ⟨e - 1, by omega⟩
    obtain ⟨J1, g1, g2, g3, g4, g5⟩ := f3_spec (t0 := t) (what := what) (K := fun J_110 => mf_fewest_94 n rule what K e (nI t + 1) J_110) ha hn hN (N - (t + 1)) (t + 1) n Jc Jm L (by omega) (by omega) h15 h11 hR
    have k3 := mkeep_3 g3
    have body : mf_fewest_94 n rule what K (e + 1) (nI t) Jm = mf_fewest_110 n rule what (nI t) (fun J_110 => mf_fewest_94 n rule what K e (nI t + 1) J_110) n (nI (t + 1)) Jm := by
      show mf_fewest_94_b _ _ _ _ _ _ _ = _
      unfold mf_fewest_94_b
      rw [h15, if_neg (nI_ge (by omega) (by omega)), nI_succ t]
    rw [body, g1, fw_2]
    cases hf : fw_3 h t (N - (t + 1)) (t + 1) Jc L with
    | mk o rest =>
      rw [hf] at g2 g4 g5
      obtain ⟨Jc', L'⟩ := rest
      cases o with
      | none =>
        obtain ⟨Jm', r1, r3, r4, r5⟩ := ih (t + 1) e Jc' J1 L' (by omega) (by omega) (by rw [k3]; exact h15) (by rw [k3]; exact h11) g2
        refine ⟨Jm', ?_, mkeep_tr g3 r3, cfr_tr g4 r4, fun b hb => by rw [r5 b hb]; exact g5 b hb⟩
        dsimp only
        rw [← nI_succ]
        exact r1
      | some u' => exact ⟨J1, rfl, g3, g4, g5⟩
theorem cr_fewest {h sp : Nat} {la : Option Nat} {I : zx_I} {L : zx_L} {J : zx_I} {M : zx_L} (rule what : Int32) (hW : WR h sp I L J M) : CR mm_X9_fewest mm_X10_fewest [.int rule, .int what] h sp la I L J M := by
  have hW0 := hW
  obtain ⟨m, p, c, f, ct, q⟩ := hW
  have ha := hsp_h q.1
  have bad : ¬ q_fwok rule what → mf_fewest 200 rule what J = some (-1, J) → CR mm_X9_fewest mm_X10_fewest [.int rule, .int what] h sp la I L J M := fun b1 b2 => cr_ret (J' := J) (ct_X9_fewest_no (d := 7) q.1 b1) (mt_fewest (d := 1) b2) hW0
  by_cases c1 : q_rule rule = 0
  · refine bad (fun z => z.1 c1) ?_
    unfold mf_fewest
    rw [if_pos (show mf_isRule rule = 0 from c1)]
  · have c1' : ¬ mf_isRule rule = 0 := c1
    rcases in_cs (x := what) (a := 0) (b := 2) with ⟨z, z1⟩ | ⟨z, z1, z2⟩
    · refine bad (fun w => ?_) ?_
      · rcases z1 with z1 | z1
        · exact w.2.1 z1
        · exact nlt_le.mpr w.2.2 z1
      · unfold mf_fewest
        rw [if_neg c1', if_pos z]
    · obtain ⟨J1, f1, f2, f3, f4, f5, f6⟩ := ask_RR (n := 200) (rule := rule) (by omega) q
      obtain ⟨N, eN, hN1, hN⟩ := q.2.1.2.2.2.2.2.2.2.1
      have hst : ∀ Jx, KK h (q_ask I h rule) Jx → Jx h 12 = nI N := fun Jx hx => by
        rw [hx.2.1, ask_ne (by omega) (by omega) (by omega)]
        exact eN
      have hct := ct_X9_fewest (d := 2) (I := I) (L := L) (la := la) (rule := rule) (what := what) q.1 ⟨c1, z1, nlt_le.mp z2⟩ (KK_kr ha) hN hst (KK_of f2.1)
      have e15 : J1 3 15 = nI N := by
        rw [f4, q.2.2.2.1 15 (by omega)]
        exact eN
      have e11 : J1 3 11 = J 3 11 := by rw [f4]
      obtain ⟨J2, n1, n2, n3, n4⟩ := nb_spec (n := 200) (zx_uL (q_L L) 34 3 0) ha (by omega) e11 f2
      have e34 : zx_uL (q_L L) 34 3 0 34 3 = 0 := by simp [zx_uL]
      rw [e34] at n1
      have hL0 : ∀ b, b ≠ 34 → zx_uL (q_L L) 34 3 0 b = L b := fun b hb => by rw [zx_uL_ne hb, qL_34 b hb]
      have k3 := mkeep_3 n3
      have fin : ∀ (v : Int32) (Jc' : zx_I) (L' : zx_L) (J' : zx_I), q_few I L h N rule what = (v, Jc', L') → mf_fewest 200 rule what J = some (v, J') → cfr (q_ask I h rule) Jc' → (∀ b, b ≠ 34 → L' b = L b) → mkeep J1 J' → CR mm_X9_fewest mm_X10_fewest [.int rule, .int what] h sp la I L J M := by
        intro v Jc' L' J' y1 y2 y3 y4 y5
        rw [y1] at hct
        exact cr_any (J' := J') hct (mt_fewest (d := 1) y2) ⟨m, p, c, f, ct, WRx_cg q (cW_tr (ask_cW q.1) (cW_cfr q.1 y3)) y4 (mW_tr f3 (mW_mkeep y5))⟩
      have mod : mf_fewest 200 rule what J = (if (if fr_score (q_ask I h rule) (zx_uL (q_L L) 34 3 0) h ≥ 100 then (0 : Int32) else 1) = 0 then (mf_fewest_44 200 rule what (fun J_44 => (mf_fewest_94 200 rule what (fun J_94 => some ((-4 : Int32), J_94)) 200 (0 : Int32) J_44)) 200 (0 : Int32) J2) else (if what = 0 then some ((0 : Int32), J2) else some ((-4 : Int32), J2))) := by
        unfold mf_fewest
        rw [if_neg c1', if_neg (by rw [z]; decide), f1, Option.bind_some, n1, Option.bind_some]
      by_cases u : fr_score (q_ask I h rule) (zx_uL (q_L L) 34 3 0) h ≥ 100
      · rw [if_pos u, if_pos rfl] at mod
        have e15' : J2 3 15 = nI N := by rw [k3]; exact e15
        have e11' : J2 3 11 = J 3 11 := by rw [k3]; exact e11
        obtain ⟨J3, r1, r2, r3, r4, r5⟩ := f1_spec (n := 200) (what := what) (K := fun J_44 => (mf_fewest_94 200 rule what (fun J_94 => some ((-4 : Int32), J_94)) 200 (0 : Int32) J_44)) ha (by omega) hN N 0 200 _ J2 (zx_uL (q_L L) 34 3 0) (by omega) (by omega) e15' e11' n2
        have mod2 := mod.trans r1
        cases hf : fw_1 h N 0 (fr_end (q_ask I h rule) (zx_uL (q_L L) 34 3 0) h).1 (zx_uL (q_L L) 34 3 0) with
        | mk o rest =>
          obtain ⟨Jc', L'⟩ := rest
          rw [hf] at r2 r4 r5 mod2
          cases o with
          | some t' =>
            refine fin (fw_v1 what t') Jc' L' J3 ?_ mod2 (cfr_tr n4 r4) (fun b hb => (r5 b hb).trans (hL0 b hb)) (mkeep_tr n3 r3)
            unfold q_few
            rw [if_pos u, hf]
          | none =>
            have k3' := mkeep_3 r3
            obtain ⟨J4, s1, s3, s4, s5⟩ := f2_spec (n := 200) (what := what) (K := fun J_94 => some ((-4 : Int32), J_94)) ha (by omega) hN N 0 200 Jc' J3 L' (by omega) (by omega) (by rw [k3']; exact e15') (by rw [k3']; exact e11') r2
            have mod3 := mod2.trans s1
            cases hg : fw_2 h N N 0 Jc' L' with
            | mk o2 rest2 =>
              obtain ⟨Jc2, L2⟩ := rest2
              rw [hg] at s4 s5 mod3
              cases o2 with
              | some tu =>
                obtain ⟨t', u'⟩ := tu
                refine fin (fw_v2 what t' u') Jc2 L2 J4 ?_ mod3 (cfr_tr n4 (cfr_tr r4 s4)) (fun b hb => (s5 b hb).trans ((r5 b hb).trans (hL0 b hb))) (mkeep_tr n3 (mkeep_tr r3 s3))
                unfold q_few
                rw [if_pos u, hf]
                dsimp only
                rw [hg]
              | none =>
                refine fin (-4) Jc2 L2 J4 ?_ mod3 (cfr_tr n4 (cfr_tr r4 s4)) (fun b hb => (s5 b hb).trans ((r5 b hb).trans (hL0 b hb))) (mkeep_tr n3 (mkeep_tr r3 s3))
                unfold q_few
                rw [if_pos u, hf]
                dsimp only
                rw [hg]
      · rw [if_neg u, if_neg (by decide)] at mod
        refine fin (if what ≠ 0 then -4 else 0) _ _ J2 ?_ ?_ n4 hL0 n3
        · unfold q_few
          rw [if_neg u]
        · rw [mod]
          by_cases y : what = 0
          · rw [if_pos y, if_neg (fun w => w y)]
          · rw [if_neg y, if_pos y]
