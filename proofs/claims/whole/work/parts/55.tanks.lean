/-! drawn, bath in both -/
theorem fill_both {h sp : Nat} {I : zx_I} {L : zx_L} {J J1 : zx_I} {M : zx_L} {m p c f ct : Nat} (q : WRx h sp I L J M m p c f ct) (f2 : ∀ b, b ≠ 10 → J1 b = J b) (f3 : ∀ i, i < 6 → J1 10 i = J 3 1 * J 3 3) : tkC (ft_fill I h) m p c (un (ft_fill I h 38)) ∧ tkN J1 m p c (un (ft_fill I h 38)) ∧ cW h sp I (ft_fill I h) ∧ mW J J1 ∧ hs_tk I h := by
  obtain ⟨e1, e2, e3, e4, m1, m6, p1, p60, c40, cf, f95⟩ := q.2.1.1
  have hfp : f * p ≤ 95 * 60 := Nat.mul_le_mul f95 p60
  have e38 : ∀ j, j < m → ft_fill I h 38 j = nI (f * p) := fun j hj => by rw [fill_38 e1 m6 hj, e4, e2, pk_mul]
  obtain ⟨t1, t2, t3⟩ := fill_37 (I := I) (a := h)
  have hT : tkC (ft_fill I h) m p c (un (ft_fill I h 38)) := tkC_of (hi := 5700) (t1.trans e1) (t2.trans e2) (t3.trans e3) m1 m6 p1 p60 c40 (fun j hj => ⟨_, e38 j hj, Nat.mul_le_mul_right p cf, hfp⟩) (by omega)
  refine ⟨hT, ⟨?_, ?_, ?_, m1, m6, p1, p60, c40, fun i hi => ?_⟩, ⟨fun b _ _ _ _ _ z _ => fill_ne (by omega) (by omega), fun b hb => by rw [fill_ne (by unfold bt at hb; omega) (by unfold bt at hb; omega)], fun i hi k _ => by rw [fill_ne (by have := hsp_h q.1; omega) (by have := hsp_h q.1; omega)]⟩, ⟨fun b hb => f2 b (by omega), by rw [f2 0 (by decide)], by rw [f2 0 (by decide)], by rw [f2 0 (by decide)]⟩, ?_⟩
  · rw [f2 3 (by decide), q.2.2.2.1 0 (by omega)]
    exact e1
  · rw [f2 3 (by decide), q.2.2.2.1 1 (by omega)]
    exact e2
  · rw [f2 3 (by decide), q.2.2.2.1 2 (by omega)]
    exact e3
  · rw [f3 i (by omega), q.2.2.2.1 1 (by omega), q.2.2.2.1 3 (by omega), show ho I h 1 = nI p from e2, show ho I h 3 = nI f from e4, pk_mul, Nat.mul_comm, ← e38 i hi]
    exact hT.2.2.2.2.2.2.2.2 i hi
  · unfold hs_tk
    rw [e1, e2, nI_toInt (by omega), nI_toInt (by omega)]
    omega
theorem cr_drawn {h sp : Nat} {la : Option Nat} {I : zx_I} {L : zx_L} {J : zx_I} {M : zx_L} (i j : Int32) (hW : WR h sp I L J M) : CR mm_X9_drawn mm_X10_drawn [.int i, .int j] h sp la I L J M := by
  obtain ⟨m, p, c, f, ct, q⟩ := hW
  obtain ⟨J1, f1, f2, f3⟩ := mfill_spec (n := 200) (J := J) (by omega)
  obtain ⟨hT, hN, hc, hm, hs⟩ := fill_both q f2 f3
  obtain ⟨t1, t2, t3, m1, m6, p1, p60, c40, hu⟩ := hT
  have hmp : m * p ≤ 6 * 60 := Nat.mul_le_mul m6 p60
  have bad : ¬ q_drok (ft_fill I h) h i j → mf_drawn 200 i j J = some (-1, J) → CR mm_X9_drawn mm_X10_drawn [.int i, .int j] h sp la I L J M := fun b1 b2 => cr_ret (J' := J) (ct_X9_drawn_no (d := 6) q.1 hs b1) (mt_drawn (d := 5) b2) ⟨m, p, c, f, ct, WRx_cg q hc (fun _ _ => rfl) mW_rf⟩
  have e30 : J 3 0 = nI m := (q.2.2.2.1 0 (by omega)).trans q.2.1.1.1
  have e31 : J 3 1 = nI p := (q.2.2.2.1 1 (by omega)).trans q.2.1.1.2.1
  have eh : mf_holds J = nI (m * p) := by unfold mf_holds; rw [e30, e31, pk_mul]
  by_cases c1 : i < 0
  · refine bad (fun w => w.1 c1) ?_
    unfold mf_drawn mf_in
    rw [if_pos c1, if_pos rfl]
  · obtain ⟨x, hx, rfl⟩ := nI_of c1
    by_cases c2 : x ≤ m * p
    · have x999 : mf_in (nI x) 0 999 = 1 := by
        unfold mf_in
        rw [if_neg c1, if_neg (show ¬ (999 : Int32) < nI x from nI_nlt (a := 999) (by omega) (by decide))]
      have xh : ¬ mf_holds J < nI x := by rw [eh]; exact nI_nlt c2 (by omega)
      have gt : ¬ nI x > ft_fill I h 37 1 * ft_fill I h 37 2 := by
        rw [t1, t2, pk_mul]
        exact nI_nlt c2 (by omega)
      have eFh : ft_fill I h h 1 = nI m := by
        rw [fill_ne (by have := hsp_h q.1; omega) (by have := hsp_h q.1; omega)]
        exact q.2.1.1.1
      have em1 : nI m - 1 < j ↔ ¬ j < nI m := by
        rw [Int32.lt_iff_toInt_lt, Int32.lt_iff_toInt_lt, show (1 : Int32) = nI 1 from rfl, pk_sub_toInt (by omega) (by omega), nI_toInt (by omega)]
        omega
      rcases in_cs (x := j) (a := -1) (b := J 3 0 - 1) with ⟨z, z1⟩ | ⟨z, z1, z2⟩
      · refine bad (fun w => ?_) ?_
        · rcases z1 with z1 | z1
          · exact w.2.2.1 z1
          · rw [e30] at z1
            refine em1.mp z1 ?_
            rw [← eFh]
            exact w.2.2.2
        · unfold mf_drawn
          rw [if_neg (by rw [x999]; decide), if_neg xh, if_pos z]
      · have hjm : j < nI m := Classical.byContradiction (fun w => z2 (by rw [e30]; exact em1.mpr w))
        have ok : q_drok (ft_fill I h) h (nI x) j := ⟨c1, gt, z1, by rw [eFh]; exact hjm⟩
        have hq : ¬ nI x < 0 → ¬ nI x > ft_fill I h 37 1 * ft_fill I h 37 2 → ¬ nI x / ft_fill I h 37 2 < 0 ∧ nI x / ft_fill I h 37 2 ≤ ft_fill I h 37 1 := fun _ _ => by
          rw [t1, t2, pk_div (by omega) p1 (by omega)]
          have hk6 : x / p ≤ m := Nat.div_le_of_le_mul (by rw [Nat.mul_comm]; exact c2)
          exact ⟨nI_pos (by omega), nI_le hk6 (by omega)⟩
        have hct := ct_X9_drawn (d := 6) (I := I) (L := L) (la := la) (i := nI x) (j := j) q.1 hs ok (tkC_ok ⟨t1, t2, t3, m1, m6, p1, p60, c40, hu⟩) hq
        by_cases cj : j = -1
        · have ev : q_drv (ft_fill I h) (nI x) j = nI (ttop (un (ft_fill I h 38)) p x) := by
            unfold q_drv
            rw [if_neg (by rw [cj]; decide)]
            exact top_C ⟨t1, t2, t3, m1, m6, p1, p60, c40, hu⟩ c2
          have em : q_drm (ft_fill I h) (nI x) j = ft_fill I h := by
            unfold q_drm
            rw [if_neg (by rw [cj]; decide)]
          rw [ev, em] at hct
          refine cr_ret (J' := J1) hct (mt_drawn (d := 5) (n := 200) (p := (nI (ttop (un (ft_fill I h 38)) p x), J1)) ?_) ⟨m, p, c, f, ct, WRx_cg q hc (fun _ _ => rfl) hm⟩
          unfold mf_drawn
          rw [if_neg (by rw [x999]; decide), if_neg xh, if_neg (by rw [z]; decide), f1, Option.bind_some, if_pos cj, un_top (by omega) hN c2, Option.bind_some]
        · have j0 : ¬ j < 0 := fun w => by
            rw [Int32.lt_iff_toInt_lt] at w z1
            have e0 : (0 : Int32).toInt = 0 := rfl
            have e1 : (-1 : Int32).toInt = -1 := rfl
            exact cj (Int32.toInt_inj.mp (by rw [e1]; omega))
          obtain ⟨y, hy, rfl⟩ := nI_of j0
          have hym : y < m := (nI_ltI hy (by omega)).mp hjm
          obtain ⟨J2, d1, d2, d3⟩ := draw_N (n := 200) (by omega) hN c2
          have ev : q_drv (ft_fill I h) (nI x) (nI y) = nI (dlay (un (ft_fill I h 38)) c p m (y + x / p) (x % p)) := by
            unfold q_drv ft_unitsIn
            rw [if_pos cj, if_neg j0, draw_ne (by decide), t1, if_pos hjm, nI_clamp hy, draw_C ⟨t1, t2, t3, m1, m6, p1, p60, c40, hu⟩ (by omega) hym]
          have em : q_drm (ft_fill I h) (nI x) (nI y) = ft_draw (ft_fill I h) (nI x) := by
            unfold q_drm
            rw [if_pos cj]
          rw [ev, em] at hct
          refine cr_ret (J' := J2) hct (mt_drawn (d := 5) (n := 200) (p := (nI (dlay (un (ft_fill I h 38)) c p m (y + x / p) (x % p)), J2)) ?_) ⟨m, p, c, f, ct, WRx_cg q (cW_tr hc ⟨fun b _ _ _ _ _ z _ => draw_ne (by omega), fun b hb => by rw [draw_ne (by unfold bt at hb; omega)], fun i hi k _ => by rw [draw_ne (by have := hsp_h q.1; omega)]⟩) (fun _ _ => rfl) (mW_tr hm ⟨fun b hb => d2 b (by omega) (by omega), by rw [d2 0 (by decide) (by decide)], by rw [d2 0 (by decide) (by decide)], by rw [d2 0 (by decide) (by decide)]⟩)⟩
          unfold mf_drawn
          rw [if_neg (by rw [x999]; decide), if_neg xh, if_neg (by rw [z]; decide), f1, Option.bind_some, if_neg cj, d1, Option.bind_some, mo_g1 (mo_inN (by omega) (by decide)), nI_clamp hy, d3 y hym]
    · have gt : nI x > ft_fill I h 37 1 * ft_fill I h 37 2 := by
        rw [t1, t2, pk_mul]
        exact nI_lt (by omega) hx
      refine bad (fun w => w.2.1 gt) ?_
      unfold mf_drawn
      rcases in_cs (x := nI x) (a := 0) (b := 999) with ⟨z, z1⟩ | ⟨z, z1, z2⟩
      · rw [if_pos z]
      · rw [if_neg (by rw [z]; decide), if_pos]
        rw [eh]
        exact nI_lt (by omega) hx
theorem cr_bath {h sp : Nat} {la : Option Nat} {I : zx_I} {L : zx_L} {J : zx_I} {M : zx_L} (i kt what : Int32) (hW : WR h sp I L J M) : CR mm_X9_bath mm_X10_bath [.int i, .int kt, .int what] h sp la I L J M := by
  have hW0 := hW
  obtain ⟨m, p, c, f, ct, q⟩ := hW
  have e13 := q.2.2.1.1
  have hct6 := q.2.2.1.2.1
  have h16 : J 3 16 = nI ct := (q.2.2.2.1 16 (by omega)).trans e13
  have bad : q_baok I h i what = none → mf_bath 200 i kt what J = some (-1, J) → CR mm_X9_bath mm_X10_bath [.int i, .int kt, .int what] h sp la I L J M := fun b1 b2 => cr_ret (J' := J) (ct_X9_bath_no (d := 6) q.1 b1) (mt_bath (d := 5) b2) hW0
  rcases who_cs i e13 hct6 h16 with ⟨w1, w2⟩ | ⟨x, hx, rfl, w1, w2⟩
  · refine bad ?_ ?_
    · unfold q_baok
      rw [w1]
    · unfold mf_bath
      rw [if_pos w2]
  · rcases in_cs (x := what) (a := 0) (b := 1) with ⟨z, z1⟩ | ⟨z, z1, z2⟩
    · refine bad ?_ ?_
      · unfold q_baok
        rw [w1]
        show (if what < 0 then none else if what ≤ 1 then some (h + 4 + x) else none) = none
        by_cases y : what < 0
        · rw [if_pos y]
        · rw [if_neg y, if_neg (fun w => nlt_le.mpr w (z1.resolve_left y))]
      · unfold mf_bath
        rw [if_neg (by rw [w2]; decide), if_pos z]
    · obtain ⟨J1, f1, f2, f3⟩ := mfill_spec (n := 200) (J := J) (by omega)
      obtain ⟨hT, hN, hc, hm, hs⟩ := fill_both q f2 f3
      have ok : q_baok I h (nI x) what = some (h + 4 + x) := by
        unfold q_baok
        rw [w1]
        show (if what < 0 then none else if what ≤ 1 then some (h + 4 + x) else none) = _
        rw [if_neg z1, if_pos (nlt_le.mp z2)]
      have hhh := hsp_h q.1
      have eF : ft_fill I h (h + 4 + x) = I (h + 4 + x) := fill_ne (by omega) (by omega)
      have eFh : ft_fill I h h = I h := fill_ne (by omega) (by omega)
      obtain ⟨⟨v, ev, v1, v2⟩, ⟨lo, el, -, l2⟩, ⟨hi', eh, -, h2⟩, -⟩ := q.2.2.1.2.2 x hx
      obtain ⟨kt9, ek, -, hk⟩ := q.2.1.2.2.2.2.1
      have e313 : J1 3 13 = nI kt9 := by
        rw [f2 3 (by decide), q.2.2.2.1 13 (by omega)]
        exact ek
      have hg : q_bag (ft_fill I h) h kt = if kt = 0 then 0 else nI kt9 := by
        unfold q_bag
        rw [eFh, ek]
      have hr : ∀ w, w < 8 → J1 3 (17 + 8 * x + w) = ft_fill I h (h + 4 + x) (w + 1) := fun w hw => by
        rw [f2 3 (by decide), eF]
        exact hrl_b q.2.2.2.1 hx hw
      have hb := hb_spec (n := 200) (I := ft_fill I h) (J := J1) (i := x) (ww := h + 4 + x) (b := kt) (by omega) hT hN (by omega) (hr 0 (by decide)) (hr 1 (by decide)) (hr 2 (by decide)) (by rw [eF]; exact ev) (by rw [eF]; exact el) (by rw [eF]; exact eh) v1 v2 l2 h2 e313 hk hg
      obtain ⟨g0, eg, hg0⟩ : ∃ g0, q_bag (ft_fill I h) h kt = nI g0 ∧ g0 ≤ 30 := by
        rw [hg]
        split
        · exact ⟨0, rfl, by omega⟩
        · exact ⟨kt9, rfl, hk⟩
      have hharm := fc_harm (ww := h + 4 + x) hT (by rw [eF]; exact ev) (by rw [eF]; exact el) v1 v2 l2 hg0
      rw [← eg] at hharm
      have hct := ct_X9_bath (d := 6) (L := L) (la := la) (kt := kt) q.1 hs ok (tkC_ok hT) (fun w hw => by
        rw [w1] at hw
        cases hw
        rw [eF, show I (h + 4 + x) 1 = nI v from ev, nI_toInt (by omega)]
        omega) (fun w hw => by
        rw [w1] at hw
        cases hw
        exact hharm)
      have cfc : cW h sp (ft_fill I h) (fc_m (ft_fill I h) (h + 4 + x) (q_bag (ft_fill I h) h kt)) := by
        have ne : ∀ b, b ≠ 40 → fc_m (ft_fill I h) (h + 4 + x) (q_bag (ft_fill I h) h kt) b = ft_fill I h b := fun b hb => by
          unfold fc_m
          split
          · rw [zx_uI_ne hb, zx_uI_ne hb, zx_uI_ne hb]
          · rw [zx_uI_ne hb, zx_uI_ne hb, zx_uI_ne hb, zx_uI_ne hb]
        exact ⟨fun b _ _ _ _ _ z _ => ne b (by omega), fun b hb => by rw [ne b (by unfold bt at hb; omega)], fun i hi k _ => by rw [ne _ (by omega)]⟩
      obtain ⟨m1, m2, m3, m4⟩ := fc_m_at (I := ft_fill I h) (ww := h + 4 + x) (g := q_bag (ft_fill I h) h kt)
      generalize hJ2 : (if fc_p (ft_fill I h) (h + 4 + x) (q_bag (ft_fill I h) h kt) = -4 then J1 else zx_uI (zx_uI J1 0 31 (fc_p (ft_fill I h) (h + 4 + x) (q_bag (ft_fill I h) h kt))) 0 32 (fc_h (ft_fill I h) (h + 4 + x) (q_bag (ft_fill I h) h kt))) = J2 at hb
      have mJ2 : mW J1 J2 := by
        rw [← hJ2]
        split
        · exact mW_rf
        · exact ⟨fun b hb => by rw [zx_uI_ne (by omega), zx_uI_ne (by omega)], by simp [zx_uI], by simp [zx_uI], by simp [zx_uI]⟩
      refine cr_ret (J' := J2) hct (mt_bath (d := 5) (n := 200) (p := (q_bav (ft_fill I h) h (h + 4 + x) kt what, J2)) ?_) ⟨m, p, c, f, ct, WRx_cg q (cW_tr hc cfc) (fun _ _ => rfl) (mW_tr hm mJ2)⟩
      unfold mf_bath q_bav
      rw [if_neg (by rw [w2]; decide), if_neg (by rw [z]; decide), f1, Option.bind_some, hb, Option.bind_some]
      dsimp only
      by_cases u : fc_is (ft_fill I h) (h + 4 + x) (q_bag (ft_fill I h) h kt) = 0
      · rw [if_pos u, if_pos u]
      · have hne : ¬ fc_p (ft_fill I h) (h + 4 + x) (q_bag (ft_fill I h) h kt) = -4 := fun w => u (by unfold fc_is; rw [if_pos w])
        rw [if_neg u, if_neg u, m1, m4 hne, ← hJ2, if_neg hne]
        by_cases u2 : what = 0
        · rw [if_pos u2, if_neg (fun w => w u2)]
          simp [zx_uI]
        · rw [if_neg u2, if_pos u2]
          simp [zx_uI]
