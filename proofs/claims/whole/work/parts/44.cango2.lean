/-! canGo of the model is can of the class -/
theorem cg_bath {n a t i : Nat} {I J : zx_I} {la : Option Nat} {last : Int32} {m p c f ct Wn fr : Nat} (hn : 200 ≤ n) (ht : t ≤ 60) (h : eb a t I la J last m p c f ct Wn fr) (hi : i < ct) : ∃ J', (((if (nI t - J 0 27) < (J 3 14) then some ((0 : Int32)) else some ((1 : Int32))) : Option (Int32)).bind fun v194 => ((mf_hasBath n (nI i) v194 (zx_uI J 0 33 0)).bind fun p202 => some (p202.1, p202.2))) = some (fc_is I (a + 4 + i) (fe_g I a), J') ∧ eqJ J' J ∧ J' 0 33 = 0 ∧ (¬ fc_is I (a + 4 + i) (fe_g I a) = 0 → J' 0 31 = fc_p I (a + 4 + i) (fe_g I a) ∧ J' 0 32 = fc_h I (a + 4 + i) (fe_g I a)) := by
  have hT := cpx_T ht h.1
  have hN := eb_N ht h
  obtain ⟨a1, ⟨b1, b2, b3⟩, a3, a4, a5, -⟩ := h
  obtain ⟨⟨v, ev, v1, v2⟩, ⟨lo, el, -, l2⟩, ⟨hi', eh, -, h2⟩, -⟩ := b3 i hi
  obtain ⟨kt, ek, -, hk⟩ := a1.2.1.2.2.2.1
  have hN1 : tkN (zx_uI J 0 33 0) m p c (un (I 38)) := by
    unfold tkN at hN ⊢
    rw [zx_uI_ne (by decide), zx_uI_ne (by decide)]
    exact hN
  simp only [mo_ite]
  have e13 : (zx_uI J 0 33 0) 3 13 = nI kt := by
    rw [zx_uI_ne (by decide), a3 13 (by omega)]
    exact ek
  have hg : fe_g I a = if (if (nI t - J 0 27) < (J 3 14) then (0 : Int32) else 1) = 0 then 0 else nI kt := by
    unfold fe_g
    have e14 : J 3 14 = I a 10 := a3 14 (by omega)
    rw [e14, ek]
    rcases a5 with q | q
    · have : nI kt = 0 := by rw [← ek]; exact q
      rw [this]
      split <;> split <;> rfl
    · rw [q]
      by_cases c1 : nI t - J 0 27 < I a 10
      · rw [if_pos c1, if_pos c1, if_pos rfl]
      · rw [if_neg c1, if_neg c1, if_neg (by decide)]
  have hs := hb_spec (n := n) (I := I) (J := zx_uI J 0 33 0) (i := i) (ww := a + 4 + i) (b := if (nI t - J 0 27) < (J 3 14) then (0 : Int32) else 1) hn hT hN1 (by omega) (by rw [zx_uI_ne (by decide)]; exact hrl_b a3 hi (by decide)) (by rw [zx_uI_ne (by decide)]; exact hrl_b a3 hi (by decide)) (by rw [zx_uI_ne (by decide)]; exact hrl_b a3 hi (by decide)) ev el eh v1 v2 l2 h2 e13 hk hg
  rw [hs, Option.bind_some]
  refine ⟨_, rfl, ?_, ?_, ?_⟩
  · split
    · exact eqJ_u (by omega)
    · exact eqJ_tr (eqJ_tr (eqJ_u (by omega)) (eqJ_u (by omega))) (eqJ_u (by omega))
  · split <;> simp [zx_uI]
  · intro hne
    have : ¬ fc_p I (a + 4 + i) (fe_g I a) = -4 := fun q => hne (by unfold fc_is; rw [if_pos q])
    rw [if_neg this]
    simp [zx_uI]
theorem fc_m_at {I : zx_I} {ww : Nat} {g : Int32} : fc_m I ww g 40 0 = fc_p I ww g ∧ fc_m I ww g 40 2 = fc_k I ww g ∧ fc_m I ww g 40 3 = 0 ∧ (¬ fc_p I ww g = -4 → fc_m I ww g 40 1 = fc_h I ww g) := by
  unfold fc_m
  by_cases q : fc_p I ww g = -4
  · rw [if_pos q]
    refine ⟨?_, ?_, ?_, fun z => absurd q z⟩ <;> simp [zx_uI]
  · rw [if_neg q]
    refine ⟨?_, ?_, ?_, fun _ => ?_⟩ <;> simp [zx_uI]
/-- the bath that the class holds for one who can go in -/
def bathOf (I C : zx_I) (a ww : Nat) (J' : zx_I) : Prop := J' 0 31 = C 40 0 ∧ J' 0 32 = C 40 1 ∧ J' 0 33 = C 40 3 ∧ ((C 40 3 = 1 ∧ C 40 2 = 0) ∨ (C 40 3 = 0 ∧ C 40 2 = fc_k I ww (fe_g I a)))
theorem cg_spec {n a t i : Nat} {I J : zx_I} {la : Option Nat} {last : Int32} {m p c f ct Wn fr : Nat} (ha : a = 4 ∨ a = 14) (hn : 200 ≤ n) (ht : t ≤ 60) (h : eb a t I la J last m p c f ct Wn fr) (hi : i < ct) (hfr : fr ≤ t) : ∃ J', mf_canGo n (nI i) (nI t) last J = some (fe_can I la a (a + 4 + i) (nI t), J') ∧ eqJ J' J ∧ (¬ fe_can I la a (a + 4 + i) (nI t) = 0 → bathOf I (fe_canm I la a (a + 4 + i) (nI t)) a (a + 4 + i) J') := by
  obtain ⟨JB, eB, qB, q33, qv⟩ := cg_bath hn ht h hi
  have h0 := h
  have hne40 : a + 4 + i ≠ 40 := by have := h.2.1.2.1; omega
  obtain ⟨a1, ⟨b1, b2, b3⟩, a3, a4, a5, a6, a7, ⟨c1, c2, c3⟩, ⟨d1, d2⟩, a10⟩ := h
  obtain ⟨⟨v, ev, v1, v2⟩, ⟨lo, el, -, l2⟩, ⟨hi', eh, -, h2⟩, ⟨st, es, s1, s2⟩, -, -, ⟨A, eA, -, hA⟩, ⟨B, eBB, -, hB⟩⟩ := b3 i hi
  have hi6 : i < 6 := by omega
  have hpow : 2 ^ ct ≤ 2 ^ 6 := Nat.pow_le_pow_right (by decide) b2
  have hA64 : A < 64 := by have : 0 < 2 ^ ct := Nat.pow_pos (by decide); omega
  have hB64 : B < 64 := by have : 0 < 2 ^ ct := Nat.pow_pos (by decide); omega
  obtain ⟨e13, e14, e15, e16⟩ := a6 i hi6
  obtain ⟨w1, w2, w3⟩ := c3 i hi6
  have ebit := a1.2.1.2.2.2.2.2.2.2.2 i hi6
  have hx1 := bx1 ⟨Wn, c2⟩ ⟨i, hi6⟩
  have hx2 := bx2 ⟨A, hA64⟩ ⟨Wn, c2⟩
  -- the bath of the class, if it comes to that
  have hJ : ∀ b, b ≠ 40 → fe_J I la a (nI t) b = I b := fun b hb => fe_J_ne hb
  have ecp : fc_p (fe_J I la a (nI t)) (a + 4 + i) (fe_g I a) = fc_p I (a + 4 + i) (fe_g I a) := fc_p_cg (hJ 37 (by decide)) (hJ 38 (by decide)) (hJ _ hne40)
  have ech : fc_h (fe_J I la a (nI t)) (a + 4 + i) (fe_g I a) = fc_h I (a + 4 + i) (fe_g I a) := fc_h_cg (hJ 37 (by decide)) (hJ 38 (by decide)) (hJ _ hne40)
  have eck : fc_k (fe_J I la a (nI t)) (a + 4 + i) (fe_g I a) = fc_k I (a + 4 + i) (fe_g I a) := by
    unfold fc_k
    rw [hJ _ hne40]
  have hbath : ¬ fc_is I (a + 4 + i) (fe_g I a) = 0 → bathOf I (fc_m (fe_J I la a (nI t)) (a + 4 + i) (fe_g I a)) a (a + 4 + i) JB := by
    intro hne
    obtain ⟨x1, x2⟩ := qv hne
    have hne4 : ¬ fc_p I (a + 4 + i) (fe_g I a) = -4 := fun q => hne (by unfold fc_is; rw [if_pos q])
    obtain ⟨m1, m2, m3, m4⟩ := fc_m_at (I := fe_J I la a (nI t)) (ww := a + 4 + i) (g := fe_g I a)
    unfold bathOf
    rw [m1, m2, m3, m4 (by rw [ecp]; exact hne4), ecp, ech, eck]
    exact ⟨x1, x2, q33, Or.inr ⟨rfl, rfl⟩⟩
  unfold mf_canGo
  rw [mo_g1 (mo_inN hi6 (by decide)), nI_clamp (by omega), a7 i hi]
  by_cases k1 : nI t < I (a + 4 + i) 9
  · rw [if_pos k1]
    have e : fe_can I la a (a + 4 + i) (nI t) = 0 := by unfold fe_can; rw [if_pos k1]
    exact ⟨J, by rw [e], eqJ_rf, fun q => absurd e q⟩
  · rw [if_neg k1, mo_g1 (mo_inN hi6 (by decide)), e13]
    by_cases k2 : I (a + 4 + i) 10 = -4
    · rw [if_pos k2]
      have hwf : Wn.testBit i = false := by
        cases q : Wn.testBit i with
        | false => rfl
        | true => exact absurd k2 (w1.mp q)
      have e36 : I 36 6 &&& I (a + 4 + i) 0 = 0 := by
        rw [c1, ebit]
        exact hx1.mpr hwf
      have h66 : J 3 (17 + 8 * i + 6) = nI A := by rw [hrl_b a3 hi (by decide)]; exact eA
      have hl := fun (K : Option (Int32 × zx_I)) => cg_loop (n := n) (J := J) (i := i) (t := t) (ct := ct) (A := A) (Wn := Wn) (fr := fr) (last := last) (K := K) hi6 b2 (by rw [a3 16 (by omega)]; exact b1) h66 hA64 hfr ht (fun j hj => by
        obtain ⟨y1, y2, y3⟩ := c3 j (by omega)
        obtain ⟨z13, z14, -⟩ := a6 j (by omega)
        by_cases z : I (a + 4 + j) 10 = -4
        · refine Or.inl ⟨?_, by rw [z14]; exact y2 z⟩
          cases q : Wn.testBit j with
          | false => rfl
          | true => exact absurd z (y1.mp q)
        · obtain ⟨-, d9, z1, z2⟩ := y3 z
          exact Or.inr ⟨y1.mpr z, d9, by rw [z14]; exact z1, z2⟩) ct 0 n (by omega) (by omega)
      by_cases k3 : ∀ q, q < ct → A.testBit q = true → Wn.testBit q = true
      · have e37 : I (a + 4 + i) 7 &&& (I 36 6 ^^^ (-1)) = 0 := by
          rw [c1, eA]
          exact hx2.mpr (fun j hj => k3 j.1 (bx5 ⟨ct, by omega⟩ ⟨A, hA64⟩ j hA hj) hj)
        have ecan : fe_can I la a (a + 4 + i) (nI t) = if fe_lf I la a (a + 4 + i) (nI t) = 0 then fc_is I (a + 4 + i) (fe_g I a) else 1 := by
          unfold fe_can
          rw [if_neg k1, if_pos e36, if_pos e37]
        have ecanm : fe_canm I la a (a + 4 + i) (nI t) = if fe_lf I la a (a + 4 + i) (nI t) = 0 then fc_m (fe_J I la a (nI t)) (a + 4 + i) (fe_g I a) else fe_J I la a (nI t) := by
          unfold fe_canm
          rw [if_neg k1, if_pos e36, if_pos e37]
        have bath : fe_lf I la a (a + 4 + i) (nI t) = 0 → ∃ J', some (fc_is I (a + 4 + i) (fe_g I a), JB) = some (fe_can I la a (a + 4 + i) (nI t), J') ∧ eqJ J' J ∧ (¬ fe_can I la a (a + 4 + i) (nI t) = 0 → bathOf I (fe_canm I la a (a + 4 + i) (nI t)) a (a + 4 + i) J') := by
          intro q
          rw [ecan, ecanm, if_pos q, if_pos q]
          exact ⟨JB, rfl, qB, hbath⟩
        rw [show (0 : Int32) = nI 0 from rfl, (hl _).1 (fun q _ h2 h3 => k3 q h2 h3), show nI 0 = (0 : Int32) from rfl]
        rcases a10 with ⟨l1, l2', l3⟩ | ⟨l, l1, l2', l3, l4, l5⟩
        · rw [if_pos l2', eB]
          exact bath (by unfold fe_lf; rw [l1])
        · have hl6 : l < 6 := Nat.lt_of_lt_of_le l1 b2
          have elf : fe_lf I la a (a + 4 + i) (nI t) = if I (a + 4 + l) 11 = nI t then fb_left I (a + 4 + l) (a + 4 + i) (I a 11) else 0 := by
            unfold fe_lf
            rw [l2']
          have eJ2 : fe_J I la a (nI t) = if I (a + 4 + l) 11 = nI t then fb_leftm I (a + 4 + l) (I a 11) else I := by
            unfold fe_J
            rw [l2']
          have l31 : l < 2 ^ 31 := Nat.lt_trans hl6 (by decide)
          rw [l3, if_neg (nI_ne4 l31), mo_g1 (mo_inN hl6 (by decide)), nI_clamp l31, (a6 l hl6).2.1]
          by_cases k4 : I (a + 4 + l) 11 = nI t
          · rw [if_pos k4, show (7 : Int32) = nI 7 from rfl, mf_of_ok hi6 (by decide), Option.bind_some, zx_uI_ne (by decide), hrl_b a3 hi (by decide), eBB]
            have hx3 := bx3 ⟨B, hB64⟩ ⟨l, hl6⟩
            have hx1' := bx1 ⟨B, hB64⟩ ⟨l, hl6⟩
            have ebl := a1.2.1.2.2.2.2.2.2.2.2 l hl6
            by_cases k5 : B.testBit l = true
            · have k6 : ¬ I (a + 4 + i) 8 &&& I (a + 4 + l) 0 = 0 := by
                rw [eBB, ebl]
                intro q
                have := hx1'.mp q
                rw [k5] at this
                exact absurd this (by decide)
              rw [if_pos (hx3.mpr k5), mo_g1 (mo_inN hl6 (by decide)), show (3 : Int32) = nI 3 from rfl, mf_of_ok hl6 (by decide), Option.bind_some, zx_uI_ne (by decide), hrl_b a3 l1 (by decide), show (1 : Int32) = nI 1 from rfl, mf_of_ok hi6 (by decide), Option.bind_some, zx_uI_ne (by decide), hrl_b a3 hi (by decide), show (2 : Int32) = nI 2 from rfl, mf_of_ok hi6 (by decide), Option.bind_some, zx_uI_ne (by decide), hrl_b a3 hi (by decide), (a6 l hl6).2.2.1, a3 12 (by omega), show nI 1 = (1 : Int32) from rfl, show ho I a 12 = I a 11 from rfl]
              have efl : fb_left I (a + 4 + l) (a + 4 + i) (I a 11) = mf_in (I (a + 4 + l) 12 - I a 11 * I (a + 4 + l) (3 + 1)) (I (a + 4 + i) (1 + 1)) (I (a + 4 + i) (2 + 1)) := by
                unfold fb_left mf_in fb_heat
                rw [if_neg k6]
              by_cases k7 : mf_in (I (a + 4 + l) 12 - I a 11 * I (a + 4 + l) (3 + 1)) (I (a + 4 + i) (1 + 1)) (I (a + 4 + i) (2 + 1)) = 0
              · rw [if_pos k7, eB]
                exact bath (by rw [elf, if_pos k4, efl]; exact k7)
              · have k8 : ¬ fe_lf I la a (a + 4 + i) (nI t) = 0 := by
                  rw [elf, if_pos k4, efl]
                  exact k7
                rw [if_neg k7, ecan, ecanm, if_neg k8, if_neg k8, eJ2, if_pos k4]
                refine ⟨_, rfl, eqJ_tr (eqJ_tr (eqJ_tr (eqJ_u (by decide)) (eqJ_u (by decide))) (eqJ_u (by decide))) (eqJ_u (by decide)), fun _ => ?_⟩
                unfold bathOf fb_leftm
                refine ⟨?_, ?_, ?_, Or.inl ⟨?_, ?_⟩⟩ <;> simp [zx_uI, fb_heat]
            · rw [if_neg (fun q => k5 (hx3.mp q)), eB]
              refine bath ?_
              rw [elf, if_pos k4]
              unfold fb_left
              rw [if_pos]
              rw [eBB, ebl]
              refine hx1'.mpr ?_
              cases q : B.testBit l with
              | false => rfl
              | true => exact absurd q k5
          · rw [if_neg k4, eB]
            exact bath (by rw [elf, if_neg k4])
      · obtain ⟨q, q1, q2, q3⟩ : ∃ q, q < ct ∧ A.testBit q = true ∧ Wn.testBit q = false := by
          refine Classical.byContradiction (fun hno => k3 (fun q q1 q2 => ?_))
          cases z : Wn.testBit q with
          | true => rfl
          | false => exact absurd ⟨q, q1, q2, z⟩ hno
        have e : fe_can I la a (a + 4 + i) (nI t) = 0 := by
          unfold fe_can
          rw [if_neg k1, if_pos e36, if_neg]
          rw [c1, eA]
          intro z
          have := hx2.mp z ⟨q, Nat.lt_of_lt_of_le q1 b2⟩ q2
          rw [q3] at this
          exact absurd this (by decide)
        rw [show (0 : Int32) = nI 0 from rfl, (hl _).2 q (Nat.zero_le _) q1 q2 q3, show nI 0 = (0 : Int32) from rfl]
        exact ⟨J, by rw [e], eqJ_rf, fun q => absurd e q⟩
    · rw [if_neg k2]
      have e : fe_can I la a (a + 4 + i) (nI t) = 0 := by
        unfold fe_can
        rw [if_neg k1, if_neg]
        rw [c1, ebit]
        intro z
        have := hx1.mp z
        rw [w1.mpr k2] at this
        exact absurd this (by decide)
      exact ⟨J, by rw [e], eqJ_rf, fun q => absurd e q⟩
