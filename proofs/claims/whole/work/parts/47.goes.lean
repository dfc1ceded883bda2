/-! one goes in: what stands then -/
theorem bt_of {a i : Nat} (ha : a = 4 ∨ a = 14) (hi : i < 6) : bt (a + 4 + i) := by unfold bt; omega
theorem in_at {C : zx_I} {w : Nat} {t : Int32} (hw : bt w) : fe_in C w t w 10 = t ∧ fe_in C w t w 11 = t + C w 4 ∧ fe_in C w t w 12 = C 40 1 ∧ fe_in C w t w 13 = C 40 0 ∧ (∀ b, bt b → b ≠ w → fe_in C w t b = C b) ∧ fe_in C w t 36 5 = t + C w 4 ∧ fe_in C w t 36 6 = (C 36 6 ||| C w 0) ∧ fe_in C w t 36 7 = C 36 7 + 1 ∧ fe_in C w t 36 3 = (if C 40 2 ≤ 0 then C 36 3 else 0) ∧ fe_in C w t 37 = C 37 ∧ fe_in C w t 39 = C 39 := by
  have h36 : w ≠ 36 := by unfold bt at hw; omega
  have h38 : w ≠ 38 := by unfold bt at hw; omega
  have h37 : w ≠ 37 := by unfold bt at hw; omega
  have h39 : w ≠ 39 := by unfold bt at hw; omega
  have key : ∀ E : zx_I, (∀ b, bt b → E b = C b) → fe_w E C w t w 10 = t ∧ fe_w E C w t w 11 = t + C w 4 ∧ fe_w E C w t w 12 = C 40 1 ∧ fe_w E C w t w 13 = C 40 0 ∧ (∀ b, bt b → b ≠ w → fe_w E C w t b = C b) ∧ fe_w E C w t 36 5 = t + C w 4 ∧ fe_w E C w t 36 6 = (C 36 6 ||| C w 0) ∧ fe_w E C w t 36 7 = C 36 7 + 1 ∧ fe_w E C w t 36 3 = E 36 3 ∧ fe_w E C w t 37 = E 37 ∧ fe_w E C w t 39 = E 39 := by
    intro E hE
    unfold fe_w
    refine ⟨?_, ?_, ?_, ?_, fun b hb hbw => ?_, ?_, ?_, ?_, ?_, ?_, ?_⟩
    · simp [zx_uI, h36]
    · simp [zx_uI, h36]
    · simp [zx_uI, h36]
    · simp [zx_uI, h36]
    · have hb36 : b ≠ 36 := by unfold bt at hb; omega
      rw [zx_uI_ne hb36, zx_uI_ne hb36, zx_uI_ne hb36, zx_uI_ne hbw, zx_uI_ne hbw, zx_uI_ne hbw, zx_uI_ne hbw]
      exact hE b hb
    · simp [zx_uI]
    · simp [zx_uI]
    · simp [zx_uI]
    · simp [zx_uI, Ne.symm h36]
    · rw [zx_uI_ne (by decide), zx_uI_ne (by decide), zx_uI_ne (by decide), zx_uI_ne (Ne.symm h37), zx_uI_ne (Ne.symm h37), zx_uI_ne (Ne.symm h37), zx_uI_ne (Ne.symm h37)]
    · rw [zx_uI_ne (by decide), zx_uI_ne (by decide), zx_uI_ne (by decide), zx_uI_ne (Ne.symm h39), zx_uI_ne (Ne.symm h39), zx_uI_ne (Ne.symm h39), zx_uI_ne (Ne.symm h39)]
  unfold fe_in
  by_cases q : C 40 2 ≤ 0
  · rw [if_pos q, if_pos q]
    have := key (ft_draw C (C 40 0)) (fun b hb => draw_ne (by unfold bt at hb; omega))
    rw [draw_ne (show (36 : Nat) ≠ 38 by decide), draw_ne (show (37 : Nat) ≠ 38 by decide), draw_ne (show (39 : Nat) ≠ 38 by decide)] at this
    exact this
  · rw [if_neg q, if_neg q]
    have := key (zx_uI (ft_draw C (C 40 0)) 36 3 0) (fun b hb => by rw [zx_uI_ne (by unfold bt at hb; omega), draw_ne (by unfold bt at hb; omega)])
    rw [zx_uI_ne (show (37 : Nat) ≠ 36 by decide), zx_uI_ne (show (39 : Nat) ≠ 36 by decide), draw_ne (show (37 : Nat) ≠ 38 by decide), draw_ne (show (39 : Nat) ≠ 38 by decide)] at this
    have e : (zx_uI (ft_draw C (C 40 0)) 36 3 0) 36 3 = 0 := by simp [zx_uI]
    rw [e] at this
    exact this
/-- the model's memory after one went in -/
def mo_in2 (P : zx_I) (i : Nat) (t st v : Int32) : zx_I := zx_uI (zx_uI (zx_uI (zx_uI (zx_uI P 13 i t) 14 i (t + st)) 15 i (P 0 32)) 16 i (P 0 31)) 0 27 v
theorem in_eb {a t i x : Nat} {C J P : zx_I} {la : Option Nat} {last : Int32} {m p c f ct Wn fr st : Nat} {v : Int32} (ha : a = 4 ∨ a = 14) (ht : t < 60) (h : eb a t C la J last m p c f ct Wn fr) (hfr : fr ≤ t) (hi : i < ct) (hb : bathOf C C a (a + 4 + i) J) (hx : C 40 0 = nI x) (hxm : x ≤ m * p) (hst : C (a + 4 + i) 4 = nI st) (hst20 : st ≤ 20)
    (hP1 : ∀ b, b ≠ 10 → b ≠ 11 → P b = J b) (hP2 : ∀ j, j < m → P 10 j = ft_draw C (nI x) 38 j) (hv : C a 9 = 0 ∨ (if C 40 2 ≤ 0 then C 36 3 else 0) = nI t - v) :
    eb a t (fe_in C (a + 4 + i) (nI t)) (some (a + 4 + i)) (mo_in2 P i (nI t) (nI st) v) (nI i) m p c f ct (Wn ||| 2 ^ i) (t + st) := by
  obtain ⟨a1, ⟨b1, b2, b3⟩, a3, a4, a5, a6, a7, ⟨c1, c2, c3⟩, ⟨d1, d2⟩, a10⟩ := h
  have hi6 : i < 6 := Nat.lt_of_lt_of_le hi b2
  have hbt : bt (a + 4 + i) := bt_of ha hi6
  have hmp : m * p ≤ 6 * 60 := Nat.mul_le_mul a1.1.2.2.2.2.2.1 a1.1.2.2.2.2.2.2.2.1
  obtain ⟨n10, n11, n12, n13, nb, n5, n6, n7, n3, n37, n39⟩ := in_at (C := C) (t := nI t) hbt
  have hfx : fx C (fe_in C (a + 4 + i) (nI t)) := fx_in hbt
  have hs : hsame C (fe_in C (a + 4 + i) (nI t)) a := hsame_fx ha hfx
  have hx4 := bx4 ⟨Wn, c2⟩ ⟨i, hi6⟩
  have ebit := a1.2.1.2.2.2.2.2.2.2.2 i hi6
  have hx2000 : x ≤ 2000 := by clear c3; omega
  have eM : ∀ b, b ≠ 0 → b ≠ 10 → b ≠ 11 → b ≠ 13 → b ≠ 14 → b ≠ 15 → b ≠ 16 → mo_in2 P i (nI t) (nI st) v b = J b := fun b h0 h10 h11 h13 h14 h15 h16 => by
    unfold mo_in2
    rw [zx_uI_ne h0, zx_uI_ne h16, zx_uI_ne h15, zx_uI_ne h14, zx_uI_ne h13]
    exact hP1 b h10 h11
  refine ⟨cpx_in_ ha (by clear c3; omega) hbt a1 hx hx2000, ⟨by rw [hs.1]; exact b1, b2, fun j hj => hvb_cg (fun k hk => hs.2.2.2 j (Nat.lt_of_lt_of_le hj b2) k hk) (b3 j hj)⟩, fun k hk => ?_, fun j hj => ?_, ?_, fun j hj => ?_, fun j hj => ?_, ⟨?_, (hx4 ⟨i, hi6⟩).2.1, fun j hj => ?_⟩, ⟨?_, by clear c3; omega⟩, Or.inr ⟨i, hi, rfl, rfl, ?_, ?_⟩⟩
  · rw [eM 3 (by decide) (by decide) (by decide) (by decide) (by decide) (by decide) (by decide), ho_cg hs b2 hk]
    exact a3 k hk
  · rw [in_38 hbt, hx, ← hP2 j hj]
    unfold mo_in2
    rw [zx_uI_ne (by decide), zx_uI_ne (by decide), zx_uI_ne (by decide), zx_uI_ne (by decide), zx_uI_ne (by decide)]
  · rw [hs.1, n3]
    have : mo_in2 P i (nI t) (nI st) v 0 27 = v := by unfold mo_in2; simp [zx_uI]
    rw [this]
    exact hv
  · obtain ⟨z1, z2, z3, z4⟩ := a6 j hj
    have e13 := hP1 13 (by decide) (by decide)
    have e14 := hP1 14 (by decide) (by decide)
    have e15 := hP1 15 (by decide) (by decide)
    have e16 := hP1 16 (by decide) (by decide)
    have e0 := hP1 0 (by decide) (by decide)
    by_cases q : j = i
    · subst q
      rw [n10, n11, n12, n13, hst]
      unfold mo_in2
      refine ⟨?_, ?_, ?_, ?_⟩
      · simp [zx_uI]
      · simp [zx_uI]
      · simp only [zx_uI, if_pos]
        simp
        rw [e0, hb.2.1]
      · simp only [zx_uI, if_pos]
        simp
        rw [e0, hb.1]
    · have hjb : bt (a + 4 + j) := bt_of ha hj
      have hjn : a + 4 + j ≠ a + 4 + i := by clear c3; omega
      rw [nb _ hjb hjn]
      unfold mo_in2
      refine ⟨?_, ?_, ?_, ?_⟩ <;> simp [zx_uI, q, e13, e14, e15, e16, z1, z2, z3, z4]
  · rw [eM 12 (by decide) (by decide) (by decide) (by decide) (by decide) (by decide) (by decide), fx_bat ha hfx (Nat.lt_of_lt_of_le hj b2) (by decide)]
    exact a7 j hj
  · rw [n6, c1, ebit]
    exact (hx4 ⟨i, hi6⟩).1
  · obtain ⟨w1, w2, w3⟩ := c3 j hj
    have hx4j := (hx4 ⟨j, hj⟩).2.2
    have ht31 : t < 2 ^ 31 := Nat.lt_trans ht (by decide)
    by_cases q : j = i
    · subst q
      rw [n10, n11, hst, nI_add]
      exact ⟨⟨fun _ => nI_ne4 ht31, fun _ => hx4j.mpr (Or.inr rfl)⟩, fun z => absurd z (nI_ne4 ht31), fun _ => ⟨hi, t + st, rfl, Nat.le_refl _⟩⟩
    · have hjb : bt (a + 4 + j) := bt_of ha hj
      have hjn : a + 4 + j ≠ a + 4 + i := by clear c3 w3; omega
      rw [nb _ hjb hjn]
      refine ⟨⟨fun z => w1.mp ?_, fun z => hx4j.mpr (Or.inl (w1.mpr z))⟩, w2, fun z => ?_⟩
      · rcases hx4j.mp z with y | y
        · exact y
        · exact absurd (congrArg Fin.val y) q
      · obtain ⟨y1, d9, y2, y3⟩ := w3 z
        exact ⟨y1, d9, y2, by clear c3 w3; omega⟩
  · rw [n5, hst, nI_add]
  · rw [n10]
    exact nI_ne4 (Nat.lt_trans ht (by decide))
  · rw [n11, hst, nI_add]
/-- the expression by which the model lets one in -/
def mo_go (n i : Nat) (t nx : Int32) (b : Int32) (J : zx_I) : Option (Int32 × Int32 × zx_I) := (((if (J 0 33) = 0 then (if (t - (J 0 27)) < (J 3 14) then some ((0 : Int32)) else ((mf_of (nI i) (0 : Int32) J).bind fun p238 => (if p238 < (J 3 13) then some ((0 : Int32)) else some ((1 : Int32))))) else some ((0 : Int32))) : Option (Int32)).bind fun v212 => ((mf_draw n (J 0 31) J).bind fun p256 => (mo_g (mo_in (nI i) 6) ((mf_of (nI i) (3 : Int32) (zx_uI p256 13 (nI i).toNatClampNeg t)).bind fun p280 => (mo_g (mo_in (nI i) 6) (mo_g (mo_in (nI i) 6) (mo_g (mo_in (nI i) 6) (((if b = 0 then some ((p256 0 27)) else (if v212 = 0 then some ((p256 0 27)) else some (t))) : Option (Int32)).bind fun v310 => some (nI i, (nx + 1), (zx_uI (zx_uI (zx_uI (zx_uI (zx_uI p256 13 (nI i).toNatClampNeg t) 14 (nI i).toNatClampNeg (t + p280)) 15 (nI i).toNatClampNeg (p256 0 32)) 16 (nI i).toNatClampNeg (p256 0 31)) 0 27 v310))))))))))
theorem go_spec {n a t i x : Nat} {C J : zx_I} {la : Option Nat} {last b nx : Int32} {m p c f ct Wn fr : Nat} (ha : a = 4 ∨ a = 14) (hn : 200 ≤ n) (ht : t < 60) (h : eb a t C la J last m p c f ct Wn fr) (hfr : fr ≤ t) (hi : i < ct) (hb : bathOf C C a (a + 4 + i) J) (hx : C 40 0 = nI x) (hxm : x ≤ m * p) (hb1 : ¬ b = 0) :
    ∃ J2 st, mo_go n i (nI t) nx b J = some (nI i, nx + 1, J2) ∧ eb a t (fe_in C (a + 4 + i) (nI t)) (some (a + 4 + i)) J2 (nI i) m p c f ct (Wn ||| 2 ^ i) (t + st) ∧ (∀ k, k ≠ 27 → J2 0 k = J 0 k) ∧ ∀ b, b ≠ 0 → b ≠ 10 → b ≠ 11 → b ≠ 13 → b ≠ 14 → b ≠ 15 → b ≠ 16 → J2 b = J b := by
  have hN := eb_N (by omega) h
  have h0 := h
  obtain ⟨a1, ⟨b1, b2, b3⟩, a3, a4, a5, -⟩ := h
  have hi6 : i < 6 := Nat.lt_of_lt_of_le hi b2
  obtain ⟨⟨v, ev, v1, v2⟩, -, -, ⟨st, es, -, s2⟩, -⟩ := b3 i hi
  obtain ⟨kt, ek, -, hk⟩ := a1.2.1.2.2.2.1
  have e14 : J 3 14 = C a 10 := a3 14 (by omega)
  have e13 : J 3 13 = nI kt := (a3 13 (by omega)).trans ek
  obtain ⟨x1, x2, x3, x4⟩ := hb
  obtain ⟨P, p1, p2, p3⟩ := draw_both (n := n) (x := x) (by omega) (by omega) a1 hN hxm
  -- the kettle
  have hket : ∃ kv : Int32, ((if (J 0 33) = 0 then (if (nI t - (J 0 27)) < (J 3 14) then some ((0 : Int32)) else ((mf_of (nI i) (0 : Int32) J).bind fun p238 => (if p238 < (J 3 13) then some ((0 : Int32)) else some ((1 : Int32))))) else some ((0 : Int32))) : Option (Int32)) = some kv ∧ (C a 9 = 0 ∨ (if C 40 2 ≤ 0 then C 36 3 else 0) = nI t - (if kv = 0 then J 0 27 else nI t)) := by
    rw [show (0 : Int32) = nI 0 from rfl, mf_of_ok hi6 (by decide), hrl_b a3 hi (by decide), show nI 0 = (0 : Int32) from rfl, Option.bind_some, show C (a + 4 + i) (0 + 1) = nI v from ev, e13, x3]
    rcases x4 with ⟨y1, y2⟩ | ⟨y1, y2⟩
    · rw [y1, if_neg (by decide)]
      refine ⟨0, rfl, ?_⟩
      rw [y2, if_pos (by decide), if_pos rfl]
      exact a5
    · rw [y1, if_pos rfl, y2, e14]
      unfold fc_k fe_g
      rw [show C (a + 4 + i) 1 = nI v from ev, ek]
      rcases a5 with q | q
      · by_cases c1 : nI t - J 0 27 < C a 10
        · rw [if_pos c1]
          exact ⟨0, rfl, Or.inl (by rw [← ek]; exact q)⟩
        · rw [if_neg c1]
          by_cases c2 : nI v < nI kt
          · rw [if_pos c2]
            exact ⟨0, rfl, Or.inl (by rw [← ek]; exact q)⟩
          · rw [if_neg c2]
            exact ⟨1, rfl, Or.inl (by rw [← ek]; exact q)⟩
      · rw [q]
        by_cases c1 : nI t - J 0 27 < C a 10
        · rw [if_pos c1, if_pos c1]
          refine ⟨0, rfl, Or.inr ?_⟩
          rw [if_neg (show ¬ (0 : Int32) > nI v from nI_nlt (b := 0) (by omega) (by omega)), if_pos (by decide), if_pos rfl]
        · rw [if_neg c1, if_neg c1]
          by_cases c2 : nI v < nI kt
          · rw [if_pos c2, if_pos (show nI kt > nI v from c2)]
            refine ⟨0, rfl, Or.inr ?_⟩
            rw [if_pos (by decide), if_pos rfl]
          · rw [if_neg c2, if_neg (show ¬ nI kt > nI v from c2)]
            refine ⟨1, rfl, ?_⟩
            by_cases z : kt = 0
            · exact Or.inl (by rw [z]; rfl)
            · refine Or.inr ?_
              rw [if_neg (nI_nle (by omega) (by omega)), if_neg (by decide), Int32.sub_self]
  obtain ⟨kv, k1, k2⟩ := hket
  refine ⟨mo_in2 P i (nI t) (nI st) (if kv = 0 then J 0 27 else nI t), st, ?_, in_eb ha ht h0 hfr hi ⟨x1, x2, x3, x4⟩ hx hxm es s2 p2 p3 k2, fun k hk => ?_, fun b z0 z10 z11 z13 z14 z15 z16 => ?_⟩
  · unfold mo_go
    rw [k1, Option.bind_some, x1, hx, p1, Option.bind_some, mo_g1 (mo_inN hi6 (by decide)), show (3 : Int32) = nI 3 from rfl, mf_of_ok hi6 (by decide), Option.bind_some, mo_g1 (mo_inN hi6 (by decide)), mo_g1 (mo_inN hi6 (by decide)), mo_g1 (mo_inN hi6 (by decide)), if_neg hb1, zx_uI_ne (by decide), p2 3 (by decide) (by decide), hrl_b a3 hi (by decide), show C (a + 4 + i) (3 + 1) = nI st from es, nI_clamp (by omega)]
    simp only [mo_ite]
    rw [p2 0 (by decide) (by decide)]
    unfold mo_in2
    rw [p2 0 (by decide) (by decide)]
  · unfold mo_in2
    simp only [zx_uI, if_pos]
    rw [if_neg hk]
    rw [if_neg (by decide), if_neg (by decide), if_neg (by decide), if_neg (by decide), p2 0 (by decide) (by decide)]
  · unfold mo_in2
    rw [zx_uI_ne z0, zx_uI_ne z16, zx_uI_ne z15, zx_uI_ne z14, zx_uI_ne z13]
    exact p2 b z10 z11
