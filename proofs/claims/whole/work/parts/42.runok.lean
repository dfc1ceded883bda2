/-! an evening in a valid house is without harm; the house stays -/
theorem fx_mid {a t : Nat} {I : zx_I} {la : Option Nat} {m p c f : Nat} {tt : Int32} (ha : a = 4 ∨ a = 14) (h : cpx a t I la m p c f) : fx I (fe_mid I la a tt) := by
  obtain ⟨q1, q2⟩ := cpx_choose (tt := tt) ha h
  unfold fe_mid fe_who fe_mem
  by_cases c1 : tt ≥ I 36 5
  · rw [if_pos c1, if_pos c1]
    cases ew : (fe_choose I la a tt).1 with
    | none => exact fx_40 q1
    | some w =>
      obtain ⟨j, ct, hj, h6, ec, hb, e, hcan⟩ := q2 w ew
      have hbt : bt w := by unfold bt; omega
      exact fx_tr (fx_40 (eq40_canm q1)) (fx_in hbt)
  · rw [if_neg c1, if_neg c1]
    exact fx_rf
theorem fx_tap {I : zx_I} {tt : Int32} : fx I (fe_tap I tt) := by
  unfold fe_tap
  split
  · exact fx_rf
  · exact fx_of (r := 38) (by omega) (fun b hb => draw_ne hb)
theorem fx_end {I : zx_I} {a : Nat} : fx I (fe_end I a) := by
  unfold fe_end
  exact fx_tr fx_cool (fx_of (r := 36) (by omega) (fun b hb => zx_uI_ne hb))
theorem fx_step {a t : Nat} {I : zx_I} {L : zx_L} {la : Option Nat} {m p c f : Nat} {tt : Int32} (ha : a = 4 ∨ a = 14) (h : cpx a t I la m p c f) : fx I (fe_step L I la a tt) := by
  unfold fe_step
  exact fx_tr (fx_tr (fx_tr (fx_of (r := 39) (by omega) (fun b hb => fe_up_ne hb)) (fx_mid ha (cpx_up ha h))) fx_tap) fx_end
/-- the first memory of an evening -/
theorem rs_at {a : Nat} (ha : a = 4 ∨ a = 14) : ∀ (n j : Nat) (J : zx_I), j + n ≤ 6 → (∀ b, ¬ bt b → rs_loop (a + 4) n j J b = J b) ∧ (∀ b k, k < 10 → rs_loop (a + 4) n j J b k = J b k) ∧ (∀ i k, 10 ≤ k → k < 14 → i < 6 → rs_loop (a + 4) n j J (a + 4 + i) k = if j ≤ i ∧ i < j + n then -4 else J (a + 4 + i) k) := by
  intro n
  induction n with
  | zero =>
    intro j J _
    refine ⟨fun _ _ => rfl, fun _ _ _ => rfl, fun i k _ _ _ => ?_⟩
    rw [if_neg (by omega)]
    rfl
  | succ n ih =>
    intro j J hj
    obtain ⟨i1, i2, i3⟩ := ih (j + 1) (fb_reset J (a + 4 + j)) (by omega)
    rw [rs_loop]
    have hr : ∀ b, b ≠ a + 4 + j → fb_reset J (a + 4 + j) b = J b := fun b hb => by
      unfold fb_reset
      rw [zx_uI_ne hb, zx_uI_ne hb, zx_uI_ne hb, zx_uI_ne hb]
    refine ⟨fun b hb => ?_, fun b k hk => ?_, fun i k h1 h2 h3 => ?_⟩
    · rw [i1 b hb]
      exact hr b (fun q => hb (by unfold bt; omega))
    · rw [i2 b k hk]
      by_cases q : b = a + 4 + j
      · subst q
        unfold fb_reset
        simp only [zx_uI, if_pos]
        rw [if_neg (by omega), if_neg (by omega), if_neg (by omega), if_neg (by omega)]
      · rw [hr b q]
    · rw [i3 i k h1 h2 h3]
      by_cases q : i = j
      · subst q
        rw [if_neg (by omega), if_pos (by omega)]
        unfold fb_reset
        rcases (show k = 10 ∨ k = 11 ∨ k = 12 ∨ k = 13 by omega) with rfl | rfl | rfl | rfl <;> simp [zx_uI]
      · by_cases q2 : j + 1 ≤ i ∧ i < j + 1 + n
        · rw [if_pos q2, if_pos (by omega)]
        · rw [if_neg q2, if_neg (by omega), hr _ (by omega)]
theorem fill_ne {I : zx_I} {a b : Nat} (h1 : b ≠ 37) (h2 : b ≠ 38) : ft_fill I a b = I b := by
  unfold ft_fill zmap zr
  rw [if_neg h2, zx_uI_ne h1, zx_uI_ne h1, zx_uI_ne h1]
theorem fill_37 {I : zx_I} {a : Nat} : ft_fill I a 37 1 = I a 1 ∧ ft_fill I a 37 2 = I a 2 ∧ ft_fill I a 37 3 = I a 3 := by
  unfold ft_fill zmap zr
  rw [if_neg (by decide)]
  simp [zx_uI]
theorem fill_38 {I : zx_I} {a m : Nat} (h1 : I a 1 = nI m) (hm : m ≤ 6) {j : Nat} (hj : j < m) : ft_fill I a 38 j = I a 4 * I a 2 := by
  unfold ft_fill zmap zr
  rw [if_pos rfl, h1, nI_toInt (by omega), if_pos (by omega)]
theorem own_ne {I : zx_I} {b : Nat} (h : b ≠ 36) : fe_own I b = I b := by
  unfold fe_own
  rw [zx_uI_ne h, zx_uI_ne h, zx_uI_ne h, zx_uI_ne h]
theorem fbeg_ne {I : zx_I} {f : Int32} {b : Nat} (h : b ≠ 39) : ff_begin I f b = I b := by
  unfold ff_begin
  rw [zx_uI_ne h, zx_uI_ne h, zx_uI_ne h]
theorem beg_ne {I : zx_I} {a : Nat} {f : Int32} (ha : a = 4 ∨ a = 14) {b : Nat} (h0 : ¬ bt b) (h1 : b ≠ 36) (h2 : b ≠ 37) (h3 : b ≠ 38) (h4 : b ≠ 39) : fe_begin I a f b = I b := by
  unfold fe_begin
  rw [(rs_at ha 6 0 _ (by omega)).1 b h0, own_ne h1, fbeg_ne h4, fill_ne h2 h3]
theorem beg_bt {I : zx_I} {a : Nat} {f : Int32} (ha : a = 4 ∨ a = 14) {b k : Nat} (h0 : bt b) (hk : k < 10) : fe_begin I a f b k = I b k := by
  have : b ≠ 36 ∧ b ≠ 37 ∧ b ≠ 38 ∧ b ≠ 39 := by unfold bt at h0; omega
  unfold fe_begin
  rw [(rs_at ha 6 0 _ (by omega)).2.1 b k hk, own_ne this.1, fbeg_ne this.2.2.2, fill_ne this.2.1 this.2.2.1]
theorem beg_same {I : zx_I} {a : Nat} {f : Int32} (ha : a = 4 ∨ a = 14) : hsame I (fe_begin I a f) a := by
  refine ⟨?_, ?_, ?_, fun i hi k hk => beg_bt ha (by unfold bt; omega) (by omega)⟩ <;> exact beg_ne ha (by unfold bt; omega) (by omega) (by omega) (by omega) (by omega)
theorem beg_37 {I : zx_I} {a : Nat} {f : Int32} (ha : a = 4 ∨ a = 14) : fe_begin I a f 37 = ft_fill I a 37 := by
  unfold fe_begin
  rw [(rs_at ha 6 0 _ (by omega)).1 37 (by unfold bt; omega), own_ne (by decide), fbeg_ne (by decide)]
theorem beg_38 {I : zx_I} {a : Nat} {f : Int32} (ha : a = 4 ∨ a = 14) : fe_begin I a f 38 = ft_fill I a 38 := by
  unfold fe_begin
  rw [(rs_at ha 6 0 _ (by omega)).1 38 (by unfold bt; omega), own_ne (by decide), fbeg_ne (by decide)]
theorem cpx_beg {I : zx_I} {a : Nat} {g : Int32} {m p c f : Nat} (ha : a = 4 ∨ a = 14) (h1 : hvt I a m p c f) (h2 : hvr I a) (h7 : rg (I 34 7) 0 99) : cpx a 0 (fe_begin I a g) none m p c f := by
  have hs := beg_same (I := I) (f := g) ha
  have h1' := h1
  obtain ⟨e1, e2, e3, e4, a1, a2, a3, a4, a5, a6, a7⟩ := h1
  have e37 := fill_37 (I := I) (a := a)
  refine ⟨hvt_cg hs.1 h1', hvr_cg hs h2, ?_, ?_, ?_, ?_, ?_, fun wl q => by cases q⟩
  · rw [beg_37 ha, e37.1]; exact e1
  · rw [beg_37 ha, e37.2.1]; exact e2
  · rw [beg_37 ha, e37.2.2]; exact e3
  · rw [beg_38 ha]
    intro j hj
    rw [fill_38 e1 a2 hj, e4, e2, pk_mul]
    exact ⟨_, rfl, Nat.mul_le_mul_right p a6, Nat.le_trans (Nat.mul_le_mul a7 a4) (by omega)⟩
  · rw [beg_ne ha (by unfold bt; omega) (by omega) (by omega) (by omega) (by omega)]
    exact h7
theorem loop_fx {L : zx_L} {a N m p c f : Nat} (ha : a = 4 ∨ a = 14) (hN : N ≤ 60) : ∀ (n k : Nat) (J : zx_I) (la : Option Nat), k + n = N → cpx a k J la m p c f → fx J (fe_loop L a n k J la).1 ∧ cpx a N (fe_loop L a n k J la).1 (fe_loop L a n k J la).2 m p c f := by
  intro n
  induction n with
  | zero =>
    intro k J la hk h
    have : k = N := by omega
    subst this
    exact ⟨fx_rf, h⟩
  | succ n ih =>
    intro k J la hk h
    rw [fe_loop]
    obtain ⟨i1, i2⟩ := ih (k + 1) _ _ (by omega) (cpx_step (L := L) (tt := nI k) ha (by omega) h)
    exact ⟨fx_tr (fx_step ha h) i1, i2⟩
/-- what calls keep, so that evenings are without harm -/
def Kh (h : Nat) (J : zx_I) : Prop := hv J h ∧ rg (J 34 7) 0 99
theorem Kh_rn {a : Nat} {I : zx_I} {L : zx_L} (ha : a = 4 ∨ a = 14) (h : Kh a I) : rn_ok I L a := by
  obtain ⟨⟨m, p, c, f, h1, h2⟩, h7⟩ := h
  obtain ⟨N, eN, hN1, hN⟩ := h2.2.2.2.2.2.2.1
  refine ⟨N, fun k J la => k ≤ N ∧ J a 12 = nI N ∧ cpx a k J la m p c f, by rw [eN, nI_toInt (by omega)]; rfl, hN, ?_, ?_, ?_, ?_, ?_, ?_⟩
  · rintro k J la ⟨q1, q2, q3⟩
    exact cpx_in (by omega) q3
  · rintro k J la ⟨q1, q2, q3⟩
    exact tkC_ok (cpx_T (t := k) (by omega) (cpx_mid ha (by omega) (cpx_up ha q3)))
  · rintro k J la hk ⟨q1, q2, q3⟩
    refine ⟨hk, ?_, cpx_step ha (by omega) q3⟩
    rw [fx_row ha (fx_step ha q3) (Or.inl rfl)]
    exact q2
  · rintro k J la ⟨q1, q2, q3⟩
    exact q2
  · obtain ⟨e1, e2, -, -, a1, a2, a3, a4, -⟩ := h1
    unfold hs_tk
    rw [e1, e2, nI_toInt (by omega), nI_toInt (by omega)]
    omega
  · refine ⟨Nat.zero_le _, ?_, cpx_beg ha h1 h2 h7⟩
    rw [(beg_same ha).1]
    exact eN
theorem Kh_end {a : Nat} {I : zx_I} {L : zx_L} (ha : a = 4 ∨ a = 14) (h : Kh a I) : fx (fe_begin I a (I 34 2)) (fr_end I L a).1 ∧ ∃ N m p c f, N ≤ 60 ∧ 1 ≤ N ∧ I a 12 = nI N ∧ cpx a N (fr_end I L a).1 (fr_end I L a).2 m p c f := by
  obtain ⟨⟨m, p, c, f, h1, h2⟩, h7⟩ := h
  obtain ⟨N, eN, hN1, hN⟩ := h2.2.2.2.2.2.2.1
  obtain ⟨q1, q2⟩ := loop_fx (L := L) (a := a) (N := N) (m := m) (p := p) (c := c) (f := f) ha hN N 0 (fe_begin I a (I 34 2)) none (by omega) (cpx_beg ha h1 h2 h7)
  have e : (I a 12).toInt.toNat = N := by rw [eN, nI_toInt (by omega)]; rfl
  unfold fr_end
  rw [e]
  exact ⟨q1, N, m, p, c, f, hN, hN1, eN, q2⟩
theorem Kh_kr {a : Nat} (ha : a = 4 ∨ a = 14) : kr (Kh a) a := by
  intro J L h
  refine ⟨Kh_rn ha h, ?_⟩
  obtain ⟨q1, N, m, p, c, f, -, -, -, q2⟩ := Kh_end (L := L) ha h
  exact ⟨⟨m, p, c, f, q2.1, q2.2.1⟩, q2.2.2.2.2.2.2.1⟩
