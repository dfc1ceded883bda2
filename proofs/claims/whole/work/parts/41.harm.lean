/-! a valid house; an evening in it is without harm -/
def rg (x : Int32) (lo hi : Nat) : Prop := ∃ k : Nat, x = nI k ∧ lo ≤ k ∧ k ≤ hi
def hvb (f : Nat → Int32) (m : Nat) : Prop := rg (f 1) 1 99 ∧ rg (f 2) 0 99 ∧ rg (f 3) 0 99 ∧ rg (f 4) 1 20 ∧ rg (f 5) 0 60 ∧ rg (f 6) 0 99 ∧ rg (f 7) 0 (2 ^ m - 1) ∧ rg (f 8) 0 (2 ^ m - 1)
def hvt (I : zx_I) (a m p c f : Nat) : Prop := I a 1 = nI m ∧ I a 2 = nI p ∧ I a 3 = nI c ∧ I a 4 = nI f ∧ 1 ≤ m ∧ m ≤ 6 ∧ 1 ≤ p ∧ p ≤ 60 ∧ c ≤ 40 ∧ c ≤ f ∧ f ≤ 95
def hvr (I : zx_I) (a : Nat) : Prop := rg (I a 5) 0 999 ∧ (∀ s, 1 ≤ s → s ≤ 3 → rg (I (a + 1) s) 0 10998 ∧ rg (I (a + 2) s) 1 30) ∧ rg (I a 8) 0 9 ∧ rg (I a 9) 0 30 ∧ rg (I a 10) 1 30 ∧ rg (I a 11) 0 9 ∧ rg (I a 12) 1 60 ∧ (∃ ct, ct ≤ 6 ∧ I a 13 = nI ct ∧ ∀ i, i < ct → hvb (I (a + 4 + i)) ct) ∧ ∀ i, i < 6 → I (a + 4 + i) 0 = nI (2 ^ i)
def hv (I : zx_I) (a : Nat) : Prop := ∃ m p c f, hvt I a m p c f ∧ hvr I a
/-- the house stays -/
def fx (I I' : zx_I) : Prop := (∀ b, b ≠ 36 → b ≠ 38 → b ≠ 39 → b ≠ 40 → ¬ bt b → I' b = I b) ∧ ∀ b, bt b → ∀ k, k < 10 → I' b k = I b k
theorem fx_rf {I : zx_I} : fx I I := ⟨fun _ _ _ _ _ _ => rfl, fun _ _ _ _ => rfl⟩
theorem fx_tr {I J K : zx_I} (h1 : fx I J) (h2 : fx J K) : fx I K := ⟨fun b a1 a2 a3 a4 a5 => (h2.1 b a1 a2 a3 a4 a5).trans (h1.1 b a1 a2 a3 a4 a5), fun b hb k hk => (h2.2 b hb k hk).trans (h1.2 b hb k hk)⟩
theorem fx_of {I J : zx_I} {r : Nat} (hr : r = 36 ∨ r = 38 ∨ r = 39 ∨ r = 40) (h : ∀ b, b ≠ r → J b = I b) : fx I J := ⟨fun b a1 a2 a3 a4 _ => h b (by omega), fun b hb k _ => by rw [h b (by unfold bt at hb; omega)]⟩
theorem fx_row {I J : zx_I} {a : Nat} (ha : a = 4 ∨ a = 14) (h : fx I J) {b : Nat} (hb : b = a ∨ b = a + 1 ∨ b = a + 2 ∨ b = 37 ∨ b = 34 ∨ b = 35) : J b = I b := h.1 b (by omega) (by omega) (by omega) (by omega) (by unfold bt; omega)
theorem fx_bat {I J : zx_I} {a i k : Nat} (ha : a = 4 ∨ a = 14) (h : fx I J) (hi : i < 6) (hk : k < 10) : J (a + 4 + i) k = I (a + 4 + i) k := h.2 _ (by unfold bt; omega) k hk
theorem hvb_cg {f g : Nat → Int32} {m : Nat} (h : ∀ k, k < 9 → g k = f k) (hb : hvb f m) : hvb g m := by
  unfold hvb at hb ⊢
  rw [h 1 (by omega), h 2 (by omega), h 3 (by omega), h 4 (by omega), h 5 (by omega), h 6 (by omega), h 7 (by omega), h 8 (by omega)]
  exact hb
/-- a house of another memory with the same contents -/
def hsame (I J : zx_I) (a : Nat) : Prop := J a = I a ∧ J (a + 1) = I (a + 1) ∧ J (a + 2) = I (a + 2) ∧ ∀ i, i < 6 → ∀ k, k < 9 → J (a + 4 + i) k = I (a + 4 + i) k
theorem hsame_fx {I J : zx_I} {a : Nat} (ha : a = 4 ∨ a = 14) (h : fx I J) : hsame I J a := ⟨fx_row ha h (Or.inl rfl), fx_row ha h (Or.inr (Or.inl rfl)), fx_row ha h (Or.inr (Or.inr (Or.inl rfl))), fun i hi k hk => fx_bat ha h hi (by omega)⟩
theorem hvt_cg {I J : zx_I} {a m p c f : Nat} (h : J a = I a) (hb : hvt I a m p c f) : hvt J a m p c f := by
  unfold hvt at hb ⊢
  rw [h]
  exact hb
theorem hvr_cg {I J : zx_I} {a : Nat} (h : hsame I J a) (hb : hvr I a) : hvr J a := by
  obtain ⟨h0, h1, h2, h3⟩ := h
  unfold hvr at hb ⊢
  rw [h0, h1, h2]
  obtain ⟨b1, b2, b3, b4, b5, b6, b7, ⟨ct, b8, b9, b10⟩, b11⟩ := hb
  exact ⟨b1, b2, b3, b4, b5, b6, b7, ⟨ct, b8, b9, fun i hi => hvb_cg (fun k hk => h3 i (by omega) k hk) (b10 i hi)⟩, fun i hi => by rw [h3 i hi 0 (by omega)]; exact b11 i hi⟩
theorem hv_cg {I J : zx_I} {a : Nat} (h : hsame I J a) (hb : hv I a) : hv J a := by
  obtain ⟨m, p, c, f, h1, h2⟩ := hb
  exact ⟨m, p, c, f, hvt_cg h.1 h1, hvr_cg h h2⟩
/-- what holds of the class at each step of an evening -/
def cpx (a t : Nat) (I : zx_I) (la : Option Nat) (m p c f : Nat) : Prop := hvt I a m p c f ∧ hvr I a ∧ I 37 1 = nI m ∧ I 37 2 = nI p ∧ I 37 3 = nI c ∧ ub (I 38) m (c * p) (5700 + 10998 * t) ∧ rg (I 34 7) 0 99 ∧ ∀ wl, la = some wl → bt wl
theorem cpx_T {a t : Nat} {I : zx_I} {la : Option Nat} {m p c f : Nat} (ht : t ≤ 60) (h : cpx a t I la m p c f) : tkC I m p c (un (I 38)) := by
  obtain ⟨⟨-, -, -, -, a1, a2, a3, a4, a5, a6, a7⟩, -, t1, t2, t3, hb, -⟩ := h
  exact tkC_of t1 t2 t3 a1 a2 a3 a4 a5 hb (by omega)
theorem cpx_ct {a t : Nat} {I : zx_I} {la : Option Nat} {m p c f : Nat} (h : cpx a t I la m p c f) : ∃ ct, ct ≤ 6 ∧ I a 13 = nI ct ∧ ∀ i, i < ct → hvb (I (a + 4 + i)) ct := h.2.1.2.2.2.2.2.2.2.1
theorem fe_g_N {I : zx_I} {a : Nat} (h : rg (I a 9) 0 30) : ∃ g0, fe_g I a = nI g0 ∧ g0 ≤ 30 := by
  unfold fe_g
  split
  · exact ⟨0, rfl, by omega⟩
  · obtain ⟨k, e, -, h2⟩ := h
    exact ⟨k, e, h2⟩
theorem cpx_okw {a t : Nat} {I : zx_I} {la : Option Nat} {m p c f i ct : Nat} (ht : t ≤ 60) (h : cpx a t I la m p c f) (hb : hvb (I (a + 4 + i)) ct) : ok_w I a (a + 4 + i) := by
  obtain ⟨⟨v, ev, v1, v2⟩, ⟨lo, el, -, l2⟩, -⟩ := hb
  obtain ⟨g0, eg, hg⟩ := fe_g_N h.2.1.2.2.2.1
  have := fc_harm (cpx_T ht h) ev el v1 v2 l2 hg
  unfold ok_w
  rw [eg]
  refine ⟨?_, this⟩
  rw [ev, nI_toInt (by omega)]
  omega
theorem cpx_in {a t : Nat} {I : zx_I} {la : Option Nat} {m p c f : Nat} (ht : t ≤ 60) (h : cpx a t I la m p c f) : ok_in I la a := by
  obtain ⟨ct, h6, ec, hb⟩ := cpx_ct h
  refine ⟨tkC_ok (cpx_T ht h), ?_, h.2.2.2.2.2.2.2, ?_⟩
  · unfold hs_ct
    rw [ec, nI_toInt (by omega)]
    omega
  · intro i hi
    rw [ec, nI_toInt (by omega)] at hi
    exact cpx_okw ht h (hb i (by omega))
theorem cpx_fx {a t t' : Nat} {I J : zx_I} {la la' : Option Nat} {m p c f : Nat} (ha : a = 4 ∨ a = 14) (h : cpx a t I la m p c f) (hx : fx I J) (hb : ub (J 38) m (c * p) (5700 + 10998 * t')) (hl : ∀ wl, la' = some wl → bt wl) : cpx a t' J la' m p c f := by
  obtain ⟨h1, h2, t1, t2, t3, -, h7, -⟩ := h
  have e37 := fx_row ha hx (b := 37) (by omega)
  have e34 := fx_row ha hx (b := 34) (by omega)
  exact ⟨hvt_cg (fx_row ha hx (Or.inl rfl)) h1, hvr_cg (hsame_fx ha hx) h2, by rw [e37]; exact t1, by rw [e37]; exact t2, by rw [e37]; exact t3, hb, by rw [e34]; exact h7, hl⟩
theorem fx_40 {I J : zx_I} (h : eq40 J I) : fx I J := fx_of (r := 40) (by omega) h
theorem cpx_40 {a t : Nat} {I J : zx_I} {la : Option Nat} {m p c f : Nat} (ha : a = 4 ∨ a = 14) (h : cpx a t I la m p c f) (he : eq40 J I) : cpx a t J la m p c f :=
  cpx_fx ha h (fx_40 he) (by rw [he 38 (by decide)]; exact h.2.2.2.2.2.1) h.2.2.2.2.2.2.2
/-- what is drawn for a bather who can go in -/
theorem can_pints {a t : Nat} {I : zx_I} {la : Option Nat} {m p c f i ct : Nat} {tt : Int32} (ha : a = 4 ∨ a = 14) (hi : i < 6) (ht : t ≤ 60) (h : cpx a t I la m p c f) (hb : hvb (I (a + 4 + i)) ct) (hcan : ¬ fe_can I la a (a + 4 + i) tt = 0) : ∃ x, fe_canm I la a (a + 4 + i) tt 40 0 = nI x ∧ x ≤ m * p := by
  obtain ⟨⟨v, ev, v1, v2⟩, ⟨lo, el, -, l2⟩, -⟩ := hb
  obtain ⟨g0, eg, hg⟩ := fe_g_N h.2.1.2.2.2.1
  unfold fe_can at hcan
  unfold fe_canm
  split at hcan
  · exact absurd rfl hcan
  · rename_i c1
    rw [if_neg c1]
    split at hcan
    · rename_i c2
      rw [if_pos c2]
      split at hcan
      · rename_i c3
        rw [if_pos c3]
        split at hcan
        · rename_i c4
          rw [if_pos c4]
          obtain ⟨-, -, hs⟩ := fc_spec (cpx_T ht h) ev el v1 v2 l2 hg rfl
          rw [← eg] at hs
          have hJ : ∀ b, b ≠ 40 → fe_J I la a tt b = I b := fun b hb => fe_J_ne hb
          have ecg : fc_p (fe_J I la a tt) (a + 4 + i) (fe_g I a) = fc_p I (a + 4 + i) (fe_g I a) := fc_p_cg (hJ 37 (by decide)) (hJ 38 (by decide)) (hJ _ (by omega))
          rcases hs with ⟨e, -⟩ | ⟨h0, e, a1, a2, -⟩
          · unfold fc_is at hcan
            rw [if_pos e] at hcan
            exact absurd rfl hcan
          · refine ⟨h0, ?_, a2⟩
            unfold fc_m
            rw [ecg, e]
            split <;> simp [zx_uI]
        · rename_i c4
          rw [if_neg c4]
          unfold fe_lf at c4
          cases la with
          | none => exact absurd rfl c4
          | some wl =>
            dsimp only at c4
            split at c4
            · rename_i c5
              unfold fe_J
              dsimp only
              rw [if_pos c5]
              exact ⟨0, by simp [fb_leftm, zx_uI]; rfl, Nat.zero_le _⟩
            · exact absurd rfl c4
      · exact absurd rfl hcan
    · exact absurd rfl hcan
theorem fx_w {E C : zx_I} {w : Nat} {t : Int32} (hw : bt w) : fx E (fe_w E C w t) := by
  have h36 : w ≠ 36 := by unfold bt at hw; omega
  constructor
  · intro b a1 a2 a3 a4 a5
    have hb : b ≠ w := fun q => a5 (q ▸ hw)
    unfold fe_w
    rw [zx_uI_ne a1, zx_uI_ne a1, zx_uI_ne a1, zx_uI_ne hb, zx_uI_ne hb, zx_uI_ne hb, zx_uI_ne hb]
  · intro b hb k hk
    have h1 : b ≠ 36 := by unfold bt at hb; omega
    unfold fe_w
    rw [zx_uI_ne h1, zx_uI_ne h1, zx_uI_ne h1]
    simp only [zx_uI]
    split
    · rw [if_neg (by omega), if_neg (by omega), if_neg (by omega), if_neg (by omega)]
    · rfl
theorem fe_w_38 {E C : zx_I} {w : Nat} {t : Int32} (hw : bt w) : fe_w E C w t 38 = E 38 := by
  have h1 : (38 : Nat) ≠ w := by unfold bt at hw; omega
  unfold fe_w
  rw [zx_uI_ne (by decide), zx_uI_ne (by decide), zx_uI_ne (by decide), zx_uI_ne h1, zx_uI_ne h1, zx_uI_ne h1, zx_uI_ne h1]
theorem fx_in {C : zx_I} {w : Nat} {t : Int32} (hw : bt w) : fx C (fe_in C w t) := by
  unfold fe_in
  refine fx_tr ?_ (fx_w hw)
  split
  · exact fx_of (r := 38) (by omega) (fun b hb => draw_ne hb)
  · exact fx_tr (fx_of (r := 38) (by omega) (fun b hb => draw_ne hb)) (fx_of (r := 36) (by omega) (fun b hb => zx_uI_ne hb))
theorem in_38 {C : zx_I} {w : Nat} {t : Int32} (hw : bt w) : fe_in C w t 38 = ft_draw C (C 40 0) 38 := by
  unfold fe_in
  rw [fe_w_38 hw]
  split
  · rfl
  · rw [zx_uI_ne (by decide)]
theorem cpx_in_ {a t : Nat} {C : zx_I} {la : Option Nat} {m p c f w x : Nat} {tt : Int32} (ha : a = 4 ∨ a = 14) (ht : t ≤ 60) (hw : bt w) (h : cpx a t C la m p c f) (hx : C 40 0 = nI x) (hx2 : x ≤ 2000) : cpx a t (fe_in C w tt) (some w) m p c f := by
  refine cpx_fx ha h (fx_in hw) ?_ (fun wl q => by cases q; exact hw)
  rw [in_38 hw, hx]
  obtain ⟨-, -, -, -, a1, a2, a3, a4, a5, a6, a7⟩ := h.1
  have hcp : c * p ≤ 95 * 60 := Nat.mul_le_mul (by omega) a4
  exact ub_draw (cpx_T ht h) h.2.2.2.2.2.1 (by omega) (by omega) hx2
theorem cpx_up {a t : Nat} {I : zx_I} {L : zx_L} {la : Option Nat} {m p c f : Nat} {tt : Int32} (ha : a = 4 ∨ a = 14) (h : cpx a t I la m p c f) : cpx a t (fe_up I L tt) la m p c f :=
  cpx_fx ha h (fx_of (r := 39) (by omega) (fun b hb => fe_up_ne hb)) (by rw [fe_up_ne (by decide)]; exact h.2.2.2.2.2.1) h.2.2.2.2.2.2.2
theorem cpx_choose {a t : Nat} {I : zx_I} {la : Option Nat} {m p c f : Nat} {tt : Int32} (ha : a = 4 ∨ a = 14) (h : cpx a t I la m p c f) : eq40 (fe_choose I la a tt).2 I ∧ ∀ w, (fe_choose I la a tt).1 = some w → ∃ j ct, j < ct ∧ ct ≤ 6 ∧ I a 13 = nI ct ∧ hvb (I (a + 4 + j)) ct ∧ w = a + 4 + j ∧ ¬ fe_can I la a w tt = 0 := by
  obtain ⟨ct, h6, ec, hb⟩ := cpx_ct h
  have hc : hs_ct I a := by
    unfold hs_ct
    rw [ec, nI_toInt (by omega)]
    omega
  obtain ⟨q1, q2⟩ := fe_choose_ok (t := tt) ha hc h.2.2.2.2.2.2.2
  refine ⟨q1, fun w hw => ?_⟩
  obtain ⟨j, hj, e, hcan⟩ := q2 w hw
  rw [ec, nI_toInt (by omega)] at hj
  exact ⟨j, ct, by omega, h6, ec, hb j (by omega), e, hcan⟩
theorem cpx_mid {a t : Nat} {I : zx_I} {la : Option Nat} {m p c f : Nat} {tt : Int32} (ha : a = 4 ∨ a = 14) (ht : t ≤ 60) (h : cpx a t I la m p c f) : cpx a t (fe_mid I la a tt) (fe_la la (fe_who I la a tt)) m p c f := by
  obtain ⟨q1, q2⟩ := cpx_choose (tt := tt) ha h
  unfold fe_mid fe_who fe_mem
  by_cases c1 : tt ≥ I 36 5
  · rw [if_pos c1, if_pos c1]
    have hm := cpx_40 ha h q1
    cases ew : (fe_choose I la a tt).1 with
    | none => exact hm
    | some w =>
      obtain ⟨j, ct, hj, h6, ec, hb, e, hcan⟩ := q2 w ew
      show cpx a t (fe_in (fe_canm (fe_choose I la a tt).2 la a w tt) w tt) (some w) m p c f
      have hbt : bt w := by unfold bt; omega
      have hb' : hvb ((fe_choose I la a tt).2 (a + 4 + j)) ct := by rw [q1 _ (by omega)]; exact hb
      have hcan' : ¬ fe_can (fe_choose I la a tt).2 la a (a + 4 + j) tt = 0 := by
        rw [← e, fe_can_cg q1 ha hbt h.2.2.2.2.2.2.2]
        exact hcan
      obtain ⟨x, ex, hx⟩ := can_pints ha (show j < 6 by omega) ht hm hb' hcan'
      rw [← e] at ex
      obtain ⟨-, -, -, -, a1, a2, a3, a4, a5, a6, a7⟩ := h.1
      have hmp : m * p ≤ 6 * 60 := Nat.mul_le_mul a2 a4
      exact cpx_in_ ha ht hbt (cpx_40 ha hm (fun b hb => fe_canm_ne hb)) ex (by omega)
  · rw [if_neg c1, if_neg c1]
    exact h
theorem tap_N {J : zx_I} {m p : Nat} (h1 : J 37 1 = nI m) (h2 : J 37 2 = nI p) (hmp : m * p ≤ 360) (h7 : rg (J 34 7) 0 99) : ∃ x, fe_min (J 34 7) (J 37 1 * J 37 2) = nI x ∧ x ≤ m * p := by
  obtain ⟨k, e, -, hk⟩ := h7
  unfold fe_min
  rw [e, h1, h2, pk_mul]
  by_cases q : m * p < k
  · rw [if_pos (nI_lt q (by omega))]
    exact ⟨_, rfl, Nat.le_refl _⟩
  · rw [if_neg (nI_nlt (by omega) (by omega))]
    exact ⟨k, rfl, by omega⟩
theorem cpx_tap {a t : Nat} {I : zx_I} {la : Option Nat} {m p c f : Nat} {tt : Int32} (ha : a = 4 ∨ a = 14) (ht : t ≤ 60) (h : cpx a t I la m p c f) : cpx a t (fe_tap I tt) la m p c f := by
  unfold fe_tap
  split
  · exact h
  · obtain ⟨-, -, -, -, a1, a2, a3, a4, a5, a6, a7⟩ := h.1
    have hmp : m * p ≤ 6 * 60 := Nat.mul_le_mul a2 a4
    obtain ⟨x, ex, hx⟩ := tap_N h.2.2.1 h.2.2.2.1 hmp h.2.2.2.2.2.2.1
    rw [ex]
    have hcp : c * p ≤ 95 * 60 := Nat.mul_le_mul (by omega) a4
    exact cpx_fx ha h (fx_of (r := 38) (by omega) (fun b hb => draw_ne hb)) (ub_draw (cpx_T ht h) h.2.2.2.2.2.1 (by omega) (by omega) (by omega)) h.2.2.2.2.2.2.2
theorem gives_N {I : zx_I} {a : Nat} (h : ∀ s, 1 ≤ s → s ≤ 3 → rg (I (a + 1) s) 0 10998 ∧ rg (I (a + 2) s) 1 30) : ∃ x, ff_gives I a = nI x ∧ x ≤ 10998 := by
  unfold ff_gives
  split
  · exact ⟨0, rfl, by omega⟩
  · rename_i c1
    split
    · rename_i c2
      have h1 : ¬ I 39 0 < 0 := fun q => by
        rw [Int32.lt_iff_toInt_lt] at c1 q
        have e0 : (0 : Int32).toInt = 0 := rfl
        have e1 : (1 : Int32).toInt = 1 := rfl
        omega
      obtain ⟨s, hs, e⟩ := nI_of2 (n := 3) (M := 3) rfl h1 c2
      rw [e] at c1 ⊢
      have hs1 : 1 ≤ s := Nat.le_of_not_lt (fun q => c1 (nI_lt (b := 1) q (by decide)))
      rw [nI_clamp (by omega)]
      obtain ⟨k, e2, -, hk⟩ := (h s hs1 hs).1
      exact ⟨k, e2, hk⟩
    · exact ⟨0, rfl, by omega⟩
theorem fx_cool {J : zx_I} {a : Nat} : fx J (fe_cool J a) := by
  unfold fe_cool
  exact fx_tr (fx_tr (fx_of (r := 38) (by omega) (fun b hb => warm_ne hb)) (fx_of (r := 38) (by omega) (fun b hb => lose_ne hb))) (fx_of (r := 39) (by omega) (fun b hb => old_ne hb))
theorem cool_38 {J : zx_I} {a : Nat} : fe_cool J a 38 = ft_lose (ft_warm J (ff_gives J a)) (J a 5) 38 := old_ne (by decide)
theorem cpx_end {a t : Nat} {I : zx_I} {la : Option Nat} {m p c f : Nat} (ha : a = 4 ∨ a = 14) (ht : t < 60) (h : cpx a t I la m p c f) : cpx a (t + 1) (fe_end I a) la m p c f := by
  unfold fe_end
  refine cpx_fx ha h (fx_tr fx_cool (fx_of (r := 36) (by omega) (fun b hb => zx_uI_ne hb))) ?_ h.2.2.2.2.2.2.2
  rw [zx_uI_ne (by decide), cool_38]
  obtain ⟨-, -, -, -, a1, a2, a3, a4, a5, a6, a7⟩ := h.1
  obtain ⟨x, ex, hx⟩ := gives_N h.2.1.2.1
  obtain ⟨l, el, -, hl⟩ := h.2.1.1
  rw [ex, el]
  refine ub_lose (by rw [warm_ne (by decide)]; exact h.2.2.1) (by rw [warm_ne (by decide)]; exact h.2.2.2.1) (by rw [warm_ne (by decide)]; exact h.2.2.2.2.1) a2 hl ?_ (by omega)
  exact ub_mono (ub_warm h.2.2.1 a1 a2 h.2.2.2.2.2.1 (by omega)) (by omega)
theorem cpx_step {a t : Nat} {I : zx_I} {L : zx_L} {la : Option Nat} {m p c f : Nat} {tt : Int32} (ha : a = 4 ∨ a = 14) (ht : t < 60) (h : cpx a t I la m p c f) : cpx a (t + 1) (fe_step L I la a tt) (fe_next L I la a tt) m p c f := by
  unfold fe_step fe_next
  exact cpx_end ha ht (cpx_tap ha (by omega) (cpx_mid ha (by omega) (cpx_up ha h)))
