/-! the tub: one goes in, in the class and in the model -/
theorem choose_spec {n a t nx : Nat} {I J : zx_I} {la : Option Nat} {last rule : Int32} {m p c f ct Wn fr : Nat} (ha : a = 4 ∨ a = 14) (hn : 200 ≤ n) (ht : t ≤ 60) (h : eb a t I la J last m p c f ct Wn fr) (hfr : fr ≤ t) (hrule : I 34 0 = rule) (hhot : J 0 8 = I 34 1) (hcm : ∀ j, j < ct → rg (I (a + 4 + j) 9) 0 100) (hnx : I 36 7 = nI nx) (hnx60 : nx ≤ 60) (hrow : ∀ k, k < 6 → J 17 k = I 35 k) (hro : rowok (I 35) ct) :
    ∃ x' J', mf_chosen n rule (nI t) last (nI nx) J = some (x', J') ∧ eqJ J' J ∧ frel a ct (fe_choose I la a (nI t)).1 x' := by
  have hct : ct ≤ 6 := h.2.1.2.1
  have h16 : J 3 16 = nI ct := by rw [h.2.2.1 16 (by omega), show ho I a 16 = I a 13 from rfl, h.2.1.1]
  unfold mf_chosen fe_choose mf_many
  rw [hrule]
  by_cases c1 : rule = 0
  · rw [if_pos c1, if_pos c1, h16, hnx]
    by_cases c2 : nx < ct
    · obtain ⟨x, hx, ex⟩ := hro.1 nx c2
      have epl : fa_place I (nI nx) = nI x := by
        unfold fa_place
        rw [if_neg (nI_pos (by omega)), if_pos (show nI nx < (6 : Int32) from nI_lt (b := 6) (by omega) (by decide)), nI_clamp (by omega), ex]
      obtain ⟨J', e1, e2, -⟩ := cg_spec ha hn ht h hx hfr
      rw [if_neg (nI_ge (by omega) (by omega)), mo_g1 (mo_inN (by omega) (by decide)), nI_clamp (by omega), hrow nx (by omega), ex, e1, epl, fh_who_at h.2.1.1 hx hct, Option.bind_some]
      dsimp only
      by_cases c3 : fe_can I la a (a + 4 + x) (nI t) = 0
      · rw [if_pos c3, if_pos c3]
        exact ⟨_, _, rfl, e2, Or.inl ⟨rfl, rfl⟩⟩
      · rw [if_neg c3, if_neg c3, mo_g1 (mo_inN (by omega) (by decide)), e2.1 17 (by decide), hrow nx (by omega), ex]
        exact ⟨_, _, rfl, e2, Or.inr ⟨x, hx, rfl, rfl⟩⟩
    · have ew : fh_who I a (fa_place I (nI nx)) = none := by
        by_cases c4 : nx < 6
        · obtain ⟨x, hx1, hx2, ex⟩ := hro.2 nx (by omega) c4
          have epl : fa_place I (nI nx) = nI x := by
            unfold fa_place
            rw [if_neg (nI_pos (by omega)), if_pos (show nI nx < (6 : Int32) from nI_lt (b := 6) (by omega) (by decide)), nI_clamp (by omega), ex]
          rw [epl]
          unfold fh_who
          rw [if_neg (nI_pos (by omega)), h.2.1.1, if_pos (show nI x ≥ nI ct from nI_le hx1 (by omega))]
        · have epl : fa_place I (nI nx) = -4 := by
            unfold fa_place
            rw [if_neg (nI_pos (by omega)), if_neg (show ¬ nI nx < (6 : Int32) from nI_nlt (b := 6) (by omega) (by omega))]
          rw [epl]
          unfold fh_who
          rw [if_pos (by decide)]
      rw [if_pos (nI_le (by omega) (by omega)), ew]
      exact ⟨_, _, rfl, eqJ_rf, Or.inl ⟨rfl, rfl⟩⟩
  · rw [if_neg c1, if_neg c1, h.2.1.1, nI_toInt (by omega)]
    obtain ⟨x', Jm', e1, e2, e3⟩ := ch_spec (K := fun x5_49 J_49 => some (x5_49, J_49)) ha hn ht h hfr hrule hhot hcm ct 0 n none (-4) I J (by omega) (by omega) (fun _ _ => rfl) eqJ_rf (Or.inl ⟨rfl, rfl⟩)
    exact ⟨x', Jm', e1, e2, e3⟩
/-- the model's draw -/
theorem tkN_cg {J J' : zx_I} {m p c : Nat} {u : Nat → Nat} (h3 : J' 3 = J 3) (h10 : J' 10 = J 10) (h : tkN J m p c u) : tkN J' m p c u := by
  unfold tkN at h ⊢
  rw [h3, h10]
  exact h
theorem md_loop1 {n m p c h : Nat} {u : Nat → Nat} {K : zx_I → Option zx_I} (hn : 7 ≤ n) (hh : h ≤ m * p) : ∀ (d j k : Nat) (J : zx_I), j + d = m → d < k → tkN J m p c u → ∃ J', mf_draw_9 n (nI h) (nI p) K k (nI j) J = K J' ∧ (∀ b, b ≠ 11 → J' b = J b) ∧ ∀ i, J' 11 i = if j ≤ i ∧ i < j + d then nI (dlay u c p m (i + h / p) (h % p)) else J 11 i := by
  intro d
  induction d with
  | zero =>
    intro j k J hj hk hT
    obtain ⟨k, rfl⟩ : ∃ k9, k = k9 + 1 := ⟨k - 1, by omega⟩
    have hm := hT.2.2.2.2.1
    refine ⟨J, ?_, fun _ _ => rfl, fun i => by rw [if_neg (by omega)]⟩
    show mf_draw_9_b _ _ _ _ _ _ _ = _
    unfold mf_draw_9_b
    rw [hT.1, if_pos (nI_le (by omega) (by omega))]
  | succ d ih =>
    intro j k J hj hk hT
    obtain ⟨k, rfl⟩ : ∃ k9, k = k9 + 1 := ⟨k - 1, by omega⟩
    have hm := hT.2.2.2.2.1
    have hp1 := hT.2.2.2.2.2.1
    have hp := hT.2.2.2.2.2.2.1
    have hmp : m * p ≤ 6 * 60 := Nat.mul_le_mul hm hp
    have hk6 : h / p ≤ m := Nat.div_le_of_le_mul (by rw [Nat.mul_comm]; exact hh)
    have hdm := Nat.div_add_mod h p
    have ej : p * (j + h / p) + h % p = p * j + h := by rw [Nat.mul_add]; omega
    have eu := un_lay (w := j + h / p) (r := h % p) hn hT (Nat.mod_lt _ hp1) (by omega)
    rw [ej] at eu
    obtain ⟨J', e1, e2, e3⟩ := ih (j + 1) k (zx_uI J 11 j (nI (dlay u c p m (j + h / p) (h % p)))) (by omega) (by omega) (tkN_cg (zx_uI_ne (by decide)) (zx_uI_ne (by decide)) hT)
    refine ⟨J', ?_, fun b hb => (e2 b hb).trans (zx_uI_ne hb), fun i => ?_⟩
    · show mf_draw_9_b _ _ _ _ _ _ _ = _
      unfold mf_draw_9_b
      rw [hT.1, if_neg (nI_ge (by omega) (by omega)), pk_mul, nI_add, nI_add, nI_add, show p * j + p + h = p * j + h + p by omega, eu, Option.bind_some, mo_g1 (mo_inN (by omega) (by decide)), nI_clamp (by omega), ← nI_succ]
      exact e1
    · rw [e3 i]
      by_cases q : i = j
      · subst q
        rw [if_neg (by omega), if_pos (by omega)]
        simp [zx_uI]
      · by_cases q2 : j + 1 ≤ i ∧ i < j + 1 + d
        · rw [if_pos q2, if_pos (by omega)]
        · rw [if_neg q2, if_neg (by omega)]
          simp [zx_uI, q]
theorem md_loop2 {n m : Nat} {K : zx_I → Option zx_I} (hm : m ≤ 6) : ∀ (d j k : Nat) (J : zx_I), j + d = m → d < k → J 3 0 = nI m → ∃ J', mf_draw_49 n K k (nI j) J = K J' ∧ (∀ b, b ≠ 10 → J' b = J b) ∧ ∀ i, J' 10 i = if j ≤ i ∧ i < j + d then J 11 i else J 10 i := by
  intro d
  induction d with
  | zero =>
    intro j k J hj hk hT
    obtain ⟨k, rfl⟩ : ∃ k9, k = k9 + 1 := ⟨k - 1, by omega⟩
    refine ⟨J, ?_, fun _ _ => rfl, fun i => by rw [if_neg (by omega)]⟩
    show mf_draw_49_b _ _ _ _ _ = _
    unfold mf_draw_49_b
    rw [hT, if_pos (nI_le (by omega) (by omega))]
  | succ d ih =>
    intro j k J hj hk hT
    obtain ⟨k, rfl⟩ : ∃ k9, k = k9 + 1 := ⟨k - 1, by omega⟩
    obtain ⟨J', e1, e2, e3⟩ := ih (j + 1) k (zx_uI J 10 j (J 11 j)) (by omega) (by omega) (by rw [zx_uI_ne (by decide)]; exact hT)
    refine ⟨J', ?_, fun b hb => (e2 b hb).trans (zx_uI_ne hb), fun i => ?_⟩
    · show mf_draw_49_b _ _ _ _ _ = _
      unfold mf_draw_49_b
      rw [hT, if_neg (nI_ge (by omega) (by omega)), mo_g1 (mo_inN (by omega) (by decide)), mo_g1 (mo_inN (by omega) (by decide)), nI_clamp (by omega), ← nI_succ]
      exact e1
    · rw [e3 i]
      by_cases q : i = j
      · subst q
        rw [if_neg (by omega), if_pos (by omega)]
        simp [zx_uI]
      · by_cases q2 : j + 1 ≤ i ∧ i < j + 1 + d
        · rw [if_pos q2, if_pos (by omega), zx_uI_ne (by decide)]
        · rw [if_neg q2, if_neg (by omega)]
          simp [zx_uI, q]
theorem draw_N {n m p c h : Nat} {J : zx_I} {u : Nat → Nat} (hn : 7 ≤ n) (hT : tkN J m p c u) (hh : h ≤ m * p) : ∃ J', mf_draw n (nI h) J = some J' ∧ (∀ b, b ≠ 10 → b ≠ 11 → J' b = J b) ∧ ∀ i, i < m → J' 10 i = nI (dlay u c p m (i + h / p) (h % p)) := by
  have hm := hT.2.2.2.2.1
  unfold mf_draw
  rw [hT.2.1]
  obtain ⟨J1, e1, e2, e3⟩ := md_loop1 (K := fun J_9 => (mf_draw_49 n (fun J_49 => some (J_49)) n (0 : Int32) J_9)) hn hh m 0 n J (by omega) (by omega) hT
  obtain ⟨J2, f1, f2, f3⟩ := md_loop2 (n := n) (K := fun J_49 => some (J_49)) hm m 0 n J1 (by omega) (by omega) (by rw [e2 3 (by decide)]; exact hT.1)
  refine ⟨J2, ?_, fun b h1 h2 => (f2 b h1).trans (e2 b h2), fun i hi => ?_⟩
  · exact e1.trans f1
  · rw [f3 i, if_pos (by omega), e3 i, if_pos (by omega)]
theorem draw_both {n a t x : Nat} {I J : zx_I} {la : Option Nat} {m p c f : Nat} (hn : 7 ≤ n) (ht : t ≤ 60) (h : cpx a t I la m p c f) (hN : tkN J m p c (un (I 38))) (hx : x ≤ m * p) : ∃ J', mf_draw n (nI x) J = some J' ∧ (∀ b, b ≠ 10 → b ≠ 11 → J' b = J b) ∧ ∀ i, i < m → J' 10 i = ft_draw I (nI x) 38 i := by
  have hmp : m * p ≤ 6 * 60 := Nat.mul_le_mul hN.2.2.2.2.1 hN.2.2.2.2.2.2.1
  obtain ⟨J', e1, e2, e3⟩ := draw_N hn hN hx
  exact ⟨J', e1, e2, fun i hi => by rw [e3 i hi, draw_C (cpx_T ht h) (by omega) hi]⟩
