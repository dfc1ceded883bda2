/-! pairs -/
theorem fin0 {I I' : zx_I} {p : Nat} {vs : List Nat} {lo hi : Int32} (h : VI I I' p vs) (ht : 0 < vs.length) : fi_in I' 0 lo hi = mf_in (nI (vs.getD 0 0)) lo hi := by
  have := fin_at (lo := lo) (hi := hi) h ht
  rw [nI_0] at this
  exact this
theorem fin1 {I I' : zx_I} {p : Nat} {vs : List Nat} {lo hi : Int32} (h : VI I I' p vs) (ht : 1 < vs.length) : fi_in I' 1 lo hi = mf_in (nI (vs.getD 1 0)) lo hi := by
  have := fin_at (lo := lo) (hi := hi) h ht
  rw [show nI 1 = 1 from rfl] at this
  exact this
/-- a pair -/
theorem in_ct {v ct : Nat} (hv : v < 10000) (hct : ct ≤ 6) : mf_in (nI v) 0 (nI ct - 1) = if v < ct then 1 else 0 := by
  unfold mf_in
  rw [if_neg (nI_pos (by omega))]
  have e1 : nI ct - 1 < nI v ↔ ct ≤ v := by
    rw [Int32.lt_iff_toInt_lt, show (1 : Int32) = nI 1 from rfl, pk_sub_toInt (by omega) (by omega), nI_toInt (by omega)]
    omega
  by_cases u : v < ct
  · rw [if_neg (fun w => by have := e1.mp w; omega), if_pos u]
  · rw [if_pos (e1.mpr (by omega)), if_neg u]
theorem pr_cond {a p0 ct : Nat} {I I' : zx_I} {vs : List Nat} (ha : a = 4 ∨ a = 14) (hV : VI I I' p0 vs) (h13 : I a 13 = nI ct) (hct : ct ≤ 6) : (∀ K, tk_pair I' a = some K → ∃ v0 v1, vs = [v0, v1] ∧ v0 < ct ∧ v1 < ct ∧ v0 ≠ v1) ∧ ∀ v0 v1, vs = [v0, v1] → v0 < ct → v1 < ct → v0 ≠ v1 → tk_pair I' a = some (tm_pair I' (a + 4 + v0) (a + 4 + v1)) := by
  have h13' : I' a 13 = nI ct := by rw [hV.2.2.2.1 a (by omega) (by omega)]; exact h13
  constructor
  · intro K hK
    have hp : ¬ fi_pair I' (I' a 13) = 0 := by
      unfold tk_pair at hK
      split at hK
      · refine Classical.byContradiction (fun w => ?_)
        rw [tk_if_f w] at hK
        cases hK
      · cases hK
    unfold fi_pair at hp
    rw [hV.1, h13'] at hp
    have hl : vs.length = 2 := by
      refine Classical.byContradiction (fun w => hp ?_)
      rw [if_pos (show nI vs.length ≠ 2 from fun z => w ((nI_eq (b := 2) (by have := hV.2.2.2.2.2; omega) (by decide)).mp z))]
    rw [if_neg (fun z => z (by rw [hl]; rfl))] at hp
    obtain ⟨v0, v1, rfl⟩ := len2 hl
    have b0 : v0 < 10000 := (hV.2.2.1 0 (Nat.le_of_ble_eq_true rfl)).2
    have b1 : v1 < 10000 := (hV.2.2.1 1 (Nat.le_of_ble_eq_true rfl)).2
    have f0 : fi_in I' 0 0 (nI ct - 1) = mf_in (nI v0) 0 (nI ct - 1) := by
      have g0 : [v0, v1].getD 0 0 = v0 := rfl
      rw [fin0 hV (show 0 < [v0, v1].length by show 0 < 2; decide), g0]
    have f1 : fi_in I' 1 0 (nI ct - 1) = mf_in (nI v1) 0 (nI ct - 1) := by
      have g1 : [v0, v1].getD 1 0 = v1 := rfl
      rw [fin1 hV (show 1 < [v0, v1].length by show 1 < 2; decide), g1]
    have e0 : fi_num I' 0 = nI v0 := num_at hV (t := 0) (Nat.le_of_ble_eq_true rfl)
    have e1 : fi_num I' 1 = nI v1 := num_at hV (t := 1) (Nat.le_of_ble_eq_true rfl)
    rw [f0, f1, e0, e1, in_ct b0 hct, in_ct b1 hct] at hp
    by_cases u0 : v0 < ct
    · rw [if_pos u0, if_neg (show ¬ (1 : Int32) = 0 by decide)] at hp
      by_cases u1 : v1 < ct
      · rw [if_pos u1, if_neg (show ¬ (1 : Int32) = 0 by decide)] at hp
        refine ⟨v0, v1, rfl, u0, u1, fun w => hp ?_⟩
        rw [if_pos (by rw [w])]
      · rw [if_neg u1, if_pos rfl] at hp
        exact absurd rfl hp
    · rw [if_neg u0, if_pos rfl] at hp
      exact absurd rfl hp
  · rintro v0 v1 rfl u0 u1 hne
    have b0 : v0 < 10000 := (hV.2.2.1 0 (Nat.le_of_ble_eq_true rfl)).2
    have b1 : v1 < 10000 := (hV.2.2.1 1 (Nat.le_of_ble_eq_true rfl)).2
    have f0 : fi_in I' 0 0 (nI ct - 1) = mf_in (nI v0) 0 (nI ct - 1) := by
      have g0 : [v0, v1].getD 0 0 = v0 := rfl
      rw [fin0 hV (show 0 < [v0, v1].length by show 0 < 2; decide), g0]
    have f1 : fi_in I' 1 0 (nI ct - 1) = mf_in (nI v1) 0 (nI ct - 1) := by
      have g1 : [v0, v1].getD 1 0 = v1 := rfl
      rw [fin1 hV (show 1 < [v0, v1].length by show 1 < 2; decide), g1]
    have e0 : fi_num I' 0 = nI v0 := num_at hV (t := 0) (Nat.le_of_ble_eq_true rfl)
    have e1 : fi_num I' 1 = nI v1 := num_at hV (t := 1) (Nat.le_of_ble_eq_true rfl)
    have hp : ¬ fi_pair I' (I' a 13) = 0 := by
      unfold fi_pair
      rw [hV.1, h13', if_neg (fun z => z rfl), f0, f1, e0, e1, in_ct b0 hct, in_ct b1 hct, if_pos u0, if_neg (show ¬ (1 : Int32) = 0 by decide), if_pos u1, if_neg (show ¬ (1 : Int32) = 0 by decide), if_neg (nI_e (by omega) (by omega) hne)]
      decide
    unfold tk_pair
    rw [e0, e1, fh_who_at h13' u0 hct, fh_who_at h13' u1 hct]
    exact tk_if_t hp
theorem sh_1 : ∀ j : Fin 6, ((1 : Int32) <<< (nI j.1 &&& 31)) = nI (2 ^ j.1) := by decide +kernel
theorem or_le {A j ct : Nat} (hA : A ≤ 2 ^ ct - 1) (hj : j < ct) : A ||| 2 ^ j ≤ 2 ^ ct - 1 := by
  have h0 : 0 < 2 ^ ct := Nat.two_pow_pos ct
  have h1 : A < 2 ^ ct := by omega
  have h2 : 2 ^ j < 2 ^ ct := Nat.pow_lt_pow_right (by decide) hj
  have := Nat.or_lt_two_pow h1 h2
  omega
