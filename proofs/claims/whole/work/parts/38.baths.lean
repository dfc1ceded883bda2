/-! baths in numbers: the fewest pints that are warm enough -/
theorem tt_lay {w : Nat → Nat} {p k q : Nat} (hp : 1 ≤ p) (hq : q ≤ p) : ttop w p (k * p + q) = tsum w k + w k * q / p := by
  unfold ttop
  rcases Nat.lt_or_ge q p with h | h
  · rw [show (k * p + q) / p = k from by rw [Nat.mul_comm, Nat.mul_add_div hp, Nat.div_eq_of_lt h, Nat.add_zero], show (k * p + q) % p = q from by rw [Nat.mul_comm, Nat.mul_add_mod]; exact Nat.mod_eq_of_lt h]
  · have : q = p := by omega
    subst this
    rw [show k * q + q = q * (k + 1) by rw [Nat.mul_succ, Nat.mul_comm], Nat.mul_div_cancel_left _ hp, Nat.mul_mod_right, Nat.mul_zero, Nat.zero_div, Nat.add_zero, tsum_s, Nat.mul_div_cancel _ hp]
theorem tsum_gain {u w : Nat → Nat} {x m : Nat} (hu : ∀ i, i < m → u i = w i + x) : ∀ k, k ≤ m → tsum u k = tsum w k + k * x := by
  intro k
  induction k with
  | zero =>
    intro _
    rw [Nat.zero_mul]
    rfl
  | succ k ih =>
    intro hk
    rw [tsum_s, tsum_s, ih (by omega), hu k (by omega), Nat.succ_mul]
    omega
theorem hsplit {p h : Nat} : h = h / p * p + h % p := by
  have := Nat.div_add_mod h p
  rw [Nat.mul_comm] at this
  exact this.symm
theorem ttop_gain {u w : Nat → Nat} {c p m h : Nat} (hp : 1 ≤ p) (hu : ∀ i, i < m → u i = w i + c * p) (hh : h ≤ m * p) : ttop u p h = ttop w p h + c * h := by
  have hk : h / p ≤ m := Nat.div_le_of_le_mul (by rw [Nat.mul_comm]; exact hh)
  have hr : h % p < p := Nat.mod_lt _ hp
  have hs : h = h / p * p + h % p := hsplit
  generalize h / p = k at hk hs
  generalize h % p = r at hr hs
  subst hs
  rw [tt_lay hp (by omega), tt_lay hp (by omega), tsum_gain hu k hk]
  rcases Nat.lt_or_ge k m with q | q
  · rw [hu k q, Nat.add_mul, show c * p * r = p * (c * r) by rw [Nat.mul_comm c p, Nat.mul_assoc], Nat.add_mul_div_left _ _ hp, Nat.mul_add, show c * (k * p) = k * (c * p) by rw [← Nat.mul_assoc, Nat.mul_comm c k, Nat.mul_assoc]]
    omega
  · have : k = m := by omega
    subst this
    have : r = 0 := by omega
    subst this
    rw [Nat.mul_zero, Nat.mul_zero, Nat.zero_div, Nat.add_zero, Nat.add_zero, show c * (k * p + 0) = k * (c * p) by rw [Nat.add_zero, ← Nat.mul_assoc, Nat.mul_comm c k, Nat.mul_assoc]]
/-- what the search over the layers finds -/
def pf_is (w : Nat → Nat) (p m most more k : Nat) (R : Int32) : Prop := (R = -4 ∧ ∀ h, k * p ≤ h → h ≤ most → h ≤ m * p → ttop w p h < more) ∨ ∃ h0, R = nI h0 ∧ h0 ≤ most ∧ h0 ≤ m * p ∧ more ≤ ttop w p h0 ∧ ∀ h, k * p ≤ h → h < h0 → ttop w p h < more
theorem pf_spec {U : Nat → Int32} {u w : Nat → Nat} {p c m most more : Nat} (hp : 1 ≤ p) (hp60 : p ≤ 60) (hm : m ≤ 6) (hmost : most ≤ 99) (hmore : more ≤ 9801) (hu : ∀ i, i < m → U i = nI (u i) ∧ u i ≤ 700000 ∧ u i = w i + c * p) (hc : c ≤ 40) : ∀ (n k ms : Nat), k + n = m → 0 < ms → more = ms + tsum w k → pf_is w p m most more k (pf_loop U (nI p) (nI c) (nI most) n k (nI ms)) := by
  intro n
  induction n with
  | zero =>
    intro k ms hk h0 hms
    rw [Nat.add_zero] at hk
    subst hk
    refine Or.inl ⟨rfl, fun h h1 h2 h3 => ?_⟩
    have e : h = k * p + 0 := by omega
    rw [e, tt_lay hp (by omega), Nat.mul_zero, Nat.zero_div]
    omega
  | succ n ih =>
    intro k ms hk h0 hms
    have hkp : k * p ≤ 6 * 60 := Nat.mul_le_mul (by omega) hp60
    obtain ⟨hu1, hu2, hu3⟩ := hu k (by omega)
    have ew : U k - nI c * nI p = nI (w k) := by
      rw [hu1, pk_mul, pk_sub (by omega)]
      congr 1
      omega
    rw [pf_loop_s, ew, pk_mul]
    -- a place in this layer
    have lay : ∀ h, k * p ≤ h → h ≤ k * p + p → ttop w p h = tsum w k + w k * (h - k * p) / p := by
      intro h h1 h2
      have := tt_lay (w := w) (k := k) (q := h - k * p) hp (by omega)
      rw [show k * p + (h - k * p) = h by omega] at this
      exact this
    have hk1 : (k + 1) * p = k * p + p := Nat.succ_mul k p
    by_cases c1 : most ≤ k * p
    · rw [if_pos (by exact nI_le c1 (by omega))]
      refine Or.inl ⟨rfl, fun h h1 h2 h3 => ?_⟩
      rw [lay h h1 (by omega), show h - k * p = 0 by omega, Nat.mul_zero, Nat.zero_div]
      omega
    · rw [if_neg (by exact nI_ge (by omega) (by omega))]
      have next : ∀ (hq : ∀ q, q < p → w k * q / p < ms) (hlt : w k < ms), pf_is w p m most more k (pf_loop U (nI p) (nI c) (nI most) n (k + 1) (nI ms - nI (w k))) := by
        intro hq hlt
        rw [pk_sub (by omega)]
        have hr := ih (k + 1) (ms - w k) (by omega) (by omega) (by rw [tsum_s]; omega)
        have low : ∀ h, k * p ≤ h → h < (k + 1) * p → ttop w p h < more := by
          intro h h1 h2
          rw [lay h h1 (by omega)]
          have := hq (h - k * p) (by omega)
          omega
        rcases hr with ⟨e, hr⟩ | ⟨h9, e, a1, a2, a3, a4⟩
        · refine Or.inl ⟨e, fun h h1 h2 h3 => ?_⟩
          rcases Nat.lt_or_ge h ((k + 1) * p) with q | q
          · exact low h h1 q
          · exact hr h q h2 h3
        · refine Or.inr ⟨h9, e, a1, a2, a3, fun h h1 h2 => ?_⟩
          rcases Nat.lt_or_ge h ((k + 1) * p) with q | q
          · exact low h h1 q
          · exact a4 h q h2
      by_cases c2 : w k = 0
      · rw [if_pos (by rw [c2]; decide)]
        exact next (fun q hq => by rw [c2, Nat.zero_mul, Nat.zero_div]; exact h0) (by omega)
      · rw [if_neg (nI_nle (by omega) (by omega))]
        have hmsp : ms * p ≤ 9801 * 60 := Nat.mul_le_mul (by omega) hp60
        have epart : (nI ms * nI p + nI (w k) - 1) / nI (w k) = nI ((ms * p + w k - 1) / w k) := by
          rw [pk_mul, nI_add, show (1 : Int32) = nI 1 from rfl, pk_sub (by omega), pk_div (by omega) (by omega) (by omega)]
        rw [epart]
        -- the least part that is enough
        have hge : ms * p ≤ w k * ((ms * p + w k - 1) / w k) := by
          have h1 := Nat.div_add_mod (ms * p + w k - 1) (w k)
          have h2 := Nat.mod_lt (ms * p + w k - 1) (show w k > 0 by omega)
          omega
        have hlt : ∀ q, q < (ms * p + w k - 1) / w k → w k * q < ms * p := by
          intro q hq
          have h1 : (q + 1) * w k ≤ ms * p + w k - 1 := (Nat.le_div_iff_mul_le (by omega)).mp hq
          rw [Nat.succ_mul, Nat.mul_comm] at h1
          omega
        have hple : (ms * p + w k - 1) / w k ≤ ms * p + w k - 1 := Nat.div_le_self _ _
        generalize (ms * p + w k - 1) / w k = part at hge hlt hple ⊢
        have hbel : ∀ q, q < part → w k * q / p < ms := fun q hq => (Nat.div_lt_iff_lt_mul hp).mpr (hlt q hq)
        by_cases c3 : p < part
        · rw [if_pos (by exact nI_lt c3 (by omega))]
          have h1 := hlt p c3
          exact next (fun q hq => hbel q (by omega)) (Nat.lt_of_mul_lt_mul_right h1)
        · rw [if_neg (by exact nI_nlt (by omega) (by omega)), nI_add]
          have hpart0 : 0 < part := by
            rcases Nat.eq_zero_or_pos part with q | q
            · rw [q, Nat.mul_zero] at hge
              have : 0 < ms * p := Nat.mul_pos h0 hp
              omega
            · exact q
          by_cases c4 : most < k * p + part
          · rw [if_pos (by exact nI_lt c4 (by omega))]
            have e : pf_loop U (nI p) (nI c) (nI most) n (k + 1) (nI ms - nI (w k)) = -4 := by
              cases n with
              | zero => rfl
              | succ n => rw [pf_loop_s, pk_mul, if_pos (by exact nI_le (by omega) (by omega))]
            rw [e]
            refine Or.inl ⟨rfl, fun h h1 h2 h3 => ?_⟩
            rw [lay h h1 (by omega)]
            have := hbel (h - k * p) (by omega)
            omega
          · rw [if_neg (by exact nI_nlt (by omega) (by omega))]
            have hmp : (k + 1) * p ≤ m * p := Nat.mul_le_mul_right p (by omega)
            refine Or.inr ⟨k * p + part, rfl, by omega, by omega, ?_, fun h h1 h2 => ?_⟩
            · rw [lay _ (by omega) (by omega), show k * p + part - k * p = part by omega]
              have : ms ≤ w k * part / p := (Nat.le_div_iff_mul_le hp).mpr hge
              omega
            · rw [lay h h1 (by omega)]
              have := hbel (h - k * p) (by omega)
              omega
