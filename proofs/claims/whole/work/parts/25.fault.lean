/-! fault and lay -/
theorem rd_put_ne {J : zx_I} {v : Int32} {b : Nat} (h2 : b ≠ 2) (h3 : b ≠ 3) : rd_put J v b = J b := by
  unfold rd_put
  rw [zx_uI_ne h2, zx_uI_ne h3]
theorem rd_loop_ne : ∀ (n i : Nat) (v f : Int32) (J : zx_I) (b : Nat), b ≠ 2 → b ≠ 3 → (rd_loop n i v f J).2 b = J b := by
  intro n
  induction n with
  | zero => intro i v f J b _ _; rfl
  | succ n ih =>
    intro i v f J b h2 h3
    rw [rd_loop]
    split
    · split
      · split
        · rw [ih _ _ _ _ _ h2 h3, rd_put_ne h2 h3]
        · exact rd_put_ne h2 h3
      · rfl
    · split
      · rw [ih _ _ _ _ _ h2 h3]
      · rfl
theorem rd_loop_at : ∀ (n i : Nat) (v f : Int32) (J : zx_I), (rd_loop n i v f J).1 = -4 ∨ ∃ j, i < j ∧ j ≤ i + n ∧ (rd_loop n i v f J).1 = nI j := by
  intro n
  induction n with
  | zero => intro i v f J; exact Or.inl rfl
  | succ n ih =>
    intro i v f J
    rw [rd_loop]
    split
    · split
      · split
        · rcases ih (i + 1) 0 0 (rd_put J v) with q | ⟨j, q1, q2, q3⟩
          · exact Or.inl q
          · exact Or.inr ⟨j, by omega, by omega, q3⟩
        · exact Or.inr ⟨i + 1, by omega, by omega, (nI_1 i)⟩
      · exact Or.inl rfl
    · split
      · rcases ih (i + 1) (10 * v + rd_c J i - 48) (f + 1) J with q | ⟨j, q1, q2, q3⟩
        · exact Or.inl q
        · exact Or.inr ⟨j, by omega, by omega, q3⟩
      · exact Or.inl rfl
theorem fi_read_ne {I : zx_I} {l p b : Nat} (h2 : b ≠ 2) (h3 : b ≠ 3) : (fi_read I l p).2 b = I b := by
  unfold fi_read
  rw [rd_loop_ne _ _ _ _ _ _ h2 h3, zx_uI_ne h2, zx_uI_ne h2]
theorem tk_if_eq {p : Prop} {J K : zx_I} (h : tk_if p J = some K) : p ∧ J = K := by
  by_cases hp : p
  · rw [tk_if_t hp] at h
    exact ⟨hp, Option.some.inj h⟩
  · rw [tk_if_f hp] at h
    cases h
/-- what an item taken may change: the house alone, and its count by a bather more -/
theorem fh_takes_ne {I K : zx_I} {a : Nat} (ha : a = 4 ∨ a = 14) (hc : hs_ct I a) (h : fh_takes I a = some K) : (∀ b, (b < a ∨ a + 9 < b) → K b = I b) ∧ hs_ct K a := by
  obtain ⟨m, hm6, hm, hmt⟩ := hs_c hc.1 hc.2
  unfold fh_takes at h
  by_cases hE : I a 0 = (if I 2 1 = 116 then 1 else 0)
  · rw [if_pos hE] at h
    cases h
  · rw [if_neg hE] at h
    split at h
    · obtain ⟨_, rfl⟩ := tk_if_eq h
      refine ⟨fun b hb => ?_, ?_⟩
      · unfold tm_tank
        rw [zx_uI_ne (by omega), zx_uI_ne (by omega), zx_uI_ne (by omega), zx_uI_ne (by omega), zx_uI_ne (by omega), zx_uI_ne (by omega)]
      · show hs_ct (tm_tank I a) a
        have : tm_tank I a a 13 = I a 13 := by simp [tm_tank, zx_uI]
        unfold hs_ct
        rw [this]
        exact hc
    · split at h
      · obtain ⟨_, rfl⟩ := tk_if_eq h
        refine ⟨fun b hb => ?_, ?_⟩
        · unfold tm_stage
          rw [zx_uI_ne (by omega), zx_uI_ne (by omega)]
        · have : tm_stage I a a = I a := by
            unfold tm_stage
            rw [zx_uI_ne (by omega), zx_uI_ne (by omega)]
          unfold hs_ct
          rw [this]
          exact hc
      · split at h
        · obtain ⟨hp, rfl⟩ := tk_if_eq h
          have h6 : m < 6 := by
            rcases Nat.lt_or_ge m 6 with q | q
            · exact q
            · exact absurd (by rw [hm, show m = 6 by omega]; decide) hp.1
          rw [hmt]
          refine ⟨fun b hb => ?_, ?_⟩
          · unfold tm_bather
            rw [zx_uI_ne (by omega), fb_become_ne (by omega)]
          · have : tm_bather I a m a 13 = nI (m + 1) := by
              show zx_uI _ a 13 (I a 13 + 1) a 13 = _
              rw [show zx_uI (fb_become I (a + 4 + m)) a 13 (I a 13 + 1) a 13 = I a 13 + 1 from by simp [zx_uI], hm]
              exact nI_1 m
            unfold hs_ct
            rw [this, nI_toInt (by omega)]
            omega
        · split at h
          · unfold tk_pair at h
            split at h
            · rename_i w v hw hv
              obtain ⟨_, rfl⟩ := tk_if_eq h
              have hbw := (fh_who_bt ha hw)
              have hwr : a + 4 ≤ w ∧ w ≤ a + 9 := by
                have := zcl hbw.2.1 (show fi_num I 0 < nI 6 from hbw.2.2.2.1) (by decide)
                omega
              refine ⟨fun b hb => ?_, ?_⟩
              · unfold tm_pair
                split <;> rw [zx_uI_ne (by omega)]
              · have : tm_pair I w v a = I a := by
                  unfold tm_pair
                  split <;> rw [zx_uI_ne (by omega)]
                unfold hs_ct
                rw [this]
                exact hc
            · cases h
          · split at h
            · obtain ⟨_, rfl⟩ := tk_if_eq h
              refine ⟨fun b hb => ?_, ?_⟩
              · unfold tm_kettle
                rw [zx_uI_ne (by omega), zx_uI_ne (by omega)]
              · have : tm_kettle I a a 13 = I a 13 := by simp [tm_kettle, zx_uI]
                unfold hs_ct
                rw [this]
                exact hc
            · obtain ⟨_, rfl⟩ := tk_if_eq h
              refine ⟨fun b hb => ?_, ?_⟩
              · unfold tm_num
                split
                · rw [zx_uI_ne (by omega)]
                · split <;> rw [zx_uI_ne (by omega)]
              · have : tm_num I a a 13 = I a 13 := by
                  unfold tm_num
                  split
                  · simp [zx_uI]
                  · split <;> simp [zx_uI]
                unfold hs_ct
                rw [this]
                exact hc
noncomputable def ff_loop (a l : Nat) : Nat → Nat → zx_I → Int32 × zx_I
  | 0, _, J => (-4, J)
  | n + 1, p, J => if p < l then (if (fi_read J l p).1 ≤ nI p then (nI p, (fi_read J l p).2) else match fh_takes (fi_read J l p).2 a with
    | none => (nI p, (fi_read J l p).2)
    | some K => ff_loop a l n (fi_read J l p).1.toInt.toNat K) else (-4, J)
noncomputable def q_fault (I : zx_I) (a l : Nat) : Int32 × zx_I := if l = 0 then (0, fh_clear I a) else ff_loop a l l 0 (fh_clear I a)
theorem tk_b0 {x : Option zx_I} (h : tk_b x = 0) : x = none := by
  cases x with
  | none => rfl
  | some K => exact absurd (show (1 : Int32) = 0 from h) (by decide)
theorem tk_b1 {x : Option zx_I} (h : ¬ tk_b x = 0) : ∃ K, x = some K := by
  cases x with
  | none => exact absurd rfl h
  | some K => exact ⟨K, rfl⟩
theorem nI_neg4 {p : Nat} (h : p < 2 ^ 31) : (-4 : Int32) ≤ nI p := by
  rw [Int32.le_iff_toInt_le, nI_toInt h]
  have : (-4 : Int32).toInt = -4 := rfl
  omega
theorem lp_X9_fault_4 {d : Nat} {L : zx_L} {la : Option Nat} {l : Nat} (hl : l ≤ 400) : ∀ (n p : Nat) (J : zx_I) (x2 : Option Value), l ≤ p + n → p ≤ l → J 0 1 = nI l → hs_ct J 14 → zx_V mm_X9_fault (d + 5) z0 (zw_ret (some (.int (ff_loop 14 l n p J).1)) zw_SC (ff_loop 14 l n p J).2 L (zw_RC 4 14 la)) zw_SC 18 [some (.ref 0), some (.int (nI p)), x2] [] J L (zw_RC 4 14 la) := by
  intro n
  induction n with
  | zero =>
    intro p J x2 hn hpl h0 hc
    refine zv_run 3 (pc' := 23) (lo' := [some (.ref 0), some (.int (nI p)), x2]) (st' := [.int (J 0 1), .int (nI p)]) (I' := J) (L' := L) (R' := zw_RC 4 14 la) rfl ?_
    refine zv_icmp_ge (tgt := 69) (zs_at rfl) (by decide) (fun c23 => ?_) (fun c23 => ?_)
    · have _c := c23
      refine zv_run 1 (pc' := 71) (lo' := [some (.ref 0), some (.int (nI p)), x2]) (st' := [.int (-4)]) (I' := J) (L' := L) (R' := zw_RC 4 14 la) rfl ?_
      exact zv_iret (zs_at rfl) rfl ⟨Nat.le_refl _, Nat.le_refl _⟩ (zw_to rfl rfl rfl rfl)
    · exact absurd (by rw [h0]; exact nI_le (by omega) (by omega)) c23
  | succ n ih =>
    intro p J x2 hn hpl h0 hc
    refine zv_run 3 (pc' := 23) (lo' := [some (.ref 0), some (.int (nI p)), x2]) (st' := [.int (J 0 1), .int (nI p)]) (I' := J) (L' := L) (R' := zw_RC 4 14 la) rfl ?_
    refine zv_icmp_ge (tgt := 69) (zs_at rfl) (by decide) (fun c23 => ?_) (fun c23 => ?_)
    · have _c := c23
      refine zv_run 1 (pc' := 71) (lo' := [some (.ref 0), some (.int (nI p)), x2]) (st' := [.int (-4)]) (I' := J) (L' := L) (R' := zw_RC 4 14 la) rfl ?_
      exact zv_iret (zs_at rfl) rfl ⟨Nat.le_refl _, Nat.le_refl _⟩ (by have e : ff_loop 14 l (n + 1) p J = (-4, J) := (by rw [ff_loop, if_neg (fun q => absurd c23 (by rw [h0]; exact nI_ge (by omega) (by omega)))]); rw [e]; exact zw_to rfl rfl rfl rfl)
    · have _c := c23
      have hp : p < l := (by rcases Nat.lt_or_ge p l with q | q; exact q; exact absurd (by rw [h0]; exact nI_le (by omega) (by omega)) c23)
      have hc2 : hs_ct (fi_read J l p).2 14 := by unfold hs_ct; rw [fi_read_ne (by decide) (by decide)]; exact hc
      refine zv_run 7 (pc' := 39) (lo' := [some (.ref 0), some (.int (nI p)), x2]) (st' := [.int (nI p), .int (J 0 1), .ref 1, .ref 2]) (I' := J) (L' := L) (R' := zw_RC 4 14 la) rfl ?_
      refine zv_cV (M' := mm_X6_readFrom) (ci := 6) (a := 2) (av := [.ref 1, .int (J 0 1), .int (nI p)]) (st := []) (r := some (.int ((fi_read J l p).1))) (I' := (fi_read J l p).2) (L' := L) (R' := zw_RC 4 14 la) rfl zc_9_66 gd_X6_readFrom rfl rfl rfl (Nat.le_of_ble_eq_true rfl) (by rw [h0]; exact ct_X6_readFrom (d := _) (l := l) (p := p) hl hp) ⟨Nat.le_refl _, Nat.le_refl _⟩ ?_
      refine zv_run 0 (pc' := 42) (lo' := [some (.ref 0), some (.int (nI p)), x2]) (st' := [.int ((fi_read J l p).1)]) (I' := (fi_read J l p).2) (L' := L) (R' := zw_RC 4 14 la) rfl ?_
      refine zv_run 3 (pc' := 45) (lo' := [some (.ref 0), some (.int (nI p)), some (.int ((fi_read J l p).1))]) (st' := [.int (nI p), .int ((fi_read J l p).1)]) (I' := (fi_read J l p).2) (L' := L) (R' := zw_RC 4 14 la) rfl ?_
      refine zv_icmp_le (tgt := 62) (zs_at rfl) (by decide) (fun c45 => ?_) (fun c45 => ?_)
      · have _c := c45
        refine zv_run 1 (pc' := 63) (lo' := [some (.ref 0), some (.int (nI p)), some (.int ((fi_read J l p).1))]) (st' := [.int (nI p)]) (I' := (fi_read J l p).2) (L' := L) (R' := zw_RC 4 14 la) rfl ?_
        exact zv_iret (zs_at rfl) rfl ⟨Nat.le_refl _, Nat.le_refl _⟩ (by have e : ff_loop 14 l (n + 1) p J = (nI p, (fi_read J l p).2) := (by rw [ff_loop, if_pos hp, if_pos c45]); rw [e]; exact zw_to rfl rfl rfl rfl)
      · have _c := c45
        refine zv_run 4 (pc' := 56) (lo' := [some (.ref 0), some (.int (nI p)), some (.int ((fi_read J l p).1))]) (st' := [.ref 2, .ref 14]) (I' := (fi_read J l p).2) (L' := L) (R' := zw_RC 4 14 la) rfl ?_
        refine zv_cV (M' := mm_X5_takes) (ci := 5) (a := 14) (av := [.ref 2]) (st := []) (r := some (.int (tk_b (fh_takes (fi_read J l p).2 14)))) (I' := ((fh_takes (fi_read J l p).2 14).getD (fi_read J l p).2)) (L' := L) (R' := zw_RC 4 14 la) rfl zc_9_70 gd_X5_takes rfl rfl rfl (Nat.le_of_ble_eq_true rfl) (ct_X5_takes_14 (d := _) hc2) ⟨Nat.le_refl _, Nat.le_refl _⟩ ?_
        refine zv_run 0 (pc' := 59) (lo' := [some (.ref 0), some (.int (nI p)), some (.int ((fi_read J l p).1))]) (st' := [.int (tk_b (fh_takes (fi_read J l p).2 14))]) (I' := ((fh_takes (fi_read J l p).2 14).getD (fi_read J l p).2)) (L' := L) (R' := zw_RC 4 14 la) rfl ?_
        refine zv_if_ne (tgt := 64) (zs_at rfl) (by decide) (fun c59 => ?_) (fun c59 => ?_)
        · have _c := c59
          refine zv_run 3 (pc' := 18) (lo' := [some (.ref 0), some (.int ((fi_read J l p).1)), some (.int ((fi_read J l p).1))]) (st' := []) (I' := ((fh_takes (fi_read J l p).2 14).getD (fi_read J l p).2)) (L' := L) (R' := zw_RC 4 14 la) rfl ?_
          obtain ⟨K, hK⟩ := tk_b1 c59
          have hne := fh_takes_ne (Or.inr rfl) hc2 hK
          obtain ⟨j, hj1, hj2, hj3⟩ := (rd_loop_at (l - (p + 1)) (p + 1) 0 0 (zx_uI (zx_uI J 2 2 0) 2 1 (J 1 (nI p).toNatClampNeg))).resolve_left (fun q => c45 (by rw [show (fi_read J l p).1 = -4 from q]; exact nI_neg4 (by omega)))
          have hj4 : (fi_read J l p).1 = nI j := hj3
          have e : ff_loop 14 l (n + 1) p J = ff_loop 14 l n j K := by
            rw [ff_loop, if_pos hp, if_neg c45, hK]
            dsimp only
            rw [hj4, nI_toInt (by omega)]
            rfl
          rw [e, hK, hj4]
          exact ih j K _ (by omega) (by omega) (by rw [hne.1 0 (by omega), fi_read_ne (by decide) (by decide)]; exact h0) hne.2
        · have _c := c59
          refine zv_run 1 (pc' := 63) (lo' := [some (.ref 0), some (.int (nI p)), some (.int ((fi_read J l p).1))]) (st' := [.int (nI p)]) (I' := ((fh_takes (fi_read J l p).2 14).getD (fi_read J l p).2)) (L' := L) (R' := zw_RC 4 14 la) rfl ?_
          exact zv_iret (zs_at rfl) rfl ⟨Nat.le_refl _, Nat.le_refl _⟩ (by have e9 : fh_takes (fi_read J l p).2 14 = none := tk_b0 (by first | exact c59 | exact Decidable.not_not.mp c59); have e : ff_loop 14 l (n + 1) p J = (nI p, (fi_read J l p).2) := (by rw [ff_loop, if_pos hp, if_neg c45, e9]); rw [e, e9]; exact zw_to rfl rfl rfl rfl)
theorem fh_clear_0 {I : zx_I} {a b : Nat} (ha : a = 4 ∨ a = 14) : fh_clear I a 0 b = I 0 b := by
  rcases ha with rfl | rfl <;> rfl
theorem nI_l0 {I : zx_I} {l : Nat} (h0 : I 0 1 = nI l) (hl : l ≤ 400) (h : I 0 1 = 0) : l = 0 := by
  rw [h0] at h
  have := congrArg Int32.toInt h
  rw [nI_toInt (by omega)] at this
  have z : (0 : Int32).toInt = 0 := rfl
  omega
theorem ct_X9_fault_4 {d : Nat} {I : zx_I} {L : zx_L} {la : Option Nat} {l : Nat} (hl : l ≤ 400) (h0 : I 0 1 = nI l) : zx_M0 mm_X9_fault (d + 5) 0 0 [.ref 0] zw_SC I L (zw_RC 4 14 la) (zw_ret (some (.int (q_fault I 14 l).1)) zw_SC (q_fault I 14 l).2 L (zw_RC 4 14 la)) := by
  refine zv_entry gd_X9_fault (Nat.le_of_ble_eq_true rfl) ?_
  refine zv_run 2 (pc' := 4) (lo' := [some (.ref 0), none, none]) (st' := [.ref 14]) (I' := I) (L' := L) (R' := zw_RC 4 14 la) rfl ?_
  refine zv_cV (M' := mm_X5_clear) (ci := 5) (a := 14) (av := []) (st := []) (r := none) (I' := (fh_clear I 14)) (L' := L) (R' := zw_RC 4 14 la) rfl zc_9_63 gd_X5_clear rfl rfl rfl (Nat.le_of_ble_eq_true rfl) (ct_X5_clear (d := _) (Or.inr rfl)) ⟨Nat.le_refl _, Nat.le_refl _⟩ ?_
  refine zv_run 0 (pc' := 7) (lo' := [some (.ref 0), none, none]) (st' := []) (I' := (fh_clear I 14)) (L' := L) (R' := zw_RC 4 14 la) rfl ?_
  refine zv_run 2 (pc' := 11) (lo' := [some (.ref 0), none, none]) (st' := [.int ((fh_clear I 14) 0 1)]) (I' := (fh_clear I 14)) (L' := L) (R' := zw_RC 4 14 la) rfl ?_
  refine zv_if_ne (tgt := 16) (zs_at rfl) (by decide) (fun c11 => ?_) (fun c11 => ?_)
  · have _c := c11
    refine zv_run 2 (pc' := 18) (lo' := [some (.ref 0), some (.int 0), none]) (st' := []) (I' := (fh_clear I 14)) (L' := L) (R' := zw_RC 4 14 la) rfl ?_
    rw [show q_fault I 14 l = ff_loop 14 l l 0 (fh_clear I 14) from by unfold q_fault; rw [if_neg (fun q => c11 (by show fh_clear I 14 0 1 = 0; rw [fh_clear_0 (Or.inr rfl), h0, q]; rfl))]]
    exact lp_X9_fault_4 hl l 0 _ none (by omega) (by omega) (by rw [fh_clear_0 (Or.inr rfl)]; exact h0) (by unfold hs_ct; rw [show fh_clear I 14 14 13 = 0 from rfl]; decide)
  · have _c := c11
    refine zv_run 1 (pc' := 15) (lo' := [some (.ref 0), none, none]) (st' := [.int 0]) (I' := (fh_clear I 14)) (L' := L) (R' := zw_RC 4 14 la) rfl ?_
    exact zv_iret (zs_at rfl) rfl ⟨Nat.le_refl _, Nat.le_refl _⟩ (by rw [show q_fault I 14 l = (0, fh_clear I 14) from by unfold q_fault; rw [if_pos (nI_l0 h0 hl c11)]]; exact zw_to rfl rfl rfl rfl)
theorem lp_X9_fault_14 {d : Nat} {L : zx_L} {la : Option Nat} {l : Nat} (hl : l ≤ 400) : ∀ (n p : Nat) (J : zx_I) (x2 : Option Value), l ≤ p + n → p ≤ l → J 0 1 = nI l → hs_ct J 4 → zx_V mm_X9_fault (d + 5) z0 (zw_ret (some (.int (ff_loop 4 l n p J).1)) zw_SC (ff_loop 4 l n p J).2 L (zw_RC 14 4 la)) zw_SC 18 [some (.ref 0), some (.int (nI p)), x2] [] J L (zw_RC 14 4 la) := by
  intro n
  induction n with
  | zero =>
    intro p J x2 hn hpl h0 hc
    refine zv_run 3 (pc' := 23) (lo' := [some (.ref 0), some (.int (nI p)), x2]) (st' := [.int (J 0 1), .int (nI p)]) (I' := J) (L' := L) (R' := zw_RC 14 4 la) rfl ?_
    refine zv_icmp_ge (tgt := 69) (zs_at rfl) (by decide) (fun c23 => ?_) (fun c23 => ?_)
    · have _c := c23
      refine zv_run 1 (pc' := 71) (lo' := [some (.ref 0), some (.int (nI p)), x2]) (st' := [.int (-4)]) (I' := J) (L' := L) (R' := zw_RC 14 4 la) rfl ?_
      exact zv_iret (zs_at rfl) rfl ⟨Nat.le_refl _, Nat.le_refl _⟩ (zw_to rfl rfl rfl rfl)
    · exact absurd (by rw [h0]; exact nI_le (by omega) (by omega)) c23
  | succ n ih =>
    intro p J x2 hn hpl h0 hc
    refine zv_run 3 (pc' := 23) (lo' := [some (.ref 0), some (.int (nI p)), x2]) (st' := [.int (J 0 1), .int (nI p)]) (I' := J) (L' := L) (R' := zw_RC 14 4 la) rfl ?_
    refine zv_icmp_ge (tgt := 69) (zs_at rfl) (by decide) (fun c23 => ?_) (fun c23 => ?_)
    · have _c := c23
      refine zv_run 1 (pc' := 71) (lo' := [some (.ref 0), some (.int (nI p)), x2]) (st' := [.int (-4)]) (I' := J) (L' := L) (R' := zw_RC 14 4 la) rfl ?_
      exact zv_iret (zs_at rfl) rfl ⟨Nat.le_refl _, Nat.le_refl _⟩ (by have e : ff_loop 4 l (n + 1) p J = (-4, J) := (by rw [ff_loop, if_neg (fun q => absurd c23 (by rw [h0]; exact nI_ge (by omega) (by omega)))]); rw [e]; exact zw_to rfl rfl rfl rfl)
    · have _c := c23
      have hp : p < l := (by rcases Nat.lt_or_ge p l with q | q; exact q; exact absurd (by rw [h0]; exact nI_le (by omega) (by omega)) c23)
      have hc2 : hs_ct (fi_read J l p).2 4 := by unfold hs_ct; rw [fi_read_ne (by decide) (by decide)]; exact hc
      refine zv_run 7 (pc' := 39) (lo' := [some (.ref 0), some (.int (nI p)), x2]) (st' := [.int (nI p), .int (J 0 1), .ref 1, .ref 2]) (I' := J) (L' := L) (R' := zw_RC 14 4 la) rfl ?_
      refine zv_cV (M' := mm_X6_readFrom) (ci := 6) (a := 2) (av := [.ref 1, .int (J 0 1), .int (nI p)]) (st := []) (r := some (.int ((fi_read J l p).1))) (I' := (fi_read J l p).2) (L' := L) (R' := zw_RC 14 4 la) rfl zc_9_66 gd_X6_readFrom rfl rfl rfl (Nat.le_of_ble_eq_true rfl) (by rw [h0]; exact ct_X6_readFrom (d := _) (l := l) (p := p) hl hp) ⟨Nat.le_refl _, Nat.le_refl _⟩ ?_
      refine zv_run 0 (pc' := 42) (lo' := [some (.ref 0), some (.int (nI p)), x2]) (st' := [.int ((fi_read J l p).1)]) (I' := (fi_read J l p).2) (L' := L) (R' := zw_RC 14 4 la) rfl ?_
      refine zv_run 3 (pc' := 45) (lo' := [some (.ref 0), some (.int (nI p)), some (.int ((fi_read J l p).1))]) (st' := [.int (nI p), .int ((fi_read J l p).1)]) (I' := (fi_read J l p).2) (L' := L) (R' := zw_RC 14 4 la) rfl ?_
      refine zv_icmp_le (tgt := 62) (zs_at rfl) (by decide) (fun c45 => ?_) (fun c45 => ?_)
      · have _c := c45
        refine zv_run 1 (pc' := 63) (lo' := [some (.ref 0), some (.int (nI p)), some (.int ((fi_read J l p).1))]) (st' := [.int (nI p)]) (I' := (fi_read J l p).2) (L' := L) (R' := zw_RC 14 4 la) rfl ?_
        exact zv_iret (zs_at rfl) rfl ⟨Nat.le_refl _, Nat.le_refl _⟩ (by have e : ff_loop 4 l (n + 1) p J = (nI p, (fi_read J l p).2) := (by rw [ff_loop, if_pos hp, if_pos c45]); rw [e]; exact zw_to rfl rfl rfl rfl)
      · have _c := c45
        refine zv_run 4 (pc' := 56) (lo' := [some (.ref 0), some (.int (nI p)), some (.int ((fi_read J l p).1))]) (st' := [.ref 2, .ref 4]) (I' := (fi_read J l p).2) (L' := L) (R' := zw_RC 14 4 la) rfl ?_
        refine zv_cV (M' := mm_X5_takes) (ci := 5) (a := 4) (av := [.ref 2]) (st := []) (r := some (.int (tk_b (fh_takes (fi_read J l p).2 4)))) (I' := ((fh_takes (fi_read J l p).2 4).getD (fi_read J l p).2)) (L' := L) (R' := zw_RC 14 4 la) rfl zc_9_70 gd_X5_takes rfl rfl rfl (Nat.le_of_ble_eq_true rfl) (ct_X5_takes_4 (d := _) hc2) ⟨Nat.le_refl _, Nat.le_refl _⟩ ?_
        refine zv_run 0 (pc' := 59) (lo' := [some (.ref 0), some (.int (nI p)), some (.int ((fi_read J l p).1))]) (st' := [.int (tk_b (fh_takes (fi_read J l p).2 4))]) (I' := ((fh_takes (fi_read J l p).2 4).getD (fi_read J l p).2)) (L' := L) (R' := zw_RC 14 4 la) rfl ?_
        refine zv_if_ne (tgt := 64) (zs_at rfl) (by decide) (fun c59 => ?_) (fun c59 => ?_)
        · have _c := c59
          refine zv_run 3 (pc' := 18) (lo' := [some (.ref 0), some (.int ((fi_read J l p).1)), some (.int ((fi_read J l p).1))]) (st' := []) (I' := ((fh_takes (fi_read J l p).2 4).getD (fi_read J l p).2)) (L' := L) (R' := zw_RC 14 4 la) rfl ?_
          obtain ⟨K, hK⟩ := tk_b1 c59
          have hne := fh_takes_ne (Or.inl rfl) hc2 hK
          obtain ⟨j, hj1, hj2, hj3⟩ := (rd_loop_at (l - (p + 1)) (p + 1) 0 0 (zx_uI (zx_uI J 2 2 0) 2 1 (J 1 (nI p).toNatClampNeg))).resolve_left (fun q => c45 (by rw [show (fi_read J l p).1 = -4 from q]; exact nI_neg4 (by omega)))
          have hj4 : (fi_read J l p).1 = nI j := hj3
          have e : ff_loop 4 l (n + 1) p J = ff_loop 4 l n j K := by
            rw [ff_loop, if_pos hp, if_neg c45, hK]
            dsimp only
            rw [hj4, nI_toInt (by omega)]
            rfl
          rw [e, hK, hj4]
          exact ih j K _ (by omega) (by omega) (by rw [hne.1 0 (by omega), fi_read_ne (by decide) (by decide)]; exact h0) hne.2
        · have _c := c59
          refine zv_run 1 (pc' := 63) (lo' := [some (.ref 0), some (.int (nI p)), some (.int ((fi_read J l p).1))]) (st' := [.int (nI p)]) (I' := ((fh_takes (fi_read J l p).2 4).getD (fi_read J l p).2)) (L' := L) (R' := zw_RC 14 4 la) rfl ?_
          exact zv_iret (zs_at rfl) rfl ⟨Nat.le_refl _, Nat.le_refl _⟩ (by have e9 : fh_takes (fi_read J l p).2 4 = none := tk_b0 (by first | exact c59 | exact Decidable.not_not.mp c59); have e : ff_loop 4 l (n + 1) p J = (nI p, (fi_read J l p).2) := (by rw [ff_loop, if_pos hp, if_neg c45, e9]); rw [e, e9]; exact zw_to rfl rfl rfl rfl)
theorem ct_X9_fault_14 {d : Nat} {I : zx_I} {L : zx_L} {la : Option Nat} {l : Nat} (hl : l ≤ 400) (h0 : I 0 1 = nI l) : zx_M0 mm_X9_fault (d + 5) 0 0 [.ref 0] zw_SC I L (zw_RC 14 4 la) (zw_ret (some (.int (q_fault I 4 l).1)) zw_SC (q_fault I 4 l).2 L (zw_RC 14 4 la)) := by
  refine zv_entry gd_X9_fault (Nat.le_of_ble_eq_true rfl) ?_
  refine zv_run 2 (pc' := 4) (lo' := [some (.ref 0), none, none]) (st' := [.ref 4]) (I' := I) (L' := L) (R' := zw_RC 14 4 la) rfl ?_
  refine zv_cV (M' := mm_X5_clear) (ci := 5) (a := 4) (av := []) (st := []) (r := none) (I' := (fh_clear I 4)) (L' := L) (R' := zw_RC 14 4 la) rfl zc_9_63 gd_X5_clear rfl rfl rfl (Nat.le_of_ble_eq_true rfl) (ct_X5_clear (d := _) (Or.inl rfl)) ⟨Nat.le_refl _, Nat.le_refl _⟩ ?_
  refine zv_run 0 (pc' := 7) (lo' := [some (.ref 0), none, none]) (st' := []) (I' := (fh_clear I 4)) (L' := L) (R' := zw_RC 14 4 la) rfl ?_
  refine zv_run 2 (pc' := 11) (lo' := [some (.ref 0), none, none]) (st' := [.int ((fh_clear I 4) 0 1)]) (I' := (fh_clear I 4)) (L' := L) (R' := zw_RC 14 4 la) rfl ?_
  refine zv_if_ne (tgt := 16) (zs_at rfl) (by decide) (fun c11 => ?_) (fun c11 => ?_)
  · have _c := c11
    refine zv_run 2 (pc' := 18) (lo' := [some (.ref 0), some (.int 0), none]) (st' := []) (I' := (fh_clear I 4)) (L' := L) (R' := zw_RC 14 4 la) rfl ?_
    rw [show q_fault I 4 l = ff_loop 4 l l 0 (fh_clear I 4) from by unfold q_fault; rw [if_neg (fun q => c11 (by show fh_clear I 4 0 1 = 0; rw [fh_clear_0 (Or.inl rfl), h0, q]; rfl))]]
    exact lp_X9_fault_14 hl l 0 _ none (by omega) (by omega) (by rw [fh_clear_0 (Or.inl rfl)]; exact h0) (by unfold hs_ct; rw [show fh_clear I 4 4 13 = 0 from rfl]; decide)
  · have _c := c11
    refine zv_run 1 (pc' := 15) (lo' := [some (.ref 0), none, none]) (st' := [.int 0]) (I' := (fh_clear I 4)) (L' := L) (R' := zw_RC 14 4 la) rfl ?_
    exact zv_iret (zs_at rfl) rfl ⟨Nat.le_refl _, Nat.le_refl _⟩ (by rw [show q_fault I 4 l = (0, fh_clear I 4) from by unfold q_fault; rw [if_pos (nI_l0 h0 hl c11)]]; exact zw_to rfl rfl rfl rfl)
def q_laym (J : zx_I) : zx_I := zx_uI (fw_clear J 24) 0 7 0
theorem rc_swap_4 {la : Option Nat} : zx_uR (zx_uR (zw_RC 4 14 la) 0 4 (some 4)) 0 3 (some 14) = zw_RC 14 4 la := by
  funext a k
  unfold zx_uR
  by_cases ha : a = 0
  · subst ha
    rw [if_pos rfl, if_pos rfl]
    match k with
    | 0 => rfl
    | 1 => rfl
    | 2 => rfl
    | 3 => rfl
    | 4 => rfl
    | k + 5 => rfl
  · rw [if_neg ha, if_neg ha]
    unfold zw_RC
    by_cases hl : a < 42
    · match a, hl, ha with
      | 0, _, h9 => exact absurd rfl h9
      | 1, _, _ => rfl
      | 2, _, _ => rfl
      | 3, _, _ => rfl
      | 4, _, _ => rfl
      | 5, _, _ => rfl
      | 6, _, _ => rfl
      | 7, _, _ => rfl
      | 8, _, _ => rfl
      | 9, _, _ => rfl
      | 10, _, _ => rfl
      | 11, _, _ => rfl
      | 12, _, _ => rfl
      | 13, _, _ => rfl
      | 14, _, _ => rfl
      | 15, _, _ => rfl
      | 16, _, _ => rfl
      | 17, _, _ => rfl
      | 18, _, _ => rfl
      | 19, _, _ => rfl
      | 20, _, _ => rfl
      | 21, _, _ => rfl
      | 22, _, _ => rfl
      | 23, _, _ => rfl
      | 24, _, _ => rfl
      | 25, _, _ => rfl
      | 26, _, _ => rfl
      | 27, _, _ => rfl
      | 28, _, _ => rfl
      | 29, _, _ => rfl
      | 30, _, _ => rfl
      | 31, _, _ => rfl
      | 32, _, _ => rfl
      | 33, _, _ => rfl
      | 34, _, _ => rfl
      | 35, _, _ => rfl
      | 36, _, _ => rfl
      | 37, _, _ => rfl
      | 38, _, _ => rfl
      | 39, _, _ => rfl
      | 40, _, _ => rfl
      | 41, _, _ => rfl
      | n + 42, h9, _ => exact absurd h9 (by omega)
    · have e1 : ∀ x y : Nat, (zw_RT x y la).getD a [] = [] := fun x y => by
        rw [List.getD_eq_getElem?_getD, List.getElem?_eq_none (show (zw_RT x y la).length ≤ a by show 38 ≤ a; omega)]; rfl
      rw [e1, e1]
theorem rc_swap_14 {la : Option Nat} : zx_uR (zx_uR (zw_RC 14 4 la) 0 4 (some 14)) 0 3 (some 4) = zw_RC 4 14 la := by
  funext a k
  unfold zx_uR
  by_cases ha : a = 0
  · subst ha
    rw [if_pos rfl, if_pos rfl]
    match k with
    | 0 => rfl
    | 1 => rfl
    | 2 => rfl
    | 3 => rfl
    | 4 => rfl
    | k + 5 => rfl
  · rw [if_neg ha, if_neg ha]
    unfold zw_RC
    by_cases hl : a < 42
    · match a, hl, ha with
      | 0, _, h9 => exact absurd rfl h9
      | 1, _, _ => rfl
      | 2, _, _ => rfl
      | 3, _, _ => rfl
      | 4, _, _ => rfl
      | 5, _, _ => rfl
      | 6, _, _ => rfl
      | 7, _, _ => rfl
      | 8, _, _ => rfl
      | 9, _, _ => rfl
      | 10, _, _ => rfl
      | 11, _, _ => rfl
      | 12, _, _ => rfl
      | 13, _, _ => rfl
      | 14, _, _ => rfl
      | 15, _, _ => rfl
      | 16, _, _ => rfl
      | 17, _, _ => rfl
      | 18, _, _ => rfl
      | 19, _, _ => rfl
      | 20, _, _ => rfl
      | 21, _, _ => rfl
      | 22, _, _ => rfl
      | 23, _, _ => rfl
      | 24, _, _ => rfl
      | 25, _, _ => rfl
      | 26, _, _ => rfl
      | 27, _, _ => rfl
      | 28, _, _ => rfl
      | 29, _, _ => rfl
      | 30, _, _ => rfl
      | 31, _, _ => rfl
      | 32, _, _ => rfl
      | 33, _, _ => rfl
      | 34, _, _ => rfl
      | 35, _, _ => rfl
      | 36, _, _ => rfl
      | 37, _, _ => rfl
      | 38, _, _ => rfl
      | 39, _, _ => rfl
      | 40, _, _ => rfl
      | 41, _, _ => rfl
      | n + 42, h9, _ => exact absurd h9 (by omega)
    · have e1 : ∀ x y : Nat, (zw_RT x y la).getD a [] = [] := fun x y => by
        rw [List.getD_eq_getElem?_getD, List.getElem?_eq_none (show (zw_RT x y la).length ≤ a by show 38 ≤ a; omega)]; rfl
      rw [e1, e1]
theorem ct_X9_lay_4 {d : Nat} {I : zx_I} {L : zx_L} {la : Option Nat} {l : Nat} (hl : l ≤ 400) (h0 : I 0 1 = nI l) : zx_M0 mm_X9_lay (d + 6) 0 0 [.ref 0] zw_SC I L (zw_RC 4 14 la) (if (q_fault I 14 l).1 = -4 then zw_ret (some (.int (q_laym (q_fault I 14 l).2 14 13))) zw_SC (q_laym (q_fault I 14 l).2) (zx_uL L 24 2 0) (zw_RC 14 4 la) else zw_ret (some (.int (-2))) zw_SC (q_fault I 14 l).2 L (zw_RC 4 14 la)) := by
  refine zv_entry gd_X9_lay (Nat.le_of_ble_eq_true rfl) ?_
  refine zv_run 1 (pc' := 1) (lo' := [some (.ref 0), none]) (st' := [.ref 0]) (I' := I) (L' := L) (R' := zw_RC 4 14 la) rfl ?_
  refine zv_cV (M' := mm_X9_fault) (ci := 9) (a := 0) (av := []) (st := []) (r := some (.int ((q_fault I 14 l).1))) (I' := (q_fault I 14 l).2) (L' := L) (R' := zw_RC 4 14 la) rfl zc_9_74 gd_X9_fault rfl rfl rfl (Nat.le_of_ble_eq_true rfl) (ct_X9_fault_4 (d := _) hl h0) ⟨Nat.le_refl _, Nat.le_refl _⟩ ?_
  refine zv_run 0 (pc' := 4) (lo' := [some (.ref 0), none]) (st' := [.int ((q_fault I 14 l).1)]) (I' := (q_fault I 14 l).2) (L' := L) (R' := zw_RC 4 14 la) rfl ?_
  refine zv_run 1 (pc' := 6) (lo' := [some (.ref 0), none]) (st' := [.int (-4), .int ((q_fault I 14 l).1)]) (I' := (q_fault I 14 l).2) (L' := L) (R' := zw_RC 4 14 la) rfl ?_
  refine zv_icmp_eq (tgt := 12) (zs_at rfl) (by decide) (fun c6 => ?_) (fun c6 => ?_)
  · have _c := c6
    refine zv_run 10 (pc' := 30) (lo' := [some (.ref 0), some (.ref 14)]) (st' := []) (I' := (q_fault I 14 l).2) (L' := L) (R' := (zx_uR (zx_uR (zw_RC 4 14 la) 0 4 (some 4)) 0 3 (some 14))) rfl ?_
    rw [rc_swap_4]
    refine zv_run 2 (pc' := 34) (lo' := [some (.ref 0), some (.ref 14)]) (st' := [.ref 24]) (I' := (q_fault I 14 l).2) (L' := L) (R' := zw_RC 14 4 la) rfl ?_
    refine zv_cV (M' := mm_X8_clear) (ci := 8) (a := 24) (av := []) (st := []) (r := none) (I' := (fw_clear (q_fault I 14 l).2 24)) (L' := (zx_uL L 24 2 0)) (R' := zw_RC 14 4 la) rfl zc_9_78 gd_X8_clear rfl rfl rfl (Nat.le_of_ble_eq_true rfl) (ct_X8_clear_24 (d := _)) ⟨Nat.le_refl _, Nat.le_refl _⟩ ?_
    refine zv_run 0 (pc' := 37) (lo' := [some (.ref 0), some (.ref 14)]) (st' := []) (I' := (fw_clear (q_fault I 14 l).2 24)) (L' := (zx_uL L 24 2 0)) (R' := zw_RC 14 4 la) rfl ?_
    refine zv_run 6 (pc' := 49) (lo' := [some (.ref 0), some (.ref 14)]) (st' := [.int ((q_fault I 14 l).2 14 13)]) (I' := (zx_uI (fw_clear (q_fault I 14 l).2 24) 0 7 0)) (L' := (zx_uL L 24 2 0)) (R' := zw_RC 14 4 la) rfl ?_
    exact zv_iret (zs_at rfl) rfl ⟨Nat.le_refl _, Nat.le_refl _⟩ (by rw [if_pos c6]; exact zw_to rfl rfl rfl rfl)
  · have _c := c6
    refine zv_run 1 (pc' := 11) (lo' := [some (.ref 0), none]) (st' := [.int (-2)]) (I' := (q_fault I 14 l).2) (L' := L) (R' := zw_RC 4 14 la) rfl ?_
    exact zv_iret (zs_at rfl) rfl ⟨Nat.le_refl _, Nat.le_refl _⟩ (by rw [if_neg c6]; exact zw_to rfl rfl rfl rfl)
theorem ct_X9_lay_14 {d : Nat} {I : zx_I} {L : zx_L} {la : Option Nat} {l : Nat} (hl : l ≤ 400) (h0 : I 0 1 = nI l) : zx_M0 mm_X9_lay (d + 6) 0 0 [.ref 0] zw_SC I L (zw_RC 14 4 la) (if (q_fault I 4 l).1 = -4 then zw_ret (some (.int (q_laym (q_fault I 4 l).2 4 13))) zw_SC (q_laym (q_fault I 4 l).2) (zx_uL L 24 2 0) (zw_RC 4 14 la) else zw_ret (some (.int (-2))) zw_SC (q_fault I 4 l).2 L (zw_RC 14 4 la)) := by
  refine zv_entry gd_X9_lay (Nat.le_of_ble_eq_true rfl) ?_
  refine zv_run 1 (pc' := 1) (lo' := [some (.ref 0), none]) (st' := [.ref 0]) (I' := I) (L' := L) (R' := zw_RC 14 4 la) rfl ?_
  refine zv_cV (M' := mm_X9_fault) (ci := 9) (a := 0) (av := []) (st := []) (r := some (.int ((q_fault I 4 l).1))) (I' := (q_fault I 4 l).2) (L' := L) (R' := zw_RC 14 4 la) rfl zc_9_74 gd_X9_fault rfl rfl rfl (Nat.le_of_ble_eq_true rfl) (ct_X9_fault_14 (d := _) hl h0) ⟨Nat.le_refl _, Nat.le_refl _⟩ ?_
  refine zv_run 0 (pc' := 4) (lo' := [some (.ref 0), none]) (st' := [.int ((q_fault I 4 l).1)]) (I' := (q_fault I 4 l).2) (L' := L) (R' := zw_RC 14 4 la) rfl ?_
  refine zv_run 1 (pc' := 6) (lo' := [some (.ref 0), none]) (st' := [.int (-4), .int ((q_fault I 4 l).1)]) (I' := (q_fault I 4 l).2) (L' := L) (R' := zw_RC 14 4 la) rfl ?_
  refine zv_icmp_eq (tgt := 12) (zs_at rfl) (by decide) (fun c6 => ?_) (fun c6 => ?_)
  · have _c := c6
    refine zv_run 10 (pc' := 30) (lo' := [some (.ref 0), some (.ref 4)]) (st' := []) (I' := (q_fault I 4 l).2) (L' := L) (R' := (zx_uR (zx_uR (zw_RC 14 4 la) 0 4 (some 14)) 0 3 (some 4))) rfl ?_
    rw [rc_swap_14]
    refine zv_run 2 (pc' := 34) (lo' := [some (.ref 0), some (.ref 4)]) (st' := [.ref 24]) (I' := (q_fault I 4 l).2) (L' := L) (R' := zw_RC 4 14 la) rfl ?_
    refine zv_cV (M' := mm_X8_clear) (ci := 8) (a := 24) (av := []) (st := []) (r := none) (I' := (fw_clear (q_fault I 4 l).2 24)) (L' := (zx_uL L 24 2 0)) (R' := zw_RC 4 14 la) rfl zc_9_78 gd_X8_clear rfl rfl rfl (Nat.le_of_ble_eq_true rfl) (ct_X8_clear_24 (d := _)) ⟨Nat.le_refl _, Nat.le_refl _⟩ ?_
    refine zv_run 0 (pc' := 37) (lo' := [some (.ref 0), some (.ref 4)]) (st' := []) (I' := (fw_clear (q_fault I 4 l).2 24)) (L' := (zx_uL L 24 2 0)) (R' := zw_RC 4 14 la) rfl ?_
    refine zv_run 6 (pc' := 49) (lo' := [some (.ref 0), some (.ref 4)]) (st' := [.int ((q_fault I 4 l).2 4 13)]) (I' := (zx_uI (fw_clear (q_fault I 4 l).2 24) 0 7 0)) (L' := (zx_uL L 24 2 0)) (R' := zw_RC 4 14 la) rfl ?_
    exact zv_iret (zs_at rfl) rfl ⟨Nat.le_refl _, Nat.le_refl _⟩ (by rw [if_pos c6]; exact zw_to rfl rfl rfl rfl)
  · have _c := c6
    refine zv_run 1 (pc' := 11) (lo' := [some (.ref 0), none]) (st' := [.int (-2)]) (I' := (q_fault I 4 l).2) (L' := L) (R' := zw_RC 14 4 la) rfl ?_
    exact zv_iret (zs_at rfl) rfl ⟨Nat.le_refl _, Nat.le_refl _⟩ (by rw [if_neg c6]; exact zw_to rfl rfl rfl rfl)
