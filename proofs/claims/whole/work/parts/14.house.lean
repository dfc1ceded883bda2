/-! the houses -/
theorem rc_7 {h sp : Nat} {la : Option Nat} {j : Nat} (hj : j < 6) : zw_RC h sp la 7 j = some (8 + j) := by
  match j, hj with
  | 0, _ => rfl
  | 1, _ => rfl
  | 2, _ => rfl
  | 3, _ => rfl
  | 4, _ => rfl
  | 5, _ => rfl
  | n + 6, h => exact absurd h (by omega)
theorem rc_17 {h sp : Nat} {la : Option Nat} {j : Nat} (hj : j < 6) : zw_RC h sp la 17 j = some (18 + j) := by
  match j, hj with
  | 0, _ => rfl
  | 1, _ => rfl
  | 2, _ => rfl
  | 3, _ => rfl
  | 4, _ => rfl
  | 5, _ => rfl
  | n + 6, h => exact absurd h (by omega)
theorem zcl {x : Int32} {n : Nat} (h0 : ¬ x < 0) (h1 : x < nI n) (hn : n < 2 ^ 31) : x.toNatClampNeg < n := by
  obtain ⟨j, hj, rfl⟩ := nI_of h0
  rw [nI_clamp hj]
  exact (nI_ltI hj hn).mp h1
def fh_who (I : zx_I) (a : Nat) (i : Int32) : Option Nat := if i < 0 then none else if i ≥ I a 13 then none else if i < 6 then some (a + 4 + i.toNatClampNeg) else none
theorem fh_who_bt {I : zx_I} {a w : Nat} {i : Int32} (ha : a = 4 ∨ a = 14) (h : fh_who I a i = some w) : bt w ∧ ¬ i < 0 ∧ i < I a 13 ∧ i < 6 ∧ w = a + 4 + i.toNatClampNeg := by
  unfold fh_who at h
  split at h
  · cases h
  · rename_i h0
    split at h
    · cases h
    · rename_i h1
      split at h
      · rename_i h2
        cases h
        have := zcl h0 (show i < nI 6 from h2) (by decide)
        refine ⟨?_, h0, zge h1, h2, rfl⟩
        unfold bt
        rcases ha with rfl | rfl <;> omega
      · cases h
def hc_loop (b : Nat) : Nat → Nat → zx_I → zx_I
  | 0, _, J => J
  | n + 1, j, J => hc_loop b n (j + 1) (zx_uI J (b + j) 9 (J (b + j) 5))
def fh_told (I : zx_I) (a : Nat) : zx_I := hc_loop (a + 4) 6 0 I
def hsc_loop (I : zx_I) (b : Nat) : Nat → Nat → Int32 → Int32 → Int32
  | 0, _, l, m => 100 * l + m
  | n + 1, j, l, m => hsc_loop I b n (j + 1) (if I (b + j) 11 = -4 then l + 1 else if I (b + j) 11 ≤ I (b + j) 6 then l else l + 1) (if m < (if I (b + j) 11 = -4 then 99 else I (b + j) 11) then (if I (b + j) 11 = -4 then 99 else I (b + j) 11) else m)
def fh_score (I : zx_I) (a : Nat) : Int32 := hsc_loop I (a + 4) (I a 13).toInt.toNat 0 0 0
theorem ct_X5_who {d : Nat} {I : zx_I} {L : zx_L} {h sp : Nat} {la : Option Nat} {a : Nat} {i : Int32} (ha : a = 4 ∨ a = 14) : zx_M0 mm_X5_who (d + 0) 0 0 [.ref a, .int i] zw_SC I L (zw_RC h sp la) (zw_ret (some (va_rf (fh_who I a i))) zw_SC I L (zw_RC h sp la)) := by
  rcases ha with rfl | rfl
  · refine zv_entry gd_X5_who (Nat.le_of_ble_eq_true rfl) ?_
    refine zv_run 1 (pc' := 1) (lo' := [some (.ref 4), some (.int i)]) (st' := [.int i]) (I' := I) (L' := L) (R' := zw_RC h sp la) rfl ?_
    refine zv_if_lt (tgt := 21) (zs_at rfl) (by decide) (fun c1 => ?_) (fun c1 => ?_)
    · have _c := c1
      refine zv_run 2 (pc' := 31) (lo' := [some (.ref 4), some (.int i)]) (st' := [.null]) (I' := I) (L' := L) (R' := zw_RC h sp la) rfl ?_
      exact zv_aret (r := none) (zs_at rfl) rfl ⟨Nat.le_refl _, Nat.le_refl _⟩ (zw_to (by simp [fh_who, va_rf, *]) rfl rfl rfl)
    · have _c := c1
      refine zv_run 3 (pc' := 9) (lo' := [some (.ref 4), some (.int i)]) (st' := [.int (I 4 13), .int i]) (I' := I) (L' := L) (R' := zw_RC h sp la) rfl ?_
      refine zv_icmp_ge (tgt := 21) (zs_at rfl) (by decide) (fun c9 => ?_) (fun c9 => ?_)
      · have _c := c9
        refine zv_run 2 (pc' := 31) (lo' := [some (.ref 4), some (.int i)]) (st' := [.null]) (I' := I) (L' := L) (R' := zw_RC h sp la) rfl ?_
        exact zv_aret (r := none) (zs_at rfl) rfl ⟨Nat.le_refl _, Nat.le_refl _⟩ (zw_to (by simp [fh_who, va_rf, *]) rfl rfl rfl)
      · have _c := c9
        refine zv_run 4 (pc' := 18) (lo' := [some (.ref 4), some (.int i)]) (st' := [.int 6, .int i]) (I' := I) (L' := L) (R' := zw_RC h sp la) rfl ?_
        refine zv_icmp_lt (tgt := 25) (zs_at rfl) (by decide) (fun c18 => ?_) (fun c18 => ?_)
        · have _c := c18
          refine zv_run 3 (pc' := 30) (lo' := [some (.ref 4), some (.int i)]) (st' := [.int i, .ref 7]) (I' := I) (L' := L) (R' := zw_RC h sp la) rfl ?_
          refine zv_aald (zs_at rfl) rfl (Or.inl rfl) (zin c1 c18 (by decide)) ?_
          exact zv_aret (r := zw_RC h sp la 7 i.toNatClampNeg) (zs_at rfl) rfl ⟨Nat.le_refl _, Nat.le_refl _⟩ (zw_to (by rw [rc_7 (zcl c1 (show i < nI 6 from c18) (by decide))]; unfold fh_who; rw [if_neg c1, if_neg c9, if_pos c18]) rfl rfl rfl)
        · have _c := c18
          refine zv_run 2 (pc' := 31) (lo' := [some (.ref 4), some (.int i)]) (st' := [.null]) (I' := I) (L' := L) (R' := zw_RC h sp la) rfl ?_
          exact zv_aret (r := none) (zs_at rfl) rfl ⟨Nat.le_refl _, Nat.le_refl _⟩ (zw_to (by simp [fh_who, va_rf, *]) rfl rfl rfl)
  · refine zv_entry gd_X5_who (Nat.le_of_ble_eq_true rfl) ?_
    refine zv_run 1 (pc' := 1) (lo' := [some (.ref 14), some (.int i)]) (st' := [.int i]) (I' := I) (L' := L) (R' := zw_RC h sp la) rfl ?_
    refine zv_if_lt (tgt := 21) (zs_at rfl) (by decide) (fun c1 => ?_) (fun c1 => ?_)
    · have _c := c1
      refine zv_run 2 (pc' := 31) (lo' := [some (.ref 14), some (.int i)]) (st' := [.null]) (I' := I) (L' := L) (R' := zw_RC h sp la) rfl ?_
      exact zv_aret (r := none) (zs_at rfl) rfl ⟨Nat.le_refl _, Nat.le_refl _⟩ (zw_to (by simp [fh_who, va_rf, *]) rfl rfl rfl)
    · have _c := c1
      refine zv_run 3 (pc' := 9) (lo' := [some (.ref 14), some (.int i)]) (st' := [.int (I 14 13), .int i]) (I' := I) (L' := L) (R' := zw_RC h sp la) rfl ?_
      refine zv_icmp_ge (tgt := 21) (zs_at rfl) (by decide) (fun c9 => ?_) (fun c9 => ?_)
      · have _c := c9
        refine zv_run 2 (pc' := 31) (lo' := [some (.ref 14), some (.int i)]) (st' := [.null]) (I' := I) (L' := L) (R' := zw_RC h sp la) rfl ?_
        exact zv_aret (r := none) (zs_at rfl) rfl ⟨Nat.le_refl _, Nat.le_refl _⟩ (zw_to (by simp [fh_who, va_rf, *]) rfl rfl rfl)
      · have _c := c9
        refine zv_run 4 (pc' := 18) (lo' := [some (.ref 14), some (.int i)]) (st' := [.int 6, .int i]) (I' := I) (L' := L) (R' := zw_RC h sp la) rfl ?_
        refine zv_icmp_lt (tgt := 25) (zs_at rfl) (by decide) (fun c18 => ?_) (fun c18 => ?_)
        · have _c := c18
          refine zv_run 3 (pc' := 30) (lo' := [some (.ref 14), some (.int i)]) (st' := [.int i, .ref 17]) (I' := I) (L' := L) (R' := zw_RC h sp la) rfl ?_
          refine zv_aald (zs_at rfl) rfl (Or.inl rfl) (zin c1 c18 (by decide)) ?_
          exact zv_aret (r := zw_RC h sp la 17 i.toNatClampNeg) (zs_at rfl) rfl ⟨Nat.le_refl _, Nat.le_refl _⟩ (zw_to (by rw [rc_17 (zcl c1 (show i < nI 6 from c18) (by decide))]; unfold fh_who; rw [if_neg c1, if_neg c9, if_pos c18]) rfl rfl rfl)
        · have _c := c18
          refine zv_run 2 (pc' := 31) (lo' := [some (.ref 14), some (.int i)]) (st' := [.null]) (I' := I) (L' := L) (R' := zw_RC h sp la) rfl ?_
          exact zv_aret (r := none) (zs_at rfl) rfl ⟨Nat.le_refl _, Nat.le_refl _⟩ (zw_to (by simp [fh_who, va_rf, *]) rfl rfl rfl)
theorem lp_X5_told_4 {d : Nat} {L : zx_L} {h sp : Nat} {la : Option Nat}  : ∀ (n j : Nat) (J : zx_I) (x4 : Option Value), j + n = 6 → zx_V mm_X5_allComeAsTold (d + 0) z0 (zw_ret none zw_SC (hc_loop 8 n j J) L (zw_RC h sp la)) zw_SC 10 [some (.ref 4), some (.ref 7), some (.int 6), some (.int (nI j)), x4] [] J L (zw_RC h sp la) := by
  intro n
  induction n with
  | zero =>
    intro j J x4 hm
    refine zv_run 2 (pc' := 12) (lo' := [some (.ref 4), some (.ref 7), some (.int 6), some (.int (nI j)), x4]) (st' := [.int 6, .int (nI j)]) (I' := J) (L' := L) (R' := zw_RC h sp la) rfl ?_
    refine zv_icmp_ge (tgt := 36) (zs_at rfl) (by decide) (fun c12 => ?_) (fun c12 => ?_)
    · have _c := c12
      exact zv_vret (zs_at rfl) rfl ⟨Nat.le_refl _, Nat.le_refl _⟩ (zw_to rfl rfl rfl rfl)
    · exact absurd (by rw [show j = 6 by omega]; exact (by decide)) c12
  | succ n ih =>
    intro j J x4 hm
    refine zv_run 2 (pc' := 12) (lo' := [some (.ref 4), some (.ref 7), some (.int 6), some (.int (nI j)), x4]) (st' := [.int 6, .int (nI j)]) (I' := J) (L' := L) (R' := zw_RC h sp la) rfl ?_
    refine zv_icmp_ge (tgt := 36) (zs_at rfl) (by decide) (fun c12 => ?_) (fun c12 => ?_)
    · exact absurd c12 (by exact nI_ge (a := j) (b := 6) (by omega) (by decide))
    · have _c := c12
      refine zv_run 2 (pc' := 17) (lo' := [some (.ref 4), some (.ref 7), some (.int 6), some (.int (nI j)), x4]) (st' := [.int (nI j), .ref 7]) (I' := J) (L' := L) (R' := zw_RC h sp la) rfl ?_
      refine zv_aald (zs_at rfl) rfl (Or.inl rfl) (vp_in_nI (by omega) (by decide)) ?_
      refine zv_run 0 (pc' := 18) (lo' := [some (.ref 4), some (.ref 7), some (.int 6), some (.int (nI j)), x4]) (st' := [.ref (8 + j)]) (I' := J) (L' := L) (R' := zw_RC h sp la) (by rw [nI_clamp (by omega), rc_7 (by omega)]; rfl) ?_
      refine zv_run 3 (pc' := 24) (lo' := [some (.ref 4), some (.ref 7), some (.int 6), some (.int (nI j)), some (.ref (8 + j))]) (st' := [.ref (8 + j), .ref (8 + j)]) (I' := J) (L' := L) (R' := zw_RC h sp la) rfl ?_
      refine zv_get (ci := 2) (k := 5) (t := 0) (zs_at rfl) (zf_ok rfl) (bt_S (by unfold bt; omega)) rfl ?_
      refine zv_run 0 (pc' := 27) (lo' := [some (.ref 4), some (.ref 7), some (.int 6), some (.int (nI j)), some (.ref (8 + j))]) (st' := [.int (J (8 + j) 5), .ref (8 + j)]) (I' := J) (L' := L) (R' := zw_RC h sp la) rfl ?_
      refine zs_putI (ci := 2) (k := 9) (zs_at rfl) (zf_ok rfl) (bt_S (by unfold bt; omega)) (Or.inl rfl) rfl (fun q => absurd q (by decide)) ?_
      refine zv_run 2 (pc' := 10) (lo' := [some (.ref 4), some (.ref 7), some (.int 6), some (.int ((nI j) + 1)), some (.ref (8 + j))]) (st' := []) (I' := (zx_uI J (8 + j) 9 (J (8 + j) 5))) (L' := L) (R' := zw_RC h sp la) rfl ?_
      rw [← nI_succ]
      exact ih (j + 1) _ _ (by omega)
theorem lp_X5_told_14 {d : Nat} {L : zx_L} {h sp : Nat} {la : Option Nat}  : ∀ (n j : Nat) (J : zx_I) (x4 : Option Value), j + n = 6 → zx_V mm_X5_allComeAsTold (d + 0) z0 (zw_ret none zw_SC (hc_loop 18 n j J) L (zw_RC h sp la)) zw_SC 10 [some (.ref 14), some (.ref 17), some (.int 6), some (.int (nI j)), x4] [] J L (zw_RC h sp la) := by
  intro n
  induction n with
  | zero =>
    intro j J x4 hm
    refine zv_run 2 (pc' := 12) (lo' := [some (.ref 14), some (.ref 17), some (.int 6), some (.int (nI j)), x4]) (st' := [.int 6, .int (nI j)]) (I' := J) (L' := L) (R' := zw_RC h sp la) rfl ?_
    refine zv_icmp_ge (tgt := 36) (zs_at rfl) (by decide) (fun c12 => ?_) (fun c12 => ?_)
    · have _c := c12
      exact zv_vret (zs_at rfl) rfl ⟨Nat.le_refl _, Nat.le_refl _⟩ (zw_to rfl rfl rfl rfl)
    · exact absurd (by rw [show j = 6 by omega]; exact (by decide)) c12
  | succ n ih =>
    intro j J x4 hm
    refine zv_run 2 (pc' := 12) (lo' := [some (.ref 14), some (.ref 17), some (.int 6), some (.int (nI j)), x4]) (st' := [.int 6, .int (nI j)]) (I' := J) (L' := L) (R' := zw_RC h sp la) rfl ?_
    refine zv_icmp_ge (tgt := 36) (zs_at rfl) (by decide) (fun c12 => ?_) (fun c12 => ?_)
    · exact absurd c12 (by exact nI_ge (a := j) (b := 6) (by omega) (by decide))
    · have _c := c12
      refine zv_run 2 (pc' := 17) (lo' := [some (.ref 14), some (.ref 17), some (.int 6), some (.int (nI j)), x4]) (st' := [.int (nI j), .ref 17]) (I' := J) (L' := L) (R' := zw_RC h sp la) rfl ?_
      refine zv_aald (zs_at rfl) rfl (Or.inl rfl) (vp_in_nI (by omega) (by decide)) ?_
      refine zv_run 0 (pc' := 18) (lo' := [some (.ref 14), some (.ref 17), some (.int 6), some (.int (nI j)), x4]) (st' := [.ref (18 + j)]) (I' := J) (L' := L) (R' := zw_RC h sp la) (by rw [nI_clamp (by omega), rc_17 (by omega)]; rfl) ?_
      refine zv_run 3 (pc' := 24) (lo' := [some (.ref 14), some (.ref 17), some (.int 6), some (.int (nI j)), some (.ref (18 + j))]) (st' := [.ref (18 + j), .ref (18 + j)]) (I' := J) (L' := L) (R' := zw_RC h sp la) rfl ?_
      refine zv_get (ci := 2) (k := 5) (t := 0) (zs_at rfl) (zf_ok rfl) (bt_S (by unfold bt; omega)) rfl ?_
      refine zv_run 0 (pc' := 27) (lo' := [some (.ref 14), some (.ref 17), some (.int 6), some (.int (nI j)), some (.ref (18 + j))]) (st' := [.int (J (18 + j) 5), .ref (18 + j)]) (I' := J) (L' := L) (R' := zw_RC h sp la) rfl ?_
      refine zs_putI (ci := 2) (k := 9) (zs_at rfl) (zf_ok rfl) (bt_S (by unfold bt; omega)) (Or.inl rfl) rfl (fun q => absurd q (by decide)) ?_
      refine zv_run 2 (pc' := 10) (lo' := [some (.ref 14), some (.ref 17), some (.int 6), some (.int ((nI j) + 1)), some (.ref (18 + j))]) (st' := []) (I' := (zx_uI J (18 + j) 9 (J (18 + j) 5))) (L' := L) (R' := zw_RC h sp la) rfl ?_
      rw [← nI_succ]
      exact ih (j + 1) _ _ (by omega)
theorem ct_X5_allComeAsTold {d : Nat} {I : zx_I} {L : zx_L} {h sp : Nat} {la : Option Nat} {a : Nat}  (ha : a = 4 ∨ a = 14)  : zx_M0 mm_X5_allComeAsTold (d + 0) 0 0 [.ref a] zw_SC I L (zw_RC h sp la) (zw_ret (none) zw_SC (fh_told I a) L (zw_RC h sp la)) := by
  rcases ha with rfl | rfl
  · refine zv_entry gd_X5_allComeAsTold (Nat.le_of_ble_eq_true rfl) ?_
    refine zv_run 8 (pc' := 10) (lo' := [some (.ref 4), some (.ref 7), some (.int 6), some (.int 0), none]) (st' := []) (I' := I) (L' := L) (R' := zw_RC h sp la) rfl ?_
    exact lp_X5_told_4 6 0 I none (by omega)
  · refine zv_entry gd_X5_allComeAsTold (Nat.le_of_ble_eq_true rfl) ?_
    refine zv_run 8 (pc' := 10) (lo' := [some (.ref 14), some (.ref 17), some (.int 6), some (.int 0), none]) (st' := []) (I' := I) (L' := L) (R' := zw_RC h sp la) rfl ?_
    exact lp_X5_told_14 6 0 I none (by omega)
theorem lp_X5_score_4 {d : Nat} {I : zx_I} {L : zx_L} {h sp : Nat} {la : Option Nat} {m : Nat} (hm : I 4 13 = nI m) (hm6 : m ≤ 6) : ∀ (n j : Nat) (l mx : Int32) (x4 : Option Value), j + n = m → zx_V mm_X5_scoreOfEvening (d + 1) z0 (zw_ret (some (.int (hsc_loop I 8 n j l mx))) zw_SC I L (zw_RC h sp la)) zw_SC 6 [some (.ref 4), some (.int l), some (.int mx), some (.int (nI j)), x4] [] I L (zw_RC h sp la) := by
  intro n
  induction n with
  | zero =>
    intro j l mx x4 hj
    refine zv_run 3 (pc' := 11) (lo' := [some (.ref 4), some (.int l), some (.int mx), some (.int (nI j)), x4]) (st' := [.int (I 4 13), .int (nI j)]) (I' := I) (L' := L) (R' := zw_RC h sp la) rfl ?_
    refine zv_icmp_ge (tgt := 83) (zs_at rfl) (by decide) (fun c11 => ?_) (fun c11 => ?_)
    · have _c := c11
      refine zv_run 5 (pc' := 89) (lo' := [some (.ref 4), some (.int l), some (.int mx), some (.int (nI j)), x4]) (st' := [.int ((100 * l) + mx)]) (I' := I) (L' := L) (R' := zw_RC h sp la) rfl ?_
      exact zv_iret (zs_at rfl) rfl ⟨Nat.le_refl _, Nat.le_refl _⟩ (zw_to rfl rfl rfl rfl)
    · exact absurd (by rw [hm]; exact nI_le (by omega) (by omega)) c11
  | succ n ih =>
    intro j l mx x4 hj
    refine zv_run 3 (pc' := 11) (lo' := [some (.ref 4), some (.int l), some (.int mx), some (.int (nI j)), x4]) (st' := [.int (I 4 13), .int (nI j)]) (I' := I) (L' := L) (R' := zw_RC h sp la) rfl ?_
    refine zv_icmp_ge (tgt := 83) (zs_at rfl) (by decide) (fun c11 => ?_) (fun c11 => ?_)
    · exact absurd c11 (by rw [hm]; exact nI_ge (by omega) (by omega))
    · have _c := c11
      refine zv_run 4 (pc' := 20) (lo' := [some (.ref 4), some (.int l), some (.int mx), some (.int (nI j)), x4]) (st' := [.int 6, .int (nI j)]) (I' := I) (L' := L) (R' := zw_RC h sp la) rfl ?_
      refine zv_icmp_ge (tgt := 83) (zs_at rfl) (by decide) (fun c20 => ?_) (fun c20 => ?_)
      · exact absurd c20 (by exact nI_ge (a := j) (b := 6) (by omega) (by decide))
      · have _c := c20
        refine zv_run 3 (pc' := 28) (lo' := [some (.ref 4), some (.int l), some (.int mx), some (.int (nI j)), x4]) (st' := [.int (nI j), .ref 7]) (I' := I) (L' := L) (R' := zw_RC h sp la) rfl ?_
        refine zv_aald (zs_at rfl) rfl (Or.inl rfl) (vp_in_nI (by omega) (by decide)) ?_
        refine zv_run 0 (pc' := 29) (lo' := [some (.ref 4), some (.int l), some (.int mx), some (.int (nI j)), x4]) (st' := [.ref (8 + j)]) (I' := I) (L' := L) (R' := zw_RC h sp la) (by rw [nI_clamp (by omega), rc_7 (by omega)]; rfl) ?_
        refine zv_get (ci := 2) (k := 11) (t := 0) (zs_at rfl) (zf_ok rfl) (bt_S (by unfold bt; omega)) rfl ?_
        refine zv_run 0 (pc' := 32) (lo' := [some (.ref 4), some (.int l), some (.int mx), some (.int (nI j)), x4]) (st' := [.int (I (8 + j) 11)]) (I' := I) (L' := L) (R' := zw_RC h sp la) rfl ?_
        refine zv_run 3 (pc' := 38) (lo' := [some (.ref 4), some (.int l), some (.int mx), some (.int (nI j)), some (.int (I (8 + j) 11))]) (st' := [.int (-4), .int (I (8 + j) 11)]) (I' := I) (L' := L) (R' := zw_RC h sp la) rfl ?_
        refine zv_icmp_eq (tgt := 55) (zs_at rfl) (by decide) (fun c38 => ?_) (fun c38 => ?_)
        · have _c := c38
          refine zv_run 4 (pc' := 63) (lo' := [some (.ref 4), some (.int (l + 1)), some (.int mx), some (.int (nI j)), some (.int (I (8 + j) 11))]) (st' := [.int (-4), .int (I (8 + j) 11), .int mx]) (I' := I) (L' := L) (R' := zw_RC h sp la) rfl ?_
          refine zv_icmp_ne (tgt := 71) (zs_at rfl) (by decide) (fun c63 => ?_) (fun c63 => ?_)
          · have _c := c63
            refine zv_run 1 (pc' := 73) (lo' := [some (.ref 4), some (.int (l + 1)), some (.int mx), some (.int (nI j)), some (.int (I (8 + j) 11))]) (st' := [.int (I (8 + j) 11), .int mx]) (I' := I) (L' := L) (R' := zw_RC h sp la) rfl ?_
            refine zv_max rfl zm_5_156 (Nat.le_of_ble_eq_true rfl) ⟨Nat.le_refl _, Nat.le_refl _⟩ ?_
            refine zv_run 3 (pc' := 6) (lo' := [some (.ref 4), some (.int (l + 1)), some (.int (if mx < (I (8 + j) 11) then (I (8 + j) 11) else mx)), some (.int ((nI j) + 1)), some (.int (I (8 + j) 11))]) (st' := []) (I' := I) (L' := L) (R' := zw_RC h sp la) rfl ?_
            rw [show hsc_loop I 8 (n + 1) j l mx = hsc_loop I 8 n (j + 1) (l + 1) (if mx < (I (8 + j) 11) then (I (8 + j) 11) else mx) from by first | exact absurd c38 c63 | exact absurd c63 c38 | (simp only [hsc_loop]; simp [*]), ← nI_succ]
            exact ih (j + 1) _ _ _ (by omega)
          · have _c := c63
            refine zv_run 2 (pc' := 73) (lo' := [some (.ref 4), some (.int (l + 1)), some (.int mx), some (.int (nI j)), some (.int (I (8 + j) 11))]) (st' := [.int 99, .int mx]) (I' := I) (L' := L) (R' := zw_RC h sp la) rfl ?_
            refine zv_max rfl zm_5_156 (Nat.le_of_ble_eq_true rfl) ⟨Nat.le_refl _, Nat.le_refl _⟩ ?_
            refine zv_run 3 (pc' := 6) (lo' := [some (.ref 4), some (.int (l + 1)), some (.int (if mx < 99 then 99 else mx)), some (.int ((nI j) + 1)), some (.int (I (8 + j) 11))]) (st' := []) (I' := I) (L' := L) (R' := zw_RC h sp la) rfl ?_
            rw [show hsc_loop I 8 (n + 1) j l mx = hsc_loop I 8 n (j + 1) (l + 1) (if mx < 99 then 99 else mx) from by first | exact absurd c38 c63 | exact absurd c63 c38 | (simp only [hsc_loop]; simp [*]), ← nI_succ]
            exact ih (j + 1) _ _ _ (by omega)
        · have _c := c38
          refine zv_run 4 (pc' := 48) (lo' := [some (.ref 4), some (.int l), some (.int mx), some (.int (nI j)), some (.int (I (8 + j) 11))]) (st' := [.int (nI j), .ref 7, .int (I (8 + j) 11)]) (I' := I) (L' := L) (R' := zw_RC h sp la) rfl ?_
          refine zv_aald (zs_at rfl) rfl (Or.inl rfl) (vp_in_nI (by omega) (by decide)) ?_
          refine zv_run 0 (pc' := 49) (lo' := [some (.ref 4), some (.int l), some (.int mx), some (.int (nI j)), some (.int (I (8 + j) 11))]) (st' := [.ref (8 + j), .int (I (8 + j) 11)]) (I' := I) (L' := L) (R' := zw_RC h sp la) (by rw [nI_clamp (by omega), rc_7 (by omega)]; rfl) ?_
          refine zv_get (ci := 2) (k := 6) (t := 0) (zs_at rfl) (zf_ok rfl) (bt_S (by unfold bt; omega)) rfl ?_
          refine zv_run 0 (pc' := 52) (lo' := [some (.ref 4), some (.int l), some (.int mx), some (.int (nI j)), some (.int (I (8 + j) 11))]) (st' := [.int (I (8 + j) 6), .int (I (8 + j) 11)]) (I' := I) (L' := L) (R' := zw_RC h sp la) rfl ?_
          refine zv_icmp_le (tgt := 58) (zs_at rfl) (by decide) (fun c52 => ?_) (fun c52 => ?_)
          · have _c := c52
            refine zv_run 3 (pc' := 63) (lo' := [some (.ref 4), some (.int l), some (.int mx), some (.int (nI j)), some (.int (I (8 + j) 11))]) (st' := [.int (-4), .int (I (8 + j) 11), .int mx]) (I' := I) (L' := L) (R' := zw_RC h sp la) rfl ?_
            refine zv_icmp_ne (tgt := 71) (zs_at rfl) (by decide) (fun c63 => ?_) (fun c63 => ?_)
            · have _c := c63
              refine zv_run 1 (pc' := 73) (lo' := [some (.ref 4), some (.int l), some (.int mx), some (.int (nI j)), some (.int (I (8 + j) 11))]) (st' := [.int (I (8 + j) 11), .int mx]) (I' := I) (L' := L) (R' := zw_RC h sp la) rfl ?_
              refine zv_max rfl zm_5_156 (Nat.le_of_ble_eq_true rfl) ⟨Nat.le_refl _, Nat.le_refl _⟩ ?_
              refine zv_run 3 (pc' := 6) (lo' := [some (.ref 4), some (.int l), some (.int (if mx < (I (8 + j) 11) then (I (8 + j) 11) else mx)), some (.int ((nI j) + 1)), some (.int (I (8 + j) 11))]) (st' := []) (I' := I) (L' := L) (R' := zw_RC h sp la) rfl ?_
              rw [show hsc_loop I 8 (n + 1) j l mx = hsc_loop I 8 n (j + 1) (l) (if mx < (I (8 + j) 11) then (I (8 + j) 11) else mx) from by first | exact absurd c38 c63 | exact absurd c63 c38 | (simp only [hsc_loop]; simp [*]), ← nI_succ]
              exact ih (j + 1) _ _ _ (by omega)
            · have _c := c63
              refine zv_run 2 (pc' := 73) (lo' := [some (.ref 4), some (.int l), some (.int mx), some (.int (nI j)), some (.int (I (8 + j) 11))]) (st' := [.int 99, .int mx]) (I' := I) (L' := L) (R' := zw_RC h sp la) rfl ?_
              refine zv_max rfl zm_5_156 (Nat.le_of_ble_eq_true rfl) ⟨Nat.le_refl _, Nat.le_refl _⟩ ?_
              refine zv_run 3 (pc' := 6) (lo' := [some (.ref 4), some (.int l), some (.int (if mx < 99 then 99 else mx)), some (.int ((nI j) + 1)), some (.int (I (8 + j) 11))]) (st' := []) (I' := I) (L' := L) (R' := zw_RC h sp la) rfl ?_
              rw [show hsc_loop I 8 (n + 1) j l mx = hsc_loop I 8 n (j + 1) (l) (if mx < 99 then 99 else mx) from by first | exact absurd c38 c63 | exact absurd c63 c38 | (simp only [hsc_loop]; simp [*]), ← nI_succ]
              exact ih (j + 1) _ _ _ (by omega)
          · have _c := c52
            refine zv_run 4 (pc' := 63) (lo' := [some (.ref 4), some (.int (l + 1)), some (.int mx), some (.int (nI j)), some (.int (I (8 + j) 11))]) (st' := [.int (-4), .int (I (8 + j) 11), .int mx]) (I' := I) (L' := L) (R' := zw_RC h sp la) rfl ?_
            refine zv_icmp_ne (tgt := 71) (zs_at rfl) (by decide) (fun c63 => ?_) (fun c63 => ?_)
            · have _c := c63
              refine zv_run 1 (pc' := 73) (lo' := [some (.ref 4), some (.int (l + 1)), some (.int mx), some (.int (nI j)), some (.int (I (8 + j) 11))]) (st' := [.int (I (8 + j) 11), .int mx]) (I' := I) (L' := L) (R' := zw_RC h sp la) rfl ?_
              refine zv_max rfl zm_5_156 (Nat.le_of_ble_eq_true rfl) ⟨Nat.le_refl _, Nat.le_refl _⟩ ?_
              refine zv_run 3 (pc' := 6) (lo' := [some (.ref 4), some (.int (l + 1)), some (.int (if mx < (I (8 + j) 11) then (I (8 + j) 11) else mx)), some (.int ((nI j) + 1)), some (.int (I (8 + j) 11))]) (st' := []) (I' := I) (L' := L) (R' := zw_RC h sp la) rfl ?_
              rw [show hsc_loop I 8 (n + 1) j l mx = hsc_loop I 8 n (j + 1) (l + 1) (if mx < (I (8 + j) 11) then (I (8 + j) 11) else mx) from by first | exact absurd c38 c63 | exact absurd c63 c38 | (simp only [hsc_loop]; simp [*]), ← nI_succ]
              exact ih (j + 1) _ _ _ (by omega)
            · have _c := c63
              refine zv_run 2 (pc' := 73) (lo' := [some (.ref 4), some (.int (l + 1)), some (.int mx), some (.int (nI j)), some (.int (I (8 + j) 11))]) (st' := [.int 99, .int mx]) (I' := I) (L' := L) (R' := zw_RC h sp la) rfl ?_
              refine zv_max rfl zm_5_156 (Nat.le_of_ble_eq_true rfl) ⟨Nat.le_refl _, Nat.le_refl _⟩ ?_
              refine zv_run 3 (pc' := 6) (lo' := [some (.ref 4), some (.int (l + 1)), some (.int (if mx < 99 then 99 else mx)), some (.int ((nI j) + 1)), some (.int (I (8 + j) 11))]) (st' := []) (I' := I) (L' := L) (R' := zw_RC h sp la) rfl ?_
              rw [show hsc_loop I 8 (n + 1) j l mx = hsc_loop I 8 n (j + 1) (l + 1) (if mx < 99 then 99 else mx) from by first | exact absurd c38 c63 | exact absurd c63 c38 | (simp only [hsc_loop]; simp [*]), ← nI_succ]
              exact ih (j + 1) _ _ _ (by omega)
theorem lp_X5_score_14 {d : Nat} {I : zx_I} {L : zx_L} {h sp : Nat} {la : Option Nat} {m : Nat} (hm : I 14 13 = nI m) (hm6 : m ≤ 6) : ∀ (n j : Nat) (l mx : Int32) (x4 : Option Value), j + n = m → zx_V mm_X5_scoreOfEvening (d + 1) z0 (zw_ret (some (.int (hsc_loop I 18 n j l mx))) zw_SC I L (zw_RC h sp la)) zw_SC 6 [some (.ref 14), some (.int l), some (.int mx), some (.int (nI j)), x4] [] I L (zw_RC h sp la) := by
  intro n
  induction n with
  | zero =>
    intro j l mx x4 hj
    refine zv_run 3 (pc' := 11) (lo' := [some (.ref 14), some (.int l), some (.int mx), some (.int (nI j)), x4]) (st' := [.int (I 14 13), .int (nI j)]) (I' := I) (L' := L) (R' := zw_RC h sp la) rfl ?_
    refine zv_icmp_ge (tgt := 83) (zs_at rfl) (by decide) (fun c11 => ?_) (fun c11 => ?_)
    · have _c := c11
      refine zv_run 5 (pc' := 89) (lo' := [some (.ref 14), some (.int l), some (.int mx), some (.int (nI j)), x4]) (st' := [.int ((100 * l) + mx)]) (I' := I) (L' := L) (R' := zw_RC h sp la) rfl ?_
      exact zv_iret (zs_at rfl) rfl ⟨Nat.le_refl _, Nat.le_refl _⟩ (zw_to rfl rfl rfl rfl)
    · exact absurd (by rw [hm]; exact nI_le (by omega) (by omega)) c11
  | succ n ih =>
    intro j l mx x4 hj
    refine zv_run 3 (pc' := 11) (lo' := [some (.ref 14), some (.int l), some (.int mx), some (.int (nI j)), x4]) (st' := [.int (I 14 13), .int (nI j)]) (I' := I) (L' := L) (R' := zw_RC h sp la) rfl ?_
    refine zv_icmp_ge (tgt := 83) (zs_at rfl) (by decide) (fun c11 => ?_) (fun c11 => ?_)
    · exact absurd c11 (by rw [hm]; exact nI_ge (by omega) (by omega))
    · have _c := c11
      refine zv_run 4 (pc' := 20) (lo' := [some (.ref 14), some (.int l), some (.int mx), some (.int (nI j)), x4]) (st' := [.int 6, .int (nI j)]) (I' := I) (L' := L) (R' := zw_RC h sp la) rfl ?_
      refine zv_icmp_ge (tgt := 83) (zs_at rfl) (by decide) (fun c20 => ?_) (fun c20 => ?_)
      · exact absurd c20 (by exact nI_ge (a := j) (b := 6) (by omega) (by decide))
      · have _c := c20
        refine zv_run 3 (pc' := 28) (lo' := [some (.ref 14), some (.int l), some (.int mx), some (.int (nI j)), x4]) (st' := [.int (nI j), .ref 17]) (I' := I) (L' := L) (R' := zw_RC h sp la) rfl ?_
        refine zv_aald (zs_at rfl) rfl (Or.inl rfl) (vp_in_nI (by omega) (by decide)) ?_
        refine zv_run 0 (pc' := 29) (lo' := [some (.ref 14), some (.int l), some (.int mx), some (.int (nI j)), x4]) (st' := [.ref (18 + j)]) (I' := I) (L' := L) (R' := zw_RC h sp la) (by rw [nI_clamp (by omega), rc_17 (by omega)]; rfl) ?_
        refine zv_get (ci := 2) (k := 11) (t := 0) (zs_at rfl) (zf_ok rfl) (bt_S (by unfold bt; omega)) rfl ?_
        refine zv_run 0 (pc' := 32) (lo' := [some (.ref 14), some (.int l), some (.int mx), some (.int (nI j)), x4]) (st' := [.int (I (18 + j) 11)]) (I' := I) (L' := L) (R' := zw_RC h sp la) rfl ?_
        refine zv_run 3 (pc' := 38) (lo' := [some (.ref 14), some (.int l), some (.int mx), some (.int (nI j)), some (.int (I (18 + j) 11))]) (st' := [.int (-4), .int (I (18 + j) 11)]) (I' := I) (L' := L) (R' := zw_RC h sp la) rfl ?_
        refine zv_icmp_eq (tgt := 55) (zs_at rfl) (by decide) (fun c38 => ?_) (fun c38 => ?_)
        · have _c := c38
          refine zv_run 4 (pc' := 63) (lo' := [some (.ref 14), some (.int (l + 1)), some (.int mx), some (.int (nI j)), some (.int (I (18 + j) 11))]) (st' := [.int (-4), .int (I (18 + j) 11), .int mx]) (I' := I) (L' := L) (R' := zw_RC h sp la) rfl ?_
          refine zv_icmp_ne (tgt := 71) (zs_at rfl) (by decide) (fun c63 => ?_) (fun c63 => ?_)
          · have _c := c63
            refine zv_run 1 (pc' := 73) (lo' := [some (.ref 14), some (.int (l + 1)), some (.int mx), some (.int (nI j)), some (.int (I (18 + j) 11))]) (st' := [.int (I (18 + j) 11), .int mx]) (I' := I) (L' := L) (R' := zw_RC h sp la) rfl ?_
            refine zv_max rfl zm_5_156 (Nat.le_of_ble_eq_true rfl) ⟨Nat.le_refl _, Nat.le_refl _⟩ ?_
            refine zv_run 3 (pc' := 6) (lo' := [some (.ref 14), some (.int (l + 1)), some (.int (if mx < (I (18 + j) 11) then (I (18 + j) 11) else mx)), some (.int ((nI j) + 1)), some (.int (I (18 + j) 11))]) (st' := []) (I' := I) (L' := L) (R' := zw_RC h sp la) rfl ?_
            rw [show hsc_loop I 18 (n + 1) j l mx = hsc_loop I 18 n (j + 1) (l + 1) (if mx < (I (18 + j) 11) then (I (18 + j) 11) else mx) from by first | exact absurd c38 c63 | exact absurd c63 c38 | (simp only [hsc_loop]; simp [*]), ← nI_succ]
            exact ih (j + 1) _ _ _ (by omega)
          · have _c := c63
            refine zv_run 2 (pc' := 73) (lo' := [some (.ref 14), some (.int (l + 1)), some (.int mx), some (.int (nI j)), some (.int (I (18 + j) 11))]) (st' := [.int 99, .int mx]) (I' := I) (L' := L) (R' := zw_RC h sp la) rfl ?_
            refine zv_max rfl zm_5_156 (Nat.le_of_ble_eq_true rfl) ⟨Nat.le_refl _, Nat.le_refl _⟩ ?_
            refine zv_run 3 (pc' := 6) (lo' := [some (.ref 14), some (.int (l + 1)), some (.int (if mx < 99 then 99 else mx)), some (.int ((nI j) + 1)), some (.int (I (18 + j) 11))]) (st' := []) (I' := I) (L' := L) (R' := zw_RC h sp la) rfl ?_
            rw [show hsc_loop I 18 (n + 1) j l mx = hsc_loop I 18 n (j + 1) (l + 1) (if mx < 99 then 99 else mx) from by first | exact absurd c38 c63 | exact absurd c63 c38 | (simp only [hsc_loop]; simp [*]), ← nI_succ]
            exact ih (j + 1) _ _ _ (by omega)
        · have _c := c38
          refine zv_run 4 (pc' := 48) (lo' := [some (.ref 14), some (.int l), some (.int mx), some (.int (nI j)), some (.int (I (18 + j) 11))]) (st' := [.int (nI j), .ref 17, .int (I (18 + j) 11)]) (I' := I) (L' := L) (R' := zw_RC h sp la) rfl ?_
          refine zv_aald (zs_at rfl) rfl (Or.inl rfl) (vp_in_nI (by omega) (by decide)) ?_
          refine zv_run 0 (pc' := 49) (lo' := [some (.ref 14), some (.int l), some (.int mx), some (.int (nI j)), some (.int (I (18 + j) 11))]) (st' := [.ref (18 + j), .int (I (18 + j) 11)]) (I' := I) (L' := L) (R' := zw_RC h sp la) (by rw [nI_clamp (by omega), rc_17 (by omega)]; rfl) ?_
          refine zv_get (ci := 2) (k := 6) (t := 0) (zs_at rfl) (zf_ok rfl) (bt_S (by unfold bt; omega)) rfl ?_
          refine zv_run 0 (pc' := 52) (lo' := [some (.ref 14), some (.int l), some (.int mx), some (.int (nI j)), some (.int (I (18 + j) 11))]) (st' := [.int (I (18 + j) 6), .int (I (18 + j) 11)]) (I' := I) (L' := L) (R' := zw_RC h sp la) rfl ?_
          refine zv_icmp_le (tgt := 58) (zs_at rfl) (by decide) (fun c52 => ?_) (fun c52 => ?_)
          · have _c := c52
            refine zv_run 3 (pc' := 63) (lo' := [some (.ref 14), some (.int l), some (.int mx), some (.int (nI j)), some (.int (I (18 + j) 11))]) (st' := [.int (-4), .int (I (18 + j) 11), .int mx]) (I' := I) (L' := L) (R' := zw_RC h sp la) rfl ?_
            refine zv_icmp_ne (tgt := 71) (zs_at rfl) (by decide) (fun c63 => ?_) (fun c63 => ?_)
            · have _c := c63
              refine zv_run 1 (pc' := 73) (lo' := [some (.ref 14), some (.int l), some (.int mx), some (.int (nI j)), some (.int (I (18 + j) 11))]) (st' := [.int (I (18 + j) 11), .int mx]) (I' := I) (L' := L) (R' := zw_RC h sp la) rfl ?_
              refine zv_max rfl zm_5_156 (Nat.le_of_ble_eq_true rfl) ⟨Nat.le_refl _, Nat.le_refl _⟩ ?_
              refine zv_run 3 (pc' := 6) (lo' := [some (.ref 14), some (.int l), some (.int (if mx < (I (18 + j) 11) then (I (18 + j) 11) else mx)), some (.int ((nI j) + 1)), some (.int (I (18 + j) 11))]) (st' := []) (I' := I) (L' := L) (R' := zw_RC h sp la) rfl ?_
              rw [show hsc_loop I 18 (n + 1) j l mx = hsc_loop I 18 n (j + 1) (l) (if mx < (I (18 + j) 11) then (I (18 + j) 11) else mx) from by first | exact absurd c38 c63 | exact absurd c63 c38 | (simp only [hsc_loop]; simp [*]), ← nI_succ]
              exact ih (j + 1) _ _ _ (by omega)
            · have _c := c63
              refine zv_run 2 (pc' := 73) (lo' := [some (.ref 14), some (.int l), some (.int mx), some (.int (nI j)), some (.int (I (18 + j) 11))]) (st' := [.int 99, .int mx]) (I' := I) (L' := L) (R' := zw_RC h sp la) rfl ?_
              refine zv_max rfl zm_5_156 (Nat.le_of_ble_eq_true rfl) ⟨Nat.le_refl _, Nat.le_refl _⟩ ?_
              refine zv_run 3 (pc' := 6) (lo' := [some (.ref 14), some (.int l), some (.int (if mx < 99 then 99 else mx)), some (.int ((nI j) + 1)), some (.int (I (18 + j) 11))]) (st' := []) (I' := I) (L' := L) (R' := zw_RC h sp la) rfl ?_
              rw [show hsc_loop I 18 (n + 1) j l mx = hsc_loop I 18 n (j + 1) (l) (if mx < 99 then 99 else mx) from by first | exact absurd c38 c63 | exact absurd c63 c38 | (simp only [hsc_loop]; simp [*]), ← nI_succ]
              exact ih (j + 1) _ _ _ (by omega)
          · have _c := c52
            refine zv_run 4 (pc' := 63) (lo' := [some (.ref 14), some (.int (l + 1)), some (.int mx), some (.int (nI j)), some (.int (I (18 + j) 11))]) (st' := [.int (-4), .int (I (18 + j) 11), .int mx]) (I' := I) (L' := L) (R' := zw_RC h sp la) rfl ?_
            refine zv_icmp_ne (tgt := 71) (zs_at rfl) (by decide) (fun c63 => ?_) (fun c63 => ?_)
            · have _c := c63
              refine zv_run 1 (pc' := 73) (lo' := [some (.ref 14), some (.int (l + 1)), some (.int mx), some (.int (nI j)), some (.int (I (18 + j) 11))]) (st' := [.int (I (18 + j) 11), .int mx]) (I' := I) (L' := L) (R' := zw_RC h sp la) rfl ?_
              refine zv_max rfl zm_5_156 (Nat.le_of_ble_eq_true rfl) ⟨Nat.le_refl _, Nat.le_refl _⟩ ?_
              refine zv_run 3 (pc' := 6) (lo' := [some (.ref 14), some (.int (l + 1)), some (.int (if mx < (I (18 + j) 11) then (I (18 + j) 11) else mx)), some (.int ((nI j) + 1)), some (.int (I (18 + j) 11))]) (st' := []) (I' := I) (L' := L) (R' := zw_RC h sp la) rfl ?_
              rw [show hsc_loop I 18 (n + 1) j l mx = hsc_loop I 18 n (j + 1) (l + 1) (if mx < (I (18 + j) 11) then (I (18 + j) 11) else mx) from by first | exact absurd c38 c63 | exact absurd c63 c38 | (simp only [hsc_loop]; simp [*]), ← nI_succ]
              exact ih (j + 1) _ _ _ (by omega)
            · have _c := c63
              refine zv_run 2 (pc' := 73) (lo' := [some (.ref 14), some (.int (l + 1)), some (.int mx), some (.int (nI j)), some (.int (I (18 + j) 11))]) (st' := [.int 99, .int mx]) (I' := I) (L' := L) (R' := zw_RC h sp la) rfl ?_
              refine zv_max rfl zm_5_156 (Nat.le_of_ble_eq_true rfl) ⟨Nat.le_refl _, Nat.le_refl _⟩ ?_
              refine zv_run 3 (pc' := 6) (lo' := [some (.ref 14), some (.int (l + 1)), some (.int (if mx < 99 then 99 else mx)), some (.int ((nI j) + 1)), some (.int (I (18 + j) 11))]) (st' := []) (I' := I) (L' := L) (R' := zw_RC h sp la) rfl ?_
              rw [show hsc_loop I 18 (n + 1) j l mx = hsc_loop I 18 n (j + 1) (l + 1) (if mx < 99 then 99 else mx) from by first | exact absurd c38 c63 | exact absurd c63 c38 | (simp only [hsc_loop]; simp [*]), ← nI_succ]
              exact ih (j + 1) _ _ _ (by omega)
theorem hs_c {I : zx_I} {a : Nat} (h0 : 0 ≤ (I a 13).toInt) (h6 : (I a 13).toInt ≤ 6) : ∃ m, m ≤ 6 ∧ I a 13 = nI m ∧ (I a 13).toInt.toNat = m := by
  refine ⟨(I a 13).toInt.toNat, by omega, ?_, rfl⟩
  apply Int32.toInt_inj.mp
  rw [nI_toInt (by omega)]
  omega
def hs_ct (I : zx_I) (a : Nat) : Prop := 0 ≤ (I a 13).toInt ∧ (I a 13).toInt ≤ 6
theorem ct_X5_scoreOfEvening {d : Nat} {I : zx_I} {L : zx_L} {h sp : Nat} {la : Option Nat} {a : Nat}  (ha : a = 4 ∨ a = 14) (hc : hs_ct I a) : zx_M0 mm_X5_scoreOfEvening (d + 1) 0 0 [.ref a] zw_SC I L (zw_RC h sp la) (zw_ret (some (.int (fh_score I a))) zw_SC I L (zw_RC h sp la)) := by
  obtain ⟨m, hm6, hm, hmt⟩ := hs_c hc.1 hc.2
  unfold fh_score
  rw [hmt]
  rcases ha with rfl | rfl
  · refine zv_entry gd_X5_scoreOfEvening (Nat.le_of_ble_eq_true rfl) ?_
    refine zv_run 6 (pc' := 6) (lo' := [some (.ref 4), some (.int 0), some (.int 0), some (.int 0), none]) (st' := []) (I' := I) (L' := L) (R' := zw_RC h sp la) rfl ?_
    exact lp_X5_score_4 hm hm6 m 0 0 0 none (Nat.zero_add m)
  · refine zv_entry gd_X5_scoreOfEvening (Nat.le_of_ble_eq_true rfl) ?_
    refine zv_run 6 (pc' := 6) (lo' := [some (.ref 14), some (.int 0), some (.int 0), some (.int 0), none]) (st' := []) (I' := I) (L' := L) (R' := zw_RC h sp la) rfl ?_
    exact lp_X5_score_14 hm hm6 m 0 0 0 none (Nat.zero_add m)
