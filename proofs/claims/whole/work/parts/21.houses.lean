/-! row; houses that grow, are cleared, copied -/
def rw_v (i th u : Int32) : Int32 := if u = i then th else u
def q_rowm (I : zx_I) (k i : Int32) : zx_I := zx_uI (zmap I 25 (fun _ u => rw_v i (I 25 k.toNatClampNeg) u) 0 6) 25 k.toNatClampNeg i
theorem lp_X9_row {d : Nat} {L : zx_L} {h sp : Nat} {la : Option Nat} {k i th : Int32} (hk : vp_in k 6) : ∀ (n j : Nat) (J : zx_I), j + n = 6 → zx_V mm_X9_row d z0 (zw_ret (some (.int th)) zw_SC (zx_uI (zmap J 25 (fun _ u => rw_v i th u) j n) 25 k.toNatClampNeg i) L (zw_RC h sp la)) zw_SC 46 [some (.ref 0), some (.int k), some (.int i), some (.ref 25), some (.int th), some (.int (nI j))] [] J L (zw_RC h sp la) := by
  intro n
  induction n with
  | zero =>
    intro j J hm
    rw [zmap_0]
    refine zv_run 3 (pc' := 50) (lo' := [some (.ref 0), some (.int k), some (.int i), some (.ref 25), some (.int th), some (.int (nI j))]) (st' := [.int 6, .int (nI j)]) (I' := J) (L' := L) (R' := zw_RC h sp la) rfl ?_
    refine zv_icmp_ge (tgt := 73) (zs_at rfl) (by decide) (fun c50 => ?_) (fun c50 => ?_)
    · have _c := c50
      refine zv_run 3 (pc' := 76) (lo' := [some (.ref 0), some (.int k), some (.int i), some (.ref 25), some (.int th), some (.int (nI j))]) (st' := [.int i, .int k, .ref 25]) (I' := J) (L' := L) (R' := zw_RC h sp la) rfl ?_
      refine zv_iast (zs_at rfl) rfl hk ?_
      refine zv_run 1 (pc' := 79) (lo' := [some (.ref 0), some (.int k), some (.int i), some (.ref 25), some (.int th), some (.int (nI j))]) (st' := [.int th]) (I' := (zx_uI J 25 k.toNatClampNeg i)) (L' := L) (R' := zw_RC h sp la) rfl ?_
      exact zv_iret (zs_at rfl) rfl ⟨Nat.le_refl _, Nat.le_refl _⟩ (zw_to rfl rfl rfl rfl)
    · exact absurd (by rw [show j = 6 by omega]; exact (by decide)) c50
  | succ n ih =>
    intro j J hm
    refine zv_run 3 (pc' := 50) (lo' := [some (.ref 0), some (.int k), some (.int i), some (.ref 25), some (.int th), some (.int (nI j))]) (st' := [.int 6, .int (nI j)]) (I' := J) (L' := L) (R' := zw_RC h sp la) rfl ?_
    refine zv_icmp_ge (tgt := 73) (zs_at rfl) (by decide) (fun c50 => ?_) (fun c50 => ?_)
    · exact absurd c50 (by exact nI_ge (a := j) (b := 6) (by omega) (by decide))
    · have _c := c50
      refine zv_run 2 (pc' := 56) (lo' := [some (.ref 0), some (.int k), some (.int i), some (.ref 25), some (.int th), some (.int (nI j))]) (st' := [.int (nI j), .ref 25]) (I' := J) (L' := L) (R' := zw_RC h sp la) rfl ?_
      refine zv_iald (zs_at rfl) rfl (vp_in_nI (by omega) (by decide)) ?_
      refine zv_run 1 (pc' := 58) (lo' := [some (.ref 0), some (.int k), some (.int i), some (.ref 25), some (.int th), some (.int (nI j))]) (st' := [.int i, .int (J 25 ((nI j).toNatClampNeg))]) (I' := J) (L' := L) (R' := zw_RC h sp la) rfl ?_
      refine zv_icmp_ne (tgt := 67) (zs_at rfl) (by decide) (fun c58 => ?_) (fun c58 => ?_)
      · have _c := c58
        refine zv_run 2 (pc' := 46) (lo' := [some (.ref 0), some (.int k), some (.int i), some (.ref 25), some (.int th), some (.int ((nI j) + 1))]) (st' := []) (I' := J) (L' := L) (R' := zw_RC h sp la) rfl ?_
        rw [← nI_succ, ← zmap_s (J := J) (J' := J) (a := 25) (n := n) (g := fun _ u => rw_v i th u) (by rw [show rw_v i th (J 25 j) = J 25 j from by rw [nI_clamp (by omega)] at c58; unfold rw_v; rw [if_neg c58]]; exact zx_uI_self.symm)]
        exact ih (j + 1) _ (by omega)
      · have _c := c58
        refine zv_run 3 (pc' := 66) (lo' := [some (.ref 0), some (.int k), some (.int i), some (.ref 25), some (.int th), some (.int (nI j))]) (st' := [.int th, .int (nI j), .ref 25]) (I' := J) (L' := L) (R' := zw_RC h sp la) rfl ?_
        refine zv_iast (zs_at rfl) rfl (vp_in_nI (by omega) (by decide)) ?_
        refine zv_run 2 (pc' := 46) (lo' := [some (.ref 0), some (.int k), some (.int i), some (.ref 25), some (.int th), some (.int ((nI j) + 1))]) (st' := []) (I' := (zx_uI J 25 ((nI j).toNatClampNeg) th)) (L' := L) (R' := zw_RC h sp la) rfl ?_
        rw [nI_clamp (by omega), ← nI_succ, ← zmap_s (J := J) (a := 25) (n := n) (g := fun _ u => rw_v i th u) (by rw [show rw_v i th (J 25 j) = th from by rw [nI_clamp (by omega)] at c58; unfold rw_v; rw [if_pos c58]])]
        exact ih (j + 1) _ (by omega)
theorem ct_X9_row_no_4 {d : Nat} {I : zx_I} {L : zx_L} {la : Option Nat} {k i : Int32} (hno : fh_who I 4 i = none ∨ fh_who I 4 k = none) : zx_M0 mm_X9_row (d + 1) 0 0 [.ref 0, .int k, .int i] zw_SC I L (zw_RC 4 14 la) (zw_ret (some (.int (-1))) zw_SC I L (zw_RC 4 14 la)) := by
  refine zv_entry gd_X9_row (Nat.le_of_ble_eq_true rfl) ?_
  refine zv_run 7 (pc' := 13) (lo' := [some (.ref 0), some (.int k), some (.int i), some (.ref 25), none, none]) (st' := [.int i, .ref 4]) (I' := I) (L' := L) (R' := zw_RC 4 14 la) rfl ?_
  refine zv_cV (M' := mm_X5_who) (ci := 5) (a := 4) (av := [.int i]) (st := []) (r := some (va_rf (fh_who I 4 i))) (I' := I) (L' := L) (R' := zw_RC 4 14 la) rfl zc_9_85 gd_X5_who rfl rfl rfl (Nat.le_of_ble_eq_true rfl) (ct_X5_who (d := _) (Or.inl rfl)) ⟨Nat.le_refl _, Nat.le_refl _⟩ ?_
  rcases hw16 : fh_who I 4 i with _ | w1
  · refine zv_run 0 (pc' := 16) (lo' := [some (.ref 0), some (.int k), some (.int i), some (.ref 25), none, none]) (st' := [.null]) (I' := I) (L' := L) (R' := zw_RC 4 14 la) rfl ?_
    refine zv_ifnullN (tgt := 36) (zs_at rfl) (by decide) ?_
    refine zv_run 1 (pc' := 37) (lo' := [some (.ref 0), some (.int k), some (.int i), some (.ref 25), none, none]) (st' := [.int (-1)]) (I' := I) (L' := L) (R' := zw_RC 4 14 la) rfl ?_
    exact zv_iret (zs_at rfl) rfl ⟨Nat.le_refl _, Nat.le_refl _⟩ (zw_to rfl rfl rfl rfl)
  · refine zv_run 0 (pc' := 16) (lo' := [some (.ref 0), some (.int k), some (.int i), some (.ref 25), none, none]) (st' := [.ref w1]) (I' := I) (L' := L) (R' := zw_RC 4 14 la) rfl ?_
    have hw1 := fh_who_bt (Or.inl rfl) hw16
    refine zv_ifnull (zs_at rfl) ?_
    refine zv_run 3 (pc' := 24) (lo' := [some (.ref 0), some (.int k), some (.int i), some (.ref 25), none, none]) (st' := [.int k, .ref 4]) (I' := I) (L' := L) (R' := zw_RC 4 14 la) rfl ?_
    refine zv_cV (M' := mm_X5_who) (ci := 5) (a := 4) (av := [.int k]) (st := []) (r := some (va_rf (fh_who I 4 k))) (I' := I) (L' := L) (R' := zw_RC 4 14 la) rfl zc_9_85 gd_X5_who rfl rfl rfl (Nat.le_of_ble_eq_true rfl) (ct_X5_who (d := _) (Or.inl rfl)) ⟨Nat.le_refl _, Nat.le_refl _⟩ ?_
    rcases hw27 : fh_who I 4 k with _ | w2
    · refine zv_run 0 (pc' := 27) (lo' := [some (.ref 0), some (.int k), some (.int i), some (.ref 25), none, none]) (st' := [.null]) (I' := I) (L' := L) (R' := zw_RC 4 14 la) rfl ?_
      refine zv_ifnullN (tgt := 36) (zs_at rfl) (by decide) ?_
      refine zv_run 1 (pc' := 37) (lo' := [some (.ref 0), some (.int k), some (.int i), some (.ref 25), none, none]) (st' := [.int (-1)]) (I' := I) (L' := L) (R' := zw_RC 4 14 la) rfl ?_
      exact zv_iret (zs_at rfl) rfl ⟨Nat.le_refl _, Nat.le_refl _⟩ (zw_to rfl rfl rfl rfl)
    · refine zv_run 0 (pc' := 27) (lo' := [some (.ref 0), some (.int k), some (.int i), some (.ref 25), none, none]) (st' := [.ref w2]) (I' := I) (L' := L) (R' := zw_RC 4 14 la) rfl ?_
      have hw2 := fh_who_bt (Or.inl rfl) hw27
      refine zv_ifnull (zs_at rfl) ?_
      refine zv_run 3 (pc' := 33) (lo' := [some (.ref 0), some (.int k), some (.int i), some (.ref 25), none, none]) (st' := [.int 6, .int k]) (I' := I) (L' := L) (R' := zw_RC 4 14 la) rfl ?_
      refine zv_icmp_lt (tgt := 38) (zs_at rfl) (by decide) (fun c33 => ?_) (fun c33 => ?_)
      · have _c := c33
        exact absurd hno (by rw [hw16, hw27]; exact fun q => by rcases q with q | q <;> cases q)
      · exact absurd (show k < 6 from hw2.2.2.2.1) c33
theorem ct_X9_row_no_14 {d : Nat} {I : zx_I} {L : zx_L} {la : Option Nat} {k i : Int32} (hno : fh_who I 14 i = none ∨ fh_who I 14 k = none) : zx_M0 mm_X9_row (d + 1) 0 0 [.ref 0, .int k, .int i] zw_SC I L (zw_RC 14 4 la) (zw_ret (some (.int (-1))) zw_SC I L (zw_RC 14 4 la)) := by
  refine zv_entry gd_X9_row (Nat.le_of_ble_eq_true rfl) ?_
  refine zv_run 7 (pc' := 13) (lo' := [some (.ref 0), some (.int k), some (.int i), some (.ref 25), none, none]) (st' := [.int i, .ref 14]) (I' := I) (L' := L) (R' := zw_RC 14 4 la) rfl ?_
  refine zv_cV (M' := mm_X5_who) (ci := 5) (a := 14) (av := [.int i]) (st := []) (r := some (va_rf (fh_who I 14 i))) (I' := I) (L' := L) (R' := zw_RC 14 4 la) rfl zc_9_85 gd_X5_who rfl rfl rfl (Nat.le_of_ble_eq_true rfl) (ct_X5_who (d := _) (Or.inr rfl)) ⟨Nat.le_refl _, Nat.le_refl _⟩ ?_
  rcases hw16 : fh_who I 14 i with _ | w1
  · refine zv_run 0 (pc' := 16) (lo' := [some (.ref 0), some (.int k), some (.int i), some (.ref 25), none, none]) (st' := [.null]) (I' := I) (L' := L) (R' := zw_RC 14 4 la) rfl ?_
    refine zv_ifnullN (tgt := 36) (zs_at rfl) (by decide) ?_
    refine zv_run 1 (pc' := 37) (lo' := [some (.ref 0), some (.int k), some (.int i), some (.ref 25), none, none]) (st' := [.int (-1)]) (I' := I) (L' := L) (R' := zw_RC 14 4 la) rfl ?_
    exact zv_iret (zs_at rfl) rfl ⟨Nat.le_refl _, Nat.le_refl _⟩ (zw_to rfl rfl rfl rfl)
  · refine zv_run 0 (pc' := 16) (lo' := [some (.ref 0), some (.int k), some (.int i), some (.ref 25), none, none]) (st' := [.ref w1]) (I' := I) (L' := L) (R' := zw_RC 14 4 la) rfl ?_
    have hw1 := fh_who_bt (Or.inr rfl) hw16
    refine zv_ifnull (zs_at rfl) ?_
    refine zv_run 3 (pc' := 24) (lo' := [some (.ref 0), some (.int k), some (.int i), some (.ref 25), none, none]) (st' := [.int k, .ref 14]) (I' := I) (L' := L) (R' := zw_RC 14 4 la) rfl ?_
    refine zv_cV (M' := mm_X5_who) (ci := 5) (a := 14) (av := [.int k]) (st := []) (r := some (va_rf (fh_who I 14 k))) (I' := I) (L' := L) (R' := zw_RC 14 4 la) rfl zc_9_85 gd_X5_who rfl rfl rfl (Nat.le_of_ble_eq_true rfl) (ct_X5_who (d := _) (Or.inr rfl)) ⟨Nat.le_refl _, Nat.le_refl _⟩ ?_
    rcases hw27 : fh_who I 14 k with _ | w2
    · refine zv_run 0 (pc' := 27) (lo' := [some (.ref 0), some (.int k), some (.int i), some (.ref 25), none, none]) (st' := [.null]) (I' := I) (L' := L) (R' := zw_RC 14 4 la) rfl ?_
      refine zv_ifnullN (tgt := 36) (zs_at rfl) (by decide) ?_
      refine zv_run 1 (pc' := 37) (lo' := [some (.ref 0), some (.int k), some (.int i), some (.ref 25), none, none]) (st' := [.int (-1)]) (I' := I) (L' := L) (R' := zw_RC 14 4 la) rfl ?_
      exact zv_iret (zs_at rfl) rfl ⟨Nat.le_refl _, Nat.le_refl _⟩ (zw_to rfl rfl rfl rfl)
    · refine zv_run 0 (pc' := 27) (lo' := [some (.ref 0), some (.int k), some (.int i), some (.ref 25), none, none]) (st' := [.ref w2]) (I' := I) (L' := L) (R' := zw_RC 14 4 la) rfl ?_
      have hw2 := fh_who_bt (Or.inr rfl) hw27
      refine zv_ifnull (zs_at rfl) ?_
      refine zv_run 3 (pc' := 33) (lo' := [some (.ref 0), some (.int k), some (.int i), some (.ref 25), none, none]) (st' := [.int 6, .int k]) (I' := I) (L' := L) (R' := zw_RC 14 4 la) rfl ?_
      refine zv_icmp_lt (tgt := 38) (zs_at rfl) (by decide) (fun c33 => ?_) (fun c33 => ?_)
      · have _c := c33
        exact absurd hno (by rw [hw16, hw27]; exact fun q => by rcases q with q | q <;> cases q)
      · exact absurd (show k < 6 from hw2.2.2.2.1) c33
theorem ct_X9_row_no {d : Nat} {I : zx_I} {L : zx_L} {h sp : Nat} {la : Option Nat} {k i : Int32} (hh : hsp h sp) (hno : fh_who I h i = none ∨ fh_who I h k = none) : zx_M0 mm_X9_row (d + 1) 0 0 [.ref 0, .int k, .int i] zw_SC I L (zw_RC h sp la) (zw_ret (some (.int (-1))) zw_SC I L (zw_RC h sp la)) := by
  rcases hh with ⟨rfl, rfl⟩ | ⟨rfl, rfl⟩
  · exact ct_X9_row_no_4 hno
  · exact ct_X9_row_no_14 hno
theorem ct_X9_row_4 {d : Nat} {I : zx_I} {L : zx_L} {la : Option Nat} {k i : Int32} (hok : fh_who I 4 i ≠ none ∧ fh_who I 4 k ≠ none) : zx_M0 mm_X9_row (d + 1) 0 0 [.ref 0, .int k, .int i] zw_SC I L (zw_RC 4 14 la) (zw_ret (some (.int (I 25 k.toNatClampNeg))) zw_SC (q_rowm I k i) L (zw_RC 4 14 la)) := by
  refine zv_entry gd_X9_row (Nat.le_of_ble_eq_true rfl) ?_
  refine zv_run 7 (pc' := 13) (lo' := [some (.ref 0), some (.int k), some (.int i), some (.ref 25), none, none]) (st' := [.int i, .ref 4]) (I' := I) (L' := L) (R' := zw_RC 4 14 la) rfl ?_
  refine zv_cV (M' := mm_X5_who) (ci := 5) (a := 4) (av := [.int i]) (st := []) (r := some (va_rf (fh_who I 4 i))) (I' := I) (L' := L) (R' := zw_RC 4 14 la) rfl zc_9_85 gd_X5_who rfl rfl rfl (Nat.le_of_ble_eq_true rfl) (ct_X5_who (d := _) (Or.inl rfl)) ⟨Nat.le_refl _, Nat.le_refl _⟩ ?_
  rcases hw16 : fh_who I 4 i with _ | w1
  · refine zv_run 0 (pc' := 16) (lo' := [some (.ref 0), some (.int k), some (.int i), some (.ref 25), none, none]) (st' := [.null]) (I' := I) (L' := L) (R' := zw_RC 4 14 la) rfl ?_
    refine zv_ifnullN (tgt := 36) (zs_at rfl) (by decide) ?_
    refine zv_run 1 (pc' := 37) (lo' := [some (.ref 0), some (.int k), some (.int i), some (.ref 25), none, none]) (st' := [.int (-1)]) (I' := I) (L' := L) (R' := zw_RC 4 14 la) rfl ?_
    exact zv_iret (zs_at rfl) rfl ⟨Nat.le_refl _, Nat.le_refl _⟩ (absurd hok (by first | (rw [hw16]; exact fun q => q.1 rfl) | (rw [hw27]; exact fun q => q.2 rfl)))
  · refine zv_run 0 (pc' := 16) (lo' := [some (.ref 0), some (.int k), some (.int i), some (.ref 25), none, none]) (st' := [.ref w1]) (I' := I) (L' := L) (R' := zw_RC 4 14 la) rfl ?_
    have hw1 := fh_who_bt (Or.inl rfl) hw16
    refine zv_ifnull (zs_at rfl) ?_
    refine zv_run 3 (pc' := 24) (lo' := [some (.ref 0), some (.int k), some (.int i), some (.ref 25), none, none]) (st' := [.int k, .ref 4]) (I' := I) (L' := L) (R' := zw_RC 4 14 la) rfl ?_
    refine zv_cV (M' := mm_X5_who) (ci := 5) (a := 4) (av := [.int k]) (st := []) (r := some (va_rf (fh_who I 4 k))) (I' := I) (L' := L) (R' := zw_RC 4 14 la) rfl zc_9_85 gd_X5_who rfl rfl rfl (Nat.le_of_ble_eq_true rfl) (ct_X5_who (d := _) (Or.inl rfl)) ⟨Nat.le_refl _, Nat.le_refl _⟩ ?_
    rcases hw27 : fh_who I 4 k with _ | w2
    · refine zv_run 0 (pc' := 27) (lo' := [some (.ref 0), some (.int k), some (.int i), some (.ref 25), none, none]) (st' := [.null]) (I' := I) (L' := L) (R' := zw_RC 4 14 la) rfl ?_
      refine zv_ifnullN (tgt := 36) (zs_at rfl) (by decide) ?_
      refine zv_run 1 (pc' := 37) (lo' := [some (.ref 0), some (.int k), some (.int i), some (.ref 25), none, none]) (st' := [.int (-1)]) (I' := I) (L' := L) (R' := zw_RC 4 14 la) rfl ?_
      exact zv_iret (zs_at rfl) rfl ⟨Nat.le_refl _, Nat.le_refl _⟩ (absurd hok (by first | (rw [hw16]; exact fun q => q.1 rfl) | (rw [hw27]; exact fun q => q.2 rfl)))
    · refine zv_run 0 (pc' := 27) (lo' := [some (.ref 0), some (.int k), some (.int i), some (.ref 25), none, none]) (st' := [.ref w2]) (I' := I) (L' := L) (R' := zw_RC 4 14 la) rfl ?_
      have hw2 := fh_who_bt (Or.inl rfl) hw27
      refine zv_ifnull (zs_at rfl) ?_
      refine zv_run 3 (pc' := 33) (lo' := [some (.ref 0), some (.int k), some (.int i), some (.ref 25), none, none]) (st' := [.int 6, .int k]) (I' := I) (L' := L) (R' := zw_RC 4 14 la) rfl ?_
      refine zv_icmp_lt (tgt := 38) (zs_at rfl) (by decide) (fun c33 => ?_) (fun c33 => ?_)
      · have _c := c33
        refine zv_run 2 (pc' := 40) (lo' := [some (.ref 0), some (.int k), some (.int i), some (.ref 25), none, none]) (st' := [.int k, .ref 25]) (I' := I) (L' := L) (R' := zw_RC 4 14 la) rfl ?_
        refine zv_iald (zs_at rfl) rfl (zin hw2.2.1 (show k < nI 6 from hw2.2.2.2.1) (by decide)) ?_
        refine zv_run 3 (pc' := 46) (lo' := [some (.ref 0), some (.int k), some (.int i), some (.ref 25), some (.int (I 25 k.toNatClampNeg)), some (.int 0)]) (st' := []) (I' := I) (L' := L) (R' := zw_RC 4 14 la) rfl ?_
        exact lp_X9_row (zin hw2.2.1 (show k < nI 6 from hw2.2.2.2.1) (by decide)) 6 0 I (by omega)
      · exact absurd (show k < 6 from hw2.2.2.2.1) c33
theorem ct_X9_row_14 {d : Nat} {I : zx_I} {L : zx_L} {la : Option Nat} {k i : Int32} (hok : fh_who I 14 i ≠ none ∧ fh_who I 14 k ≠ none) : zx_M0 mm_X9_row (d + 1) 0 0 [.ref 0, .int k, .int i] zw_SC I L (zw_RC 14 4 la) (zw_ret (some (.int (I 25 k.toNatClampNeg))) zw_SC (q_rowm I k i) L (zw_RC 14 4 la)) := by
  refine zv_entry gd_X9_row (Nat.le_of_ble_eq_true rfl) ?_
  refine zv_run 7 (pc' := 13) (lo' := [some (.ref 0), some (.int k), some (.int i), some (.ref 25), none, none]) (st' := [.int i, .ref 14]) (I' := I) (L' := L) (R' := zw_RC 14 4 la) rfl ?_
  refine zv_cV (M' := mm_X5_who) (ci := 5) (a := 14) (av := [.int i]) (st := []) (r := some (va_rf (fh_who I 14 i))) (I' := I) (L' := L) (R' := zw_RC 14 4 la) rfl zc_9_85 gd_X5_who rfl rfl rfl (Nat.le_of_ble_eq_true rfl) (ct_X5_who (d := _) (Or.inr rfl)) ⟨Nat.le_refl _, Nat.le_refl _⟩ ?_
  rcases hw16 : fh_who I 14 i with _ | w1
  · refine zv_run 0 (pc' := 16) (lo' := [some (.ref 0), some (.int k), some (.int i), some (.ref 25), none, none]) (st' := [.null]) (I' := I) (L' := L) (R' := zw_RC 14 4 la) rfl ?_
    refine zv_ifnullN (tgt := 36) (zs_at rfl) (by decide) ?_
    refine zv_run 1 (pc' := 37) (lo' := [some (.ref 0), some (.int k), some (.int i), some (.ref 25), none, none]) (st' := [.int (-1)]) (I' := I) (L' := L) (R' := zw_RC 14 4 la) rfl ?_
    exact zv_iret (zs_at rfl) rfl ⟨Nat.le_refl _, Nat.le_refl _⟩ (absurd hok (by first | (rw [hw16]; exact fun q => q.1 rfl) | (rw [hw27]; exact fun q => q.2 rfl)))
  · refine zv_run 0 (pc' := 16) (lo' := [some (.ref 0), some (.int k), some (.int i), some (.ref 25), none, none]) (st' := [.ref w1]) (I' := I) (L' := L) (R' := zw_RC 14 4 la) rfl ?_
    have hw1 := fh_who_bt (Or.inr rfl) hw16
    refine zv_ifnull (zs_at rfl) ?_
    refine zv_run 3 (pc' := 24) (lo' := [some (.ref 0), some (.int k), some (.int i), some (.ref 25), none, none]) (st' := [.int k, .ref 14]) (I' := I) (L' := L) (R' := zw_RC 14 4 la) rfl ?_
    refine zv_cV (M' := mm_X5_who) (ci := 5) (a := 14) (av := [.int k]) (st := []) (r := some (va_rf (fh_who I 14 k))) (I' := I) (L' := L) (R' := zw_RC 14 4 la) rfl zc_9_85 gd_X5_who rfl rfl rfl (Nat.le_of_ble_eq_true rfl) (ct_X5_who (d := _) (Or.inr rfl)) ⟨Nat.le_refl _, Nat.le_refl _⟩ ?_
    rcases hw27 : fh_who I 14 k with _ | w2
    · refine zv_run 0 (pc' := 27) (lo' := [some (.ref 0), some (.int k), some (.int i), some (.ref 25), none, none]) (st' := [.null]) (I' := I) (L' := L) (R' := zw_RC 14 4 la) rfl ?_
      refine zv_ifnullN (tgt := 36) (zs_at rfl) (by decide) ?_
      refine zv_run 1 (pc' := 37) (lo' := [some (.ref 0), some (.int k), some (.int i), some (.ref 25), none, none]) (st' := [.int (-1)]) (I' := I) (L' := L) (R' := zw_RC 14 4 la) rfl ?_
      exact zv_iret (zs_at rfl) rfl ⟨Nat.le_refl _, Nat.le_refl _⟩ (absurd hok (by first | (rw [hw16]; exact fun q => q.1 rfl) | (rw [hw27]; exact fun q => q.2 rfl)))
    · refine zv_run 0 (pc' := 27) (lo' := [some (.ref 0), some (.int k), some (.int i), some (.ref 25), none, none]) (st' := [.ref w2]) (I' := I) (L' := L) (R' := zw_RC 14 4 la) rfl ?_
      have hw2 := fh_who_bt (Or.inr rfl) hw27
      refine zv_ifnull (zs_at rfl) ?_
      refine zv_run 3 (pc' := 33) (lo' := [some (.ref 0), some (.int k), some (.int i), some (.ref 25), none, none]) (st' := [.int 6, .int k]) (I' := I) (L' := L) (R' := zw_RC 14 4 la) rfl ?_
      refine zv_icmp_lt (tgt := 38) (zs_at rfl) (by decide) (fun c33 => ?_) (fun c33 => ?_)
      · have _c := c33
        refine zv_run 2 (pc' := 40) (lo' := [some (.ref 0), some (.int k), some (.int i), some (.ref 25), none, none]) (st' := [.int k, .ref 25]) (I' := I) (L' := L) (R' := zw_RC 14 4 la) rfl ?_
        refine zv_iald (zs_at rfl) rfl (zin hw2.2.1 (show k < nI 6 from hw2.2.2.2.1) (by decide)) ?_
        refine zv_run 3 (pc' := 46) (lo' := [some (.ref 0), some (.int k), some (.int i), some (.ref 25), some (.int (I 25 k.toNatClampNeg)), some (.int 0)]) (st' := []) (I' := I) (L' := L) (R' := zw_RC 14 4 la) rfl ?_
        exact lp_X9_row (zin hw2.2.1 (show k < nI 6 from hw2.2.2.2.1) (by decide)) 6 0 I (by omega)
      · exact absurd (show k < 6 from hw2.2.2.2.1) c33
theorem ct_X9_row {d : Nat} {I : zx_I} {L : zx_L} {h sp : Nat} {la : Option Nat} {k i : Int32} (hh : hsp h sp) (hok : fh_who I h i ≠ none ∧ fh_who I h k ≠ none) : zx_M0 mm_X9_row (d + 1) 0 0 [.ref 0, .int k, .int i] zw_SC I L (zw_RC h sp la) (zw_ret (some (.int (I 25 k.toNatClampNeg))) zw_SC (q_rowm I k i) L (zw_RC h sp la)) := by
  rcases hh with ⟨rfl, rfl⟩ | ⟨rfl, rfl⟩
  · exact ct_X9_row_4 hok
  · exact ct_X9_row_14 hok
def fb_become (I : zx_I) (w : Nat) : zx_I := zx_uI (zx_uI (zx_uI (zx_uI (zx_uI (zx_uI (zx_uI (zx_uI I w 1 (fi_num I 0)) w 2 (fi_num I 1)) w 3 (fi_num I 2)) w 4 (fi_num I 3)) w 5 (fi_num I 4)) w 6 (fi_num I 5)) w 7 0) w 8 0
theorem fi_num_cg {I J : zx_I} {k : Int32} (h2 : J 2 = I 2) (h3 : J 3 = I 3) : fi_num J k = fi_num I k := by unfold fi_num; rw [h2, h3]
theorem ct_X2_become {d : Nat} {I : zx_I} {L : zx_L} {h sp : Nat} {la : Option Nat} {ww : Nat} (hb : bt ww) : zx_M0 mm_X2_become (d + 1) 0 0 [.ref ww, .ref 2] zw_SC I L (zw_RC h sp la) (zw_ret none zw_SC (fb_become I ww) L (zw_RC h sp la)) := by
  have hn2 : (2 : Nat) ≠ ww := by unfold bt at hb; omega
  have hn3 : (3 : Nat) ≠ ww := by unfold bt at hb; omega
  refine zv_entry gd_X2_become (Nat.le_of_ble_eq_true rfl) ?_
  refine zv_run 3 (pc' := 3) (lo' := [some (.ref ww), some (.ref 2)]) (st' := [.int 0, .ref 2, .ref ww]) (I' := I) (L' := L) (R' := zw_RC h sp la) rfl ?_
  refine zv_cV (M' := mm_X6_number) (ci := 6) (a := 2) (av := [.int 0]) (st := [.ref ww]) (r := some (.int (fi_num I 0))) (I' := I) (L' := L) (R' := zw_RC h sp la) rfl zc_2_15 gd_X6_number rfl rfl rfl (Nat.le_of_ble_eq_true rfl) (ct_X6_number (d := _) (I := I)) ⟨Nat.le_refl _, Nat.le_refl _⟩ ?_
  refine zv_run 0 (pc' := 6) (lo' := [some (.ref ww), some (.ref 2)]) (st' := [.int (fi_num I 0), .ref ww]) (I' := I) (L' := L) (R' := zw_RC h sp la) rfl ?_
  refine zs_putI (ci := 2) (k := 1) (zs_at rfl) (zf_ok rfl) (bt_S hb) (Or.inl rfl) rfl (fun q => absurd q (by decide)) ?_
  refine zv_run 3 (pc' := 12) (lo' := [some (.ref ww), some (.ref 2)]) (st' := [.int 1, .ref 2, .ref ww]) (I' := (zx_uI I ww 1 (fi_num I 0))) (L' := L) (R' := zw_RC h sp la) rfl ?_
  refine zv_cV (M' := mm_X6_number) (ci := 6) (a := 2) (av := [.int 1]) (st := [.ref ww]) (r := some (.int (fi_num I 1))) (I' := (zx_uI I ww 1 (fi_num I 0))) (L' := L) (R' := zw_RC h sp la) rfl zc_2_15 gd_X6_number rfl rfl rfl (Nat.le_of_ble_eq_true rfl) (by have q := ct_X6_number (d := d) (I := (zx_uI I ww 1 (fi_num I 0))) (L := L) (h := h) (sp := sp) (la := la) (k := 1); rw [fi_num_cg (I := I) (J := (zx_uI I ww 1 (fi_num I 0))) (by rw [zx_uI_ne hn2]) (by rw [zx_uI_ne hn3])] at q; exact q) ⟨Nat.le_refl _, Nat.le_refl _⟩ ?_
  refine zv_run 0 (pc' := 15) (lo' := [some (.ref ww), some (.ref 2)]) (st' := [.int (fi_num I 1), .ref ww]) (I' := (zx_uI I ww 1 (fi_num I 0))) (L' := L) (R' := zw_RC h sp la) rfl ?_
  refine zs_putI (ci := 2) (k := 2) (zs_at rfl) (zf_ok rfl) (bt_S hb) (Or.inl rfl) rfl (fun q => absurd q (by decide)) ?_
  refine zv_run 3 (pc' := 21) (lo' := [some (.ref ww), some (.ref 2)]) (st' := [.int 2, .ref 2, .ref ww]) (I' := (zx_uI (zx_uI I ww 1 (fi_num I 0)) ww 2 (fi_num I 1))) (L' := L) (R' := zw_RC h sp la) rfl ?_
  refine zv_cV (M' := mm_X6_number) (ci := 6) (a := 2) (av := [.int 2]) (st := [.ref ww]) (r := some (.int (fi_num I 2))) (I' := (zx_uI (zx_uI I ww 1 (fi_num I 0)) ww 2 (fi_num I 1))) (L' := L) (R' := zw_RC h sp la) rfl zc_2_15 gd_X6_number rfl rfl rfl (Nat.le_of_ble_eq_true rfl) (by have q := ct_X6_number (d := d) (I := (zx_uI (zx_uI I ww 1 (fi_num I 0)) ww 2 (fi_num I 1))) (L := L) (h := h) (sp := sp) (la := la) (k := 2); rw [fi_num_cg (I := I) (J := (zx_uI (zx_uI I ww 1 (fi_num I 0)) ww 2 (fi_num I 1))) (by rw [zx_uI_ne hn2, zx_uI_ne hn2]) (by rw [zx_uI_ne hn3, zx_uI_ne hn3])] at q; exact q) ⟨Nat.le_refl _, Nat.le_refl _⟩ ?_
  refine zv_run 0 (pc' := 24) (lo' := [some (.ref ww), some (.ref 2)]) (st' := [.int (fi_num I 2), .ref ww]) (I' := (zx_uI (zx_uI I ww 1 (fi_num I 0)) ww 2 (fi_num I 1))) (L' := L) (R' := zw_RC h sp la) rfl ?_
  refine zs_putI (ci := 2) (k := 3) (zs_at rfl) (zf_ok rfl) (bt_S hb) (Or.inl rfl) rfl (fun q => absurd q (by decide)) ?_
  refine zv_run 3 (pc' := 30) (lo' := [some (.ref ww), some (.ref 2)]) (st' := [.int 3, .ref 2, .ref ww]) (I' := (zx_uI (zx_uI (zx_uI I ww 1 (fi_num I 0)) ww 2 (fi_num I 1)) ww 3 (fi_num I 2))) (L' := L) (R' := zw_RC h sp la) rfl ?_
  refine zv_cV (M' := mm_X6_number) (ci := 6) (a := 2) (av := [.int 3]) (st := [.ref ww]) (r := some (.int (fi_num I 3))) (I' := (zx_uI (zx_uI (zx_uI I ww 1 (fi_num I 0)) ww 2 (fi_num I 1)) ww 3 (fi_num I 2))) (L' := L) (R' := zw_RC h sp la) rfl zc_2_15 gd_X6_number rfl rfl rfl (Nat.le_of_ble_eq_true rfl) (by have q := ct_X6_number (d := d) (I := (zx_uI (zx_uI (zx_uI I ww 1 (fi_num I 0)) ww 2 (fi_num I 1)) ww 3 (fi_num I 2))) (L := L) (h := h) (sp := sp) (la := la) (k := 3); rw [fi_num_cg (I := I) (J := (zx_uI (zx_uI (zx_uI I ww 1 (fi_num I 0)) ww 2 (fi_num I 1)) ww 3 (fi_num I 2))) (by rw [zx_uI_ne hn2, zx_uI_ne hn2, zx_uI_ne hn2]) (by rw [zx_uI_ne hn3, zx_uI_ne hn3, zx_uI_ne hn3])] at q; exact q) ⟨Nat.le_refl _, Nat.le_refl _⟩ ?_
  refine zv_run 0 (pc' := 33) (lo' := [some (.ref ww), some (.ref 2)]) (st' := [.int (fi_num I 3), .ref ww]) (I' := (zx_uI (zx_uI (zx_uI I ww 1 (fi_num I 0)) ww 2 (fi_num I 1)) ww 3 (fi_num I 2))) (L' := L) (R' := zw_RC h sp la) rfl ?_
  refine zs_putI (ci := 2) (k := 4) (zs_at rfl) (zf_ok rfl) (bt_S hb) (Or.inl rfl) rfl (fun q => absurd q (by decide)) ?_
  refine zv_run 3 (pc' := 39) (lo' := [some (.ref ww), some (.ref 2)]) (st' := [.int 4, .ref 2, .ref ww]) (I' := (zx_uI (zx_uI (zx_uI (zx_uI I ww 1 (fi_num I 0)) ww 2 (fi_num I 1)) ww 3 (fi_num I 2)) ww 4 (fi_num I 3))) (L' := L) (R' := zw_RC h sp la) rfl ?_
  refine zv_cV (M' := mm_X6_number) (ci := 6) (a := 2) (av := [.int 4]) (st := [.ref ww]) (r := some (.int (fi_num I 4))) (I' := (zx_uI (zx_uI (zx_uI (zx_uI I ww 1 (fi_num I 0)) ww 2 (fi_num I 1)) ww 3 (fi_num I 2)) ww 4 (fi_num I 3))) (L' := L) (R' := zw_RC h sp la) rfl zc_2_15 gd_X6_number rfl rfl rfl (Nat.le_of_ble_eq_true rfl) (by have q := ct_X6_number (d := d) (I := (zx_uI (zx_uI (zx_uI (zx_uI I ww 1 (fi_num I 0)) ww 2 (fi_num I 1)) ww 3 (fi_num I 2)) ww 4 (fi_num I 3))) (L := L) (h := h) (sp := sp) (la := la) (k := 4); rw [fi_num_cg (I := I) (J := (zx_uI (zx_uI (zx_uI (zx_uI I ww 1 (fi_num I 0)) ww 2 (fi_num I 1)) ww 3 (fi_num I 2)) ww 4 (fi_num I 3))) (by rw [zx_uI_ne hn2, zx_uI_ne hn2, zx_uI_ne hn2, zx_uI_ne hn2]) (by rw [zx_uI_ne hn3, zx_uI_ne hn3, zx_uI_ne hn3, zx_uI_ne hn3])] at q; exact q) ⟨Nat.le_refl _, Nat.le_refl _⟩ ?_
  refine zv_run 0 (pc' := 42) (lo' := [some (.ref ww), some (.ref 2)]) (st' := [.int (fi_num I 4), .ref ww]) (I' := (zx_uI (zx_uI (zx_uI (zx_uI I ww 1 (fi_num I 0)) ww 2 (fi_num I 1)) ww 3 (fi_num I 2)) ww 4 (fi_num I 3))) (L' := L) (R' := zw_RC h sp la) rfl ?_
  refine zs_putI (ci := 2) (k := 5) (zs_at rfl) (zf_ok rfl) (bt_S hb) (Or.inl rfl) rfl (fun q => absurd q (by decide)) ?_
  refine zv_run 3 (pc' := 48) (lo' := [some (.ref ww), some (.ref 2)]) (st' := [.int 5, .ref 2, .ref ww]) (I' := (zx_uI (zx_uI (zx_uI (zx_uI (zx_uI I ww 1 (fi_num I 0)) ww 2 (fi_num I 1)) ww 3 (fi_num I 2)) ww 4 (fi_num I 3)) ww 5 (fi_num I 4))) (L' := L) (R' := zw_RC h sp la) rfl ?_
  refine zv_cV (M' := mm_X6_number) (ci := 6) (a := 2) (av := [.int 5]) (st := [.ref ww]) (r := some (.int (fi_num I 5))) (I' := (zx_uI (zx_uI (zx_uI (zx_uI (zx_uI I ww 1 (fi_num I 0)) ww 2 (fi_num I 1)) ww 3 (fi_num I 2)) ww 4 (fi_num I 3)) ww 5 (fi_num I 4))) (L' := L) (R' := zw_RC h sp la) rfl zc_2_15 gd_X6_number rfl rfl rfl (Nat.le_of_ble_eq_true rfl) (by have q := ct_X6_number (d := d) (I := (zx_uI (zx_uI (zx_uI (zx_uI (zx_uI I ww 1 (fi_num I 0)) ww 2 (fi_num I 1)) ww 3 (fi_num I 2)) ww 4 (fi_num I 3)) ww 5 (fi_num I 4))) (L := L) (h := h) (sp := sp) (la := la) (k := 5); rw [fi_num_cg (I := I) (J := (zx_uI (zx_uI (zx_uI (zx_uI (zx_uI I ww 1 (fi_num I 0)) ww 2 (fi_num I 1)) ww 3 (fi_num I 2)) ww 4 (fi_num I 3)) ww 5 (fi_num I 4))) (by rw [zx_uI_ne hn2, zx_uI_ne hn2, zx_uI_ne hn2, zx_uI_ne hn2, zx_uI_ne hn2]) (by rw [zx_uI_ne hn3, zx_uI_ne hn3, zx_uI_ne hn3, zx_uI_ne hn3, zx_uI_ne hn3])] at q; exact q) ⟨Nat.le_refl _, Nat.le_refl _⟩ ?_
  refine zv_run 0 (pc' := 51) (lo' := [some (.ref ww), some (.ref 2)]) (st' := [.int (fi_num I 5), .ref ww]) (I' := (zx_uI (zx_uI (zx_uI (zx_uI (zx_uI I ww 1 (fi_num I 0)) ww 2 (fi_num I 1)) ww 3 (fi_num I 2)) ww 4 (fi_num I 3)) ww 5 (fi_num I 4))) (L' := L) (R' := zw_RC h sp la) rfl ?_
  refine zs_putI (ci := 2) (k := 6) (zs_at rfl) (zf_ok rfl) (bt_S hb) (Or.inl rfl) rfl (fun q => absurd q (by decide)) ?_
  refine zv_run 2 (pc' := 56) (lo' := [some (.ref ww), some (.ref 2)]) (st' := [.int 0, .ref ww]) (I' := (zx_uI (zx_uI (zx_uI (zx_uI (zx_uI (zx_uI I ww 1 (fi_num I 0)) ww 2 (fi_num I 1)) ww 3 (fi_num I 2)) ww 4 (fi_num I 3)) ww 5 (fi_num I 4)) ww 6 (fi_num I 5))) (L' := L) (R' := zw_RC h sp la) rfl ?_
  refine zs_putI (ci := 2) (k := 7) (zs_at rfl) (zf_ok rfl) (bt_S hb) (Or.inl rfl) rfl (fun q => absurd q (by decide)) ?_
  refine zv_run 2 (pc' := 61) (lo' := [some (.ref ww), some (.ref 2)]) (st' := [.int 0, .ref ww]) (I' := (zx_uI (zx_uI (zx_uI (zx_uI (zx_uI (zx_uI (zx_uI I ww 1 (fi_num I 0)) ww 2 (fi_num I 1)) ww 3 (fi_num I 2)) ww 4 (fi_num I 3)) ww 5 (fi_num I 4)) ww 6 (fi_num I 5)) ww 7 0)) (L' := L) (R' := zw_RC h sp la) rfl ?_
  refine zs_putI (ci := 2) (k := 8) (zs_at rfl) (zf_ok rfl) (bt_S hb) (Or.inl rfl) rfl (fun q => absurd q (by decide)) ?_
  exact zv_vret (zs_at rfl) rfl ⟨Nat.le_refl _, Nat.le_refl _⟩ (zw_to rfl rfl rfl rfl)
def fh_grow (I : zx_I) (a : Nat) (k : Int32) : zx_I := if k ≠ 0 then (if k ≠ 1 then (if k ≠ 2 then zx_uI I a 9 (if 30 < I a 9 + 10 then 30 else I a 9 + 10) else zmap I (a + 1) (fun _ u => u + u / 10) 1 3) else zx_uI I a 5 (I a 5 / 2)) else zx_uI I a 1 (I a 1 + 1)
theorem lp_X5_grow_4 {d : Nat} {L : zx_L} {h sp : Nat} {la : Option Nat} {k : Int32} : ∀ (n j : Nat) (J : zx_I), j + n = 4 → zx_V mm_X5_grow d z0 (zw_ret none zw_SC (zmap J 5 (fun _ u => u + u / 10) j n) L (zw_RC h sp la)) zw_SC 42 [some (.ref 4), some (.int k), some (.int (nI j))] [] J L (zw_RC h sp la) := by
  intro n
  induction n with
  | zero =>
    intro j J hm
    rw [zmap_0]
    refine zv_run 2 (pc' := 44) (lo' := [some (.ref 4), some (.int k), some (.int (nI j))]) (st' := [.int 3, .int (nI j)]) (I' := J) (L' := L) (R' := zw_RC h sp la) rfl ?_
    refine zv_icmp_gt (tgt := 71) (zs_at rfl) (by decide) (fun c44 => ?_) (fun c44 => ?_)
    · have _c := c44
      refine zv_run 1 (pc' := 90) (lo' := [some (.ref 4), some (.int k), some (.int (nI j))]) (st' := []) (I' := J) (L' := L) (R' := zw_RC h sp la) rfl ?_
      exact zv_vret (zs_at rfl) rfl ⟨Nat.le_refl _, Nat.le_refl _⟩ (zw_to rfl rfl rfl rfl)
    · exact absurd (by rw [show j = 4 by omega]; decide) c44
  | succ n ih =>
    intro j J hm
    refine zv_run 2 (pc' := 44) (lo' := [some (.ref 4), some (.int k), some (.int (nI j))]) (st' := [.int 3, .int (nI j)]) (I' := J) (L' := L) (R' := zw_RC h sp la) rfl ?_
    refine zv_icmp_gt (tgt := 71) (zs_at rfl) (by decide) (fun c44 => ?_) (fun c44 => ?_)
    · exact absurd c44 (by exact nI_nlt (a := 3) (b := j) (by omega) (by decide))
    · have _c := c44
      refine zv_run 4 (pc' := 53) (lo' := [some (.ref 4), some (.int k), some (.int (nI j))]) (st' := [.int (nI j), .ref 5, .int (nI j), .ref 5]) (I' := J) (L' := L) (R' := zw_RC h sp la) rfl ?_
      refine zv_iald (zs_at rfl) rfl (vp_in_nI (by omega) (by decide)) ?_
      refine zv_run 3 (pc' := 59) (lo' := [some (.ref 4), some (.int k), some (.int (nI j))]) (st' := [.int (nI j), .ref 5, .int (J 5 ((nI j).toNatClampNeg)), .int (nI j), .ref 5]) (I' := J) (L' := L) (R' := zw_RC h sp la) rfl ?_
      refine zv_iald (zs_at rfl) rfl (vp_in_nI (by omega) (by decide)) ?_
      refine zv_run 3 (pc' := 64) (lo' := [some (.ref 4), some (.int k), some (.int (nI j))]) (st' := [.int ((J 5 ((nI j).toNatClampNeg)) + ((J 5 ((nI j).toNatClampNeg)) / 10)), .int (nI j), .ref 5]) (I' := J) (L' := L) (R' := zw_RC h sp la) rfl ?_
      refine zv_iast (zs_at rfl) rfl (vp_in_nI (by omega) (by decide)) ?_
      refine zv_run 2 (pc' := 42) (lo' := [some (.ref 4), some (.int k), some (.int ((nI j) + 1))]) (st' := []) (I' := (zx_uI J 5 ((nI j).toNatClampNeg) ((J 5 ((nI j).toNatClampNeg)) + ((J 5 ((nI j).toNatClampNeg)) / 10)))) (L' := L) (R' := zw_RC h sp la) rfl ?_
      rw [nI_clamp (by omega), ← nI_succ, ← zmap_s (J := J) (a := 5) (n := n) (g := fun _ u => u + u / 10) rfl]
      exact ih (j + 1) _ (by omega)
theorem lp_X5_grow_14 {d : Nat} {L : zx_L} {h sp : Nat} {la : Option Nat} {k : Int32} : ∀ (n j : Nat) (J : zx_I), j + n = 4 → zx_V mm_X5_grow d z0 (zw_ret none zw_SC (zmap J 15 (fun _ u => u + u / 10) j n) L (zw_RC h sp la)) zw_SC 42 [some (.ref 14), some (.int k), some (.int (nI j))] [] J L (zw_RC h sp la) := by
  intro n
  induction n with
  | zero =>
    intro j J hm
    rw [zmap_0]
    refine zv_run 2 (pc' := 44) (lo' := [some (.ref 14), some (.int k), some (.int (nI j))]) (st' := [.int 3, .int (nI j)]) (I' := J) (L' := L) (R' := zw_RC h sp la) rfl ?_
    refine zv_icmp_gt (tgt := 71) (zs_at rfl) (by decide) (fun c44 => ?_) (fun c44 => ?_)
    · have _c := c44
      refine zv_run 1 (pc' := 90) (lo' := [some (.ref 14), some (.int k), some (.int (nI j))]) (st' := []) (I' := J) (L' := L) (R' := zw_RC h sp la) rfl ?_
      exact zv_vret (zs_at rfl) rfl ⟨Nat.le_refl _, Nat.le_refl _⟩ (zw_to rfl rfl rfl rfl)
    · exact absurd (by rw [show j = 4 by omega]; decide) c44
  | succ n ih =>
    intro j J hm
    refine zv_run 2 (pc' := 44) (lo' := [some (.ref 14), some (.int k), some (.int (nI j))]) (st' := [.int 3, .int (nI j)]) (I' := J) (L' := L) (R' := zw_RC h sp la) rfl ?_
    refine zv_icmp_gt (tgt := 71) (zs_at rfl) (by decide) (fun c44 => ?_) (fun c44 => ?_)
    · exact absurd c44 (by exact nI_nlt (a := 3) (b := j) (by omega) (by decide))
    · have _c := c44
      refine zv_run 4 (pc' := 53) (lo' := [some (.ref 14), some (.int k), some (.int (nI j))]) (st' := [.int (nI j), .ref 15, .int (nI j), .ref 15]) (I' := J) (L' := L) (R' := zw_RC h sp la) rfl ?_
      refine zv_iald (zs_at rfl) rfl (vp_in_nI (by omega) (by decide)) ?_
      refine zv_run 3 (pc' := 59) (lo' := [some (.ref 14), some (.int k), some (.int (nI j))]) (st' := [.int (nI j), .ref 15, .int (J 15 ((nI j).toNatClampNeg)), .int (nI j), .ref 15]) (I' := J) (L' := L) (R' := zw_RC h sp la) rfl ?_
      refine zv_iald (zs_at rfl) rfl (vp_in_nI (by omega) (by decide)) ?_
      refine zv_run 3 (pc' := 64) (lo' := [some (.ref 14), some (.int k), some (.int (nI j))]) (st' := [.int ((J 15 ((nI j).toNatClampNeg)) + ((J 15 ((nI j).toNatClampNeg)) / 10)), .int (nI j), .ref 15]) (I' := J) (L' := L) (R' := zw_RC h sp la) rfl ?_
      refine zv_iast (zs_at rfl) rfl (vp_in_nI (by omega) (by decide)) ?_
      refine zv_run 2 (pc' := 42) (lo' := [some (.ref 14), some (.int k), some (.int ((nI j) + 1))]) (st' := []) (I' := (zx_uI J 15 ((nI j).toNatClampNeg) ((J 15 ((nI j).toNatClampNeg)) + ((J 15 ((nI j).toNatClampNeg)) / 10)))) (L' := L) (R' := zw_RC h sp la) rfl ?_
      rw [nI_clamp (by omega), ← nI_succ, ← zmap_s (J := J) (a := 15) (n := n) (g := fun _ u => u + u / 10) rfl]
      exact ih (j + 1) _ (by omega)
theorem ct_X5_grow {d : Nat} {I : zx_I} {L : zx_L} {h sp : Nat} {la : Option Nat} {a : Nat} {k : Int32} (ha : a = 4 ∨ a = 14)  : zx_M0 mm_X5_grow (d + 1) 0 0 [.ref a, .int k] zw_SC I L (zw_RC h sp la) (zw_ret (none) zw_SC (fh_grow I a k) L (zw_RC h sp la)) := by
  rcases ha with rfl | rfl
  · refine zv_entry gd_X5_grow (Nat.le_of_ble_eq_true rfl) ?_
    refine zv_run 1 (pc' := 1) (lo' := [some (.ref 4), some (.int k), none]) (st' := [.int k]) (I' := I) (L' := L) (R' := zw_RC h sp la) rfl ?_
    refine zv_if_ne (tgt := 17) (zs_at rfl) (by decide) (fun c1 => ?_) (fun c1 => ?_)
    · have _c := c1
      refine zv_run 2 (pc' := 19) (lo' := [some (.ref 4), some (.int k), none]) (st' := [.int 1, .int k]) (I' := I) (L' := L) (R' := zw_RC h sp la) rfl ?_
      refine zv_icmp_ne (tgt := 35) (zs_at rfl) (by decide) (fun c19 => ?_) (fun c19 => ?_)
      · have _c := c19
        refine zv_run 2 (pc' := 37) (lo' := [some (.ref 4), some (.int k), none]) (st' := [.int 2, .int k]) (I' := I) (L' := L) (R' := zw_RC h sp la) rfl ?_
        refine zv_icmp_ne (tgt := 74) (zs_at rfl) (by decide) (fun c37 => ?_) (fun c37 => ?_)
        · have _c := c37
          refine zv_run 6 (pc' := 84) (lo' := [some (.ref 4), some (.int k), none]) (st' := [.int 30, .int ((I 4 9) + 10), .ref 4]) (I' := I) (L' := L) (R' := zw_RC h sp la) rfl ?_
          refine zv_min rfl zm_5_78 (Nat.le_of_ble_eq_true rfl) ⟨Nat.le_refl _, Nat.le_refl _⟩ ?_
          refine zv_run 1 (pc' := 90) (lo' := [some (.ref 4), some (.int k), none]) (st' := []) (I' := (zx_uI I 4 9 (if 30 < ((I 4 9) + 10) then 30 else ((I 4 9) + 10)))) (L' := L) (R' := zw_RC h sp la) rfl ?_
          exact zv_vret (zs_at rfl) rfl ⟨Nat.le_refl _, Nat.le_refl _⟩ (zw_to rfl (by unfold fh_grow; first | (rw [if_neg (fun q => q c1)]; done) | (rw [if_pos c1, if_neg (fun q => q c19)]; done) | (rw [if_pos c1, if_pos c19, if_pos c37]; done)) rfl rfl)
        · have _c := c37
          refine zv_run 2 (pc' := 42) (lo' := [some (.ref 4), some (.int k), some (.int 1)]) (st' := []) (I' := I) (L' := L) (R' := zw_RC h sp la) rfl ?_
          rw [show fh_grow I 4 k = zmap I 5 (fun _ u => u + u / 10) 1 3 from by unfold fh_grow; rw [if_pos c1, if_pos c19, if_neg (fun q => q c37)]]
          exact lp_X5_grow_4 3 1 I (by omega)
      · have _c := c19
        refine zv_run 7 (pc' := 90) (lo' := [some (.ref 4), some (.int k), none]) (st' := []) (I' := (zx_uI I 4 5 ((I 4 5) / 2))) (L' := L) (R' := zw_RC h sp la) rfl ?_
        exact zv_vret (zs_at rfl) rfl ⟨Nat.le_refl _, Nat.le_refl _⟩ (zw_to rfl (by unfold fh_grow; first | (rw [if_neg (fun q => q c1)]; done) | (rw [if_pos c1, if_neg (fun q => q c19)]; done) | (rw [if_pos c1, if_pos c19, if_pos c37]; done)) rfl rfl)
    · have _c := c1
      refine zv_run 7 (pc' := 90) (lo' := [some (.ref 4), some (.int k), none]) (st' := []) (I' := (zx_uI I 4 1 ((I 4 1) + 1))) (L' := L) (R' := zw_RC h sp la) rfl ?_
      exact zv_vret (zs_at rfl) rfl ⟨Nat.le_refl _, Nat.le_refl _⟩ (zw_to rfl (by unfold fh_grow; first | (rw [if_neg (fun q => q c1)]; done) | (rw [if_pos c1, if_neg (fun q => q c19)]; done) | (rw [if_pos c1, if_pos c19, if_pos c37]; done)) rfl rfl)
  · refine zv_entry gd_X5_grow (Nat.le_of_ble_eq_true rfl) ?_
    refine zv_run 1 (pc' := 1) (lo' := [some (.ref 14), some (.int k), none]) (st' := [.int k]) (I' := I) (L' := L) (R' := zw_RC h sp la) rfl ?_
    refine zv_if_ne (tgt := 17) (zs_at rfl) (by decide) (fun c1 => ?_) (fun c1 => ?_)
    · have _c := c1
      refine zv_run 2 (pc' := 19) (lo' := [some (.ref 14), some (.int k), none]) (st' := [.int 1, .int k]) (I' := I) (L' := L) (R' := zw_RC h sp la) rfl ?_
      refine zv_icmp_ne (tgt := 35) (zs_at rfl) (by decide) (fun c19 => ?_) (fun c19 => ?_)
      · have _c := c19
        refine zv_run 2 (pc' := 37) (lo' := [some (.ref 14), some (.int k), none]) (st' := [.int 2, .int k]) (I' := I) (L' := L) (R' := zw_RC h sp la) rfl ?_
        refine zv_icmp_ne (tgt := 74) (zs_at rfl) (by decide) (fun c37 => ?_) (fun c37 => ?_)
        · have _c := c37
          refine zv_run 6 (pc' := 84) (lo' := [some (.ref 14), some (.int k), none]) (st' := [.int 30, .int ((I 14 9) + 10), .ref 14]) (I' := I) (L' := L) (R' := zw_RC h sp la) rfl ?_
          refine zv_min rfl zm_5_78 (Nat.le_of_ble_eq_true rfl) ⟨Nat.le_refl _, Nat.le_refl _⟩ ?_
          refine zv_run 1 (pc' := 90) (lo' := [some (.ref 14), some (.int k), none]) (st' := []) (I' := (zx_uI I 14 9 (if 30 < ((I 14 9) + 10) then 30 else ((I 14 9) + 10)))) (L' := L) (R' := zw_RC h sp la) rfl ?_
          exact zv_vret (zs_at rfl) rfl ⟨Nat.le_refl _, Nat.le_refl _⟩ (zw_to rfl (by unfold fh_grow; first | (rw [if_neg (fun q => q c1)]; done) | (rw [if_pos c1, if_neg (fun q => q c19)]; done) | (rw [if_pos c1, if_pos c19, if_pos c37]; done)) rfl rfl)
        · have _c := c37
          refine zv_run 2 (pc' := 42) (lo' := [some (.ref 14), some (.int k), some (.int 1)]) (st' := []) (I' := I) (L' := L) (R' := zw_RC h sp la) rfl ?_
          rw [show fh_grow I 14 k = zmap I 15 (fun _ u => u + u / 10) 1 3 from by unfold fh_grow; rw [if_pos c1, if_pos c19, if_neg (fun q => q c37)]]
          exact lp_X5_grow_14 3 1 I (by omega)
      · have _c := c19
        refine zv_run 7 (pc' := 90) (lo' := [some (.ref 14), some (.int k), none]) (st' := []) (I' := (zx_uI I 14 5 ((I 14 5) / 2))) (L' := L) (R' := zw_RC h sp la) rfl ?_
        exact zv_vret (zs_at rfl) rfl ⟨Nat.le_refl _, Nat.le_refl _⟩ (zw_to rfl (by unfold fh_grow; first | (rw [if_neg (fun q => q c1)]; done) | (rw [if_pos c1, if_neg (fun q => q c19)]; done) | (rw [if_pos c1, if_pos c19, if_pos c37]; done)) rfl rfl)
    · have _c := c1
      refine zv_run 7 (pc' := 90) (lo' := [some (.ref 14), some (.int k), none]) (st' := []) (I' := (zx_uI I 14 1 ((I 14 1) + 1))) (L' := L) (R' := zw_RC h sp la) rfl ?_
      exact zv_vret (zs_at rfl) rfl ⟨Nat.le_refl _, Nat.le_refl _⟩ (zw_to rfl (by unfold fh_grow; first | (rw [if_neg (fun q => q c1)]; done) | (rw [if_pos c1, if_neg (fun q => q c19)]; done) | (rw [if_pos c1, if_pos c19, if_pos c37]; done)) rfl rfl)
