/-! wishes, items, the houses' small methods -/
theorem lp_X0_rowByNumbers {d : Nat} {L : zx_L} {h sp : Nat} {la : Option Nat}  : ∀ (n j : Nat) (J : zx_I), j + n = 6 → zx_V mm_X0_rowByNumbers (d + 0) z0 (zw_ret none zw_SC (zmap J 35 (fun k _ => nI k) j n) L (zw_RC h sp la)) zw_SC 2 [some (.ref 34), some (.int (nI j))] [] J L (zw_RC h sp la) := by
  intro n
  induction n with
  | zero =>
    intro j J hm
    rw [zmap_0]
    refine zv_run 4 (pc' := 8) (lo' := [some (.ref 34), some (.int (nI j))]) (st' := [.int 6, .int (nI j)]) (I' := J) (L' := L) (R' := zw_RC h sp la) rfl ?_
    refine zv_icmp_ge (tgt := 24) (zs_at rfl) (by decide) (fun c8 => ?_) (fun c8 => ?_)
    · have _c := c8
      exact zv_vret (zs_at rfl) rfl ⟨Nat.le_refl _, Nat.le_refl _⟩ (zw_to rfl rfl rfl rfl)
    · exact absurd (by rw [show j = 6 by omega]; exact (by decide)) c8
  | succ n ih =>
    intro j J hm
    refine zv_run 4 (pc' := 8) (lo' := [some (.ref 34), some (.int (nI j))]) (st' := [.int 6, .int (nI j)]) (I' := J) (L' := L) (R' := zw_RC h sp la) rfl ?_
    refine zv_icmp_ge (tgt := 24) (zs_at rfl) (by decide) (fun c8 => ?_) (fun c8 => ?_)
    · exact absurd c8 (by exact nI_ge (a := j) (b := 6) (by omega) (by decide))
    · have _c := c8
      refine zv_run 4 (pc' := 17) (lo' := [some (.ref 34), some (.int (nI j))]) (st' := [.int (nI j), .int (nI j), .ref 35]) (I' := J) (L' := L) (R' := zw_RC h sp la) rfl ?_
      refine zv_iast (zs_at rfl) rfl (vp_in_nI (by omega) (by decide)) ?_
      refine zv_run 2 (pc' := 2) (lo' := [some (.ref 34), some (.int ((nI j) + 1))]) (st' := []) (I' := (zx_uI J 35 ((nI j).toNatClampNeg) (nI j))) (L' := L) (R' := zw_RC h sp la) rfl ?_
      rw [nI_clamp (by omega), ← nI_succ, ← zmap_s (J := J) (n := n) (g := fun k _ => nI k) rfl]
      exact ih (j + 1) _ (by omega)
theorem ct_X0_rowByNumbers {d : Nat} {I : zx_I} {L : zx_L} {h sp : Nat} {la : Option Nat}   : zx_M0 mm_X0_rowByNumbers (d + 0) 0 0 [.ref 34] zw_SC I L (zw_RC h sp la) (zw_ret (none) zw_SC (zmap I 35 (fun k _ => nI k) 0 6) L (zw_RC h sp la)) := by
  refine zv_entry gd_X0_rowByNumbers (Nat.le_of_ble_eq_true rfl) ?_
  refine zv_run 2 (pc' := 2) (lo' := [some (.ref 34), some (.int 0)]) (st' := []) (I' := I) (L' := L) (R' := zw_RC h sp la) rfl ?_
  exact lp_X0_rowByNumbers 6 0 I (by omega)
def fw_ten (k : Nat) : Int32 := if k = 0 then 10 else 0
def fw_clear (I : zx_I) (a : Nat) : zx_I := zmap (zx_uI (zmap I (a + 1) (fun k _ => nI k) 0 6) a 1 50) (a + 2) (fun k _ => fw_ten k) 0 6
def fw_like (I : zx_I) (a b : Nat) : zx_I := zcp (zx_uI (zcp I (b + 1) (a + 1) 6) a 1 (I b 1)) (b + 2) (a + 2) 6
theorem lp2_X8_clear_24 {d : Nat} {L : zx_L} {h sp : Nat} {la : Option Nat}  : ∀ (n j : Nat) (J : zx_I), j + n = 6 → zx_V mm_X8_clear (d + 0) z0 (zw_ret none zw_SC (zmap J 26 (fun k _ => fw_ten k) j n) L (zw_RC h sp la)) zw_SC 37 [some (.ref 24), some (.int (nI j))] [] J L (zw_RC h sp la) := by
  intro n
  induction n with
  | zero =>
    intro j J hm
    rw [zmap_0]
    refine zv_run 4 (pc' := 43) (lo' := [some (.ref 24), some (.int (nI j))]) (st' := [.int 6, .int (nI j)]) (I' := J) (L' := L) (R' := zw_RC h sp la) rfl ?_
    refine zv_icmp_ge (tgt := 68) (zs_at rfl) (by decide) (fun c43 => ?_) (fun c43 => ?_)
    · have _c := c43
      exact zv_vret (zs_at rfl) rfl ⟨Nat.le_refl _, Nat.le_refl _⟩ (zw_to rfl rfl rfl rfl)
    · exact absurd (by rw [show j = 6 by omega]; exact (by decide)) c43
  | succ n ih =>
    intro j J hm
    refine zv_run 4 (pc' := 43) (lo' := [some (.ref 24), some (.int (nI j))]) (st' := [.int 6, .int (nI j)]) (I' := J) (L' := L) (R' := zw_RC h sp la) rfl ?_
    refine zv_icmp_ge (tgt := 68) (zs_at rfl) (by decide) (fun c43 => ?_) (fun c43 => ?_)
    · exact absurd c43 (by exact nI_ge (a := j) (b := 6) (by omega) (by decide))
    · have _c := c43
      refine zv_run 4 (pc' := 52) (lo' := [some (.ref 24), some (.int (nI j))]) (st' := [.int (nI j), .int (nI j), .ref 26]) (I' := J) (L' := L) (R' := zw_RC h sp la) rfl ?_
      refine zv_if_ne (tgt := 60) (zs_at rfl) (by decide) (fun c52 => ?_) (fun c52 => ?_)
      · have _c := c52
        refine zv_run 1 (pc' := 61) (lo' := [some (.ref 24), some (.int (nI j))]) (st' := [.int 0, .int (nI j), .ref 26]) (I' := J) (L' := L) (R' := zw_RC h sp la) rfl ?_
        refine zv_iast (zs_at rfl) rfl (vp_in_nI (by omega) (by decide)) ?_
        refine zv_run 2 (pc' := 37) (lo' := [some (.ref 24), some (.int ((nI j) + 1))]) (st' := []) (I' := (zx_uI J 26 ((nI j).toNatClampNeg) 0)) (L' := L) (R' := zw_RC h sp la) rfl ?_
        rw [nI_clamp (by omega), ← nI_succ, ← zmap_s (J := J) (a := 26) (n := n) (g := fun k _ => fw_ten k) (by rw [show fw_ten j = 0 from by unfold fw_ten; rw [if_neg (fun q => by subst q; exact c52 rfl)]])]
        exact ih (j + 1) _ (by omega)
      · have _c := c52
        refine zv_run 2 (pc' := 61) (lo' := [some (.ref 24), some (.int (nI j))]) (st' := [.int 10, .int (nI j), .ref 26]) (I' := J) (L' := L) (R' := zw_RC h sp la) rfl ?_
        refine zv_iast (zs_at rfl) rfl (vp_in_nI (by omega) (by decide)) ?_
        refine zv_run 2 (pc' := 37) (lo' := [some (.ref 24), some (.int ((nI j) + 1))]) (st' := []) (I' := (zx_uI J 26 ((nI j).toNatClampNeg) 10)) (L' := L) (R' := zw_RC h sp la) rfl ?_
        rw [nI_clamp (by omega), ← nI_succ, ← zmap_s (J := J) (a := 26) (n := n) (g := fun k _ => fw_ten k) (by rw [show fw_ten j = 10 from by unfold fw_ten; rw [if_pos ((nI_eq (a := j) (b := 0) (by omega) (by omega)).mp (show nI j = nI 0 from c52))]])]
        exact ih (j + 1) _ (by omega)
theorem lp1_X8_clear_24 {d : Nat} {L : zx_L} {h sp : Nat} {la : Option Nat}  : ∀ (n j : Nat) (J : zx_I), j + n = 6 → zx_V mm_X8_clear (d + 0) z0 (zw_ret none zw_SC (zmap (zx_uI (zmap J 25 (fun k _ => nI k) j n) 24 1 50) 26 (fun k _ => fw_ten k) 0 6) (zx_uL L 24 2 0) (zw_RC h sp la)) zw_SC 2 [some (.ref 24), some (.int (nI j))] [] J L (zw_RC h sp la) := by
  intro n
  induction n with
  | zero =>
    intro j J hm
    rw [zmap_0]
    refine zv_run 4 (pc' := 8) (lo' := [some (.ref 24), some (.int (nI j))]) (st' := [.int 6, .int (nI j)]) (I' := J) (L' := L) (R' := zw_RC h sp la) rfl ?_
    refine zv_icmp_ge (tgt := 24) (zs_at rfl) (by decide) (fun c8 => ?_) (fun c8 => ?_)
    · have _c := c8
      refine zv_run 8 (pc' := 37) (lo' := [some (.ref 24), some (.int 0)]) (st' := []) (I' := (zx_uI J 24 1 50)) (L' := (zx_uL L 24 2 (0 : Int64))) (R' := zw_RC h sp la) rfl ?_
      exact lp2_X8_clear_24 6 0 _ (by omega)
    · exact absurd (by rw [show j = 6 by omega]; exact (by decide)) c8
  | succ n ih =>
    intro j J hm
    refine zv_run 4 (pc' := 8) (lo' := [some (.ref 24), some (.int (nI j))]) (st' := [.int 6, .int (nI j)]) (I' := J) (L' := L) (R' := zw_RC h sp la) rfl ?_
    refine zv_icmp_ge (tgt := 24) (zs_at rfl) (by decide) (fun c8 => ?_) (fun c8 => ?_)
    · exact absurd c8 (by exact nI_ge (a := j) (b := 6) (by omega) (by decide))
    · have _c := c8
      refine zv_run 4 (pc' := 17) (lo' := [some (.ref 24), some (.int (nI j))]) (st' := [.int (nI j), .int (nI j), .ref 25]) (I' := J) (L' := L) (R' := zw_RC h sp la) rfl ?_
      refine zv_iast (zs_at rfl) rfl (vp_in_nI (by omega) (by decide)) ?_
      refine zv_run 2 (pc' := 2) (lo' := [some (.ref 24), some (.int ((nI j) + 1))]) (st' := []) (I' := (zx_uI J 25 ((nI j).toNatClampNeg) (nI j))) (L' := L) (R' := zw_RC h sp la) rfl ?_
      rw [nI_clamp (by omega), ← nI_succ, ← zmap_s (J := J) (a := 25) (n := n) (g := fun k _ => nI k) rfl]
      exact ih (j + 1) _ (by omega)
theorem ct_X8_clear_24 {d : Nat} {I : zx_I} {L : zx_L} {h sp : Nat} {la : Option Nat} : zx_M0 mm_X8_clear (d + 0) 0 0 [.ref 24] zw_SC I L (zw_RC h sp la) (zw_ret none zw_SC (fw_clear I 24) (zx_uL L 24 2 0) (zw_RC h sp la)) := by
  refine zv_entry gd_X8_clear (Nat.le_of_ble_eq_true rfl) ?_
  refine zv_run 2 (pc' := 2) (lo' := [some (.ref 24), some (.int 0)]) (st' := []) (I' := I) (L' := L) (R' := zw_RC h sp la) rfl ?_
  exact lp1_X8_clear_24 6 0 I (by omega)
theorem lp2_X8_clear_28 {d : Nat} {L : zx_L} {h sp : Nat} {la : Option Nat}  : ∀ (n j : Nat) (J : zx_I), j + n = 6 → zx_V mm_X8_clear (d + 0) z0 (zw_ret none zw_SC (zmap J 30 (fun k _ => fw_ten k) j n) L (zw_RC h sp la)) zw_SC 37 [some (.ref 28), some (.int (nI j))] [] J L (zw_RC h sp la) := by
  intro n
  induction n with
  | zero =>
    intro j J hm
    rw [zmap_0]
    refine zv_run 4 (pc' := 43) (lo' := [some (.ref 28), some (.int (nI j))]) (st' := [.int 6, .int (nI j)]) (I' := J) (L' := L) (R' := zw_RC h sp la) rfl ?_
    refine zv_icmp_ge (tgt := 68) (zs_at rfl) (by decide) (fun c43 => ?_) (fun c43 => ?_)
    · have _c := c43
      exact zv_vret (zs_at rfl) rfl ⟨Nat.le_refl _, Nat.le_refl _⟩ (zw_to rfl rfl rfl rfl)
    · exact absurd (by rw [show j = 6 by omega]; exact (by decide)) c43
  | succ n ih =>
    intro j J hm
    refine zv_run 4 (pc' := 43) (lo' := [some (.ref 28), some (.int (nI j))]) (st' := [.int 6, .int (nI j)]) (I' := J) (L' := L) (R' := zw_RC h sp la) rfl ?_
    refine zv_icmp_ge (tgt := 68) (zs_at rfl) (by decide) (fun c43 => ?_) (fun c43 => ?_)
    · exact absurd c43 (by exact nI_ge (a := j) (b := 6) (by omega) (by decide))
    · have _c := c43
      refine zv_run 4 (pc' := 52) (lo' := [some (.ref 28), some (.int (nI j))]) (st' := [.int (nI j), .int (nI j), .ref 30]) (I' := J) (L' := L) (R' := zw_RC h sp la) rfl ?_
      refine zv_if_ne (tgt := 60) (zs_at rfl) (by decide) (fun c52 => ?_) (fun c52 => ?_)
      · have _c := c52
        refine zv_run 1 (pc' := 61) (lo' := [some (.ref 28), some (.int (nI j))]) (st' := [.int 0, .int (nI j), .ref 30]) (I' := J) (L' := L) (R' := zw_RC h sp la) rfl ?_
        refine zv_iast (zs_at rfl) rfl (vp_in_nI (by omega) (by decide)) ?_
        refine zv_run 2 (pc' := 37) (lo' := [some (.ref 28), some (.int ((nI j) + 1))]) (st' := []) (I' := (zx_uI J 30 ((nI j).toNatClampNeg) 0)) (L' := L) (R' := zw_RC h sp la) rfl ?_
        rw [nI_clamp (by omega), ← nI_succ, ← zmap_s (J := J) (a := 30) (n := n) (g := fun k _ => fw_ten k) (by rw [show fw_ten j = 0 from by unfold fw_ten; rw [if_neg (fun q => by subst q; exact c52 rfl)]])]
        exact ih (j + 1) _ (by omega)
      · have _c := c52
        refine zv_run 2 (pc' := 61) (lo' := [some (.ref 28), some (.int (nI j))]) (st' := [.int 10, .int (nI j), .ref 30]) (I' := J) (L' := L) (R' := zw_RC h sp la) rfl ?_
        refine zv_iast (zs_at rfl) rfl (vp_in_nI (by omega) (by decide)) ?_
        refine zv_run 2 (pc' := 37) (lo' := [some (.ref 28), some (.int ((nI j) + 1))]) (st' := []) (I' := (zx_uI J 30 ((nI j).toNatClampNeg) 10)) (L' := L) (R' := zw_RC h sp la) rfl ?_
        rw [nI_clamp (by omega), ← nI_succ, ← zmap_s (J := J) (a := 30) (n := n) (g := fun k _ => fw_ten k) (by rw [show fw_ten j = 10 from by unfold fw_ten; rw [if_pos ((nI_eq (a := j) (b := 0) (by omega) (by omega)).mp (show nI j = nI 0 from c52))]])]
        exact ih (j + 1) _ (by omega)
theorem lp1_X8_clear_28 {d : Nat} {L : zx_L} {h sp : Nat} {la : Option Nat}  : ∀ (n j : Nat) (J : zx_I), j + n = 6 → zx_V mm_X8_clear (d + 0) z0 (zw_ret none zw_SC (zmap (zx_uI (zmap J 29 (fun k _ => nI k) j n) 28 1 50) 30 (fun k _ => fw_ten k) 0 6) (zx_uL L 28 2 0) (zw_RC h sp la)) zw_SC 2 [some (.ref 28), some (.int (nI j))] [] J L (zw_RC h sp la) := by
  intro n
  induction n with
  | zero =>
    intro j J hm
    rw [zmap_0]
    refine zv_run 4 (pc' := 8) (lo' := [some (.ref 28), some (.int (nI j))]) (st' := [.int 6, .int (nI j)]) (I' := J) (L' := L) (R' := zw_RC h sp la) rfl ?_
    refine zv_icmp_ge (tgt := 24) (zs_at rfl) (by decide) (fun c8 => ?_) (fun c8 => ?_)
    · have _c := c8
      refine zv_run 8 (pc' := 37) (lo' := [some (.ref 28), some (.int 0)]) (st' := []) (I' := (zx_uI J 28 1 50)) (L' := (zx_uL L 28 2 (0 : Int64))) (R' := zw_RC h sp la) rfl ?_
      exact lp2_X8_clear_28 6 0 _ (by omega)
    · exact absurd (by rw [show j = 6 by omega]; exact (by decide)) c8
  | succ n ih =>
    intro j J hm
    refine zv_run 4 (pc' := 8) (lo' := [some (.ref 28), some (.int (nI j))]) (st' := [.int 6, .int (nI j)]) (I' := J) (L' := L) (R' := zw_RC h sp la) rfl ?_
    refine zv_icmp_ge (tgt := 24) (zs_at rfl) (by decide) (fun c8 => ?_) (fun c8 => ?_)
    · exact absurd c8 (by exact nI_ge (a := j) (b := 6) (by omega) (by decide))
    · have _c := c8
      refine zv_run 4 (pc' := 17) (lo' := [some (.ref 28), some (.int (nI j))]) (st' := [.int (nI j), .int (nI j), .ref 29]) (I' := J) (L' := L) (R' := zw_RC h sp la) rfl ?_
      refine zv_iast (zs_at rfl) rfl (vp_in_nI (by omega) (by decide)) ?_
      refine zv_run 2 (pc' := 2) (lo' := [some (.ref 28), some (.int ((nI j) + 1))]) (st' := []) (I' := (zx_uI J 29 ((nI j).toNatClampNeg) (nI j))) (L' := L) (R' := zw_RC h sp la) rfl ?_
      rw [nI_clamp (by omega), ← nI_succ, ← zmap_s (J := J) (a := 29) (n := n) (g := fun k _ => nI k) rfl]
      exact ih (j + 1) _ (by omega)
theorem ct_X8_clear_28 {d : Nat} {I : zx_I} {L : zx_L} {h sp : Nat} {la : Option Nat} : zx_M0 mm_X8_clear (d + 0) 0 0 [.ref 28] zw_SC I L (zw_RC h sp la) (zw_ret none zw_SC (fw_clear I 28) (zx_uL L 28 2 0) (zw_RC h sp la)) := by
  refine zv_entry gd_X8_clear (Nat.le_of_ble_eq_true rfl) ?_
  refine zv_run 2 (pc' := 2) (lo' := [some (.ref 28), some (.int 0)]) (st' := []) (I' := I) (L' := L) (R' := zw_RC h sp la) rfl ?_
  exact lp1_X8_clear_28 6 0 I (by omega)
theorem lp2_X8_clear_31 {d : Nat} {L : zx_L} {h sp : Nat} {la : Option Nat}  : ∀ (n j : Nat) (J : zx_I), j + n = 6 → zx_V mm_X8_clear (d + 0) z0 (zw_ret none zw_SC (zmap J 33 (fun k _ => fw_ten k) j n) L (zw_RC h sp la)) zw_SC 37 [some (.ref 31), some (.int (nI j))] [] J L (zw_RC h sp la) := by
  intro n
  induction n with
  | zero =>
    intro j J hm
    rw [zmap_0]
    refine zv_run 4 (pc' := 43) (lo' := [some (.ref 31), some (.int (nI j))]) (st' := [.int 6, .int (nI j)]) (I' := J) (L' := L) (R' := zw_RC h sp la) rfl ?_
    refine zv_icmp_ge (tgt := 68) (zs_at rfl) (by decide) (fun c43 => ?_) (fun c43 => ?_)
    · have _c := c43
      exact zv_vret (zs_at rfl) rfl ⟨Nat.le_refl _, Nat.le_refl _⟩ (zw_to rfl rfl rfl rfl)
    · exact absurd (by rw [show j = 6 by omega]; exact (by decide)) c43
  | succ n ih =>
    intro j J hm
    refine zv_run 4 (pc' := 43) (lo' := [some (.ref 31), some (.int (nI j))]) (st' := [.int 6, .int (nI j)]) (I' := J) (L' := L) (R' := zw_RC h sp la) rfl ?_
    refine zv_icmp_ge (tgt := 68) (zs_at rfl) (by decide) (fun c43 => ?_) (fun c43 => ?_)
    · exact absurd c43 (by exact nI_ge (a := j) (b := 6) (by omega) (by decide))
    · have _c := c43
      refine zv_run 4 (pc' := 52) (lo' := [some (.ref 31), some (.int (nI j))]) (st' := [.int (nI j), .int (nI j), .ref 33]) (I' := J) (L' := L) (R' := zw_RC h sp la) rfl ?_
      refine zv_if_ne (tgt := 60) (zs_at rfl) (by decide) (fun c52 => ?_) (fun c52 => ?_)
      · have _c := c52
        refine zv_run 1 (pc' := 61) (lo' := [some (.ref 31), some (.int (nI j))]) (st' := [.int 0, .int (nI j), .ref 33]) (I' := J) (L' := L) (R' := zw_RC h sp la) rfl ?_
        refine zv_iast (zs_at rfl) rfl (vp_in_nI (by omega) (by decide)) ?_
        refine zv_run 2 (pc' := 37) (lo' := [some (.ref 31), some (.int ((nI j) + 1))]) (st' := []) (I' := (zx_uI J 33 ((nI j).toNatClampNeg) 0)) (L' := L) (R' := zw_RC h sp la) rfl ?_
        rw [nI_clamp (by omega), ← nI_succ, ← zmap_s (J := J) (a := 33) (n := n) (g := fun k _ => fw_ten k) (by rw [show fw_ten j = 0 from by unfold fw_ten; rw [if_neg (fun q => by subst q; exact c52 rfl)]])]
        exact ih (j + 1) _ (by omega)
      · have _c := c52
        refine zv_run 2 (pc' := 61) (lo' := [some (.ref 31), some (.int (nI j))]) (st' := [.int 10, .int (nI j), .ref 33]) (I' := J) (L' := L) (R' := zw_RC h sp la) rfl ?_
        refine zv_iast (zs_at rfl) rfl (vp_in_nI (by omega) (by decide)) ?_
        refine zv_run 2 (pc' := 37) (lo' := [some (.ref 31), some (.int ((nI j) + 1))]) (st' := []) (I' := (zx_uI J 33 ((nI j).toNatClampNeg) 10)) (L' := L) (R' := zw_RC h sp la) rfl ?_
        rw [nI_clamp (by omega), ← nI_succ, ← zmap_s (J := J) (a := 33) (n := n) (g := fun k _ => fw_ten k) (by rw [show fw_ten j = 10 from by unfold fw_ten; rw [if_pos ((nI_eq (a := j) (b := 0) (by omega) (by omega)).mp (show nI j = nI 0 from c52))]])]
        exact ih (j + 1) _ (by omega)
theorem lp1_X8_clear_31 {d : Nat} {L : zx_L} {h sp : Nat} {la : Option Nat}  : ∀ (n j : Nat) (J : zx_I), j + n = 6 → zx_V mm_X8_clear (d + 0) z0 (zw_ret none zw_SC (zmap (zx_uI (zmap J 32 (fun k _ => nI k) j n) 31 1 50) 33 (fun k _ => fw_ten k) 0 6) (zx_uL L 31 2 0) (zw_RC h sp la)) zw_SC 2 [some (.ref 31), some (.int (nI j))] [] J L (zw_RC h sp la) := by
  intro n
  induction n with
  | zero =>
    intro j J hm
    rw [zmap_0]
    refine zv_run 4 (pc' := 8) (lo' := [some (.ref 31), some (.int (nI j))]) (st' := [.int 6, .int (nI j)]) (I' := J) (L' := L) (R' := zw_RC h sp la) rfl ?_
    refine zv_icmp_ge (tgt := 24) (zs_at rfl) (by decide) (fun c8 => ?_) (fun c8 => ?_)
    · have _c := c8
      refine zv_run 8 (pc' := 37) (lo' := [some (.ref 31), some (.int 0)]) (st' := []) (I' := (zx_uI J 31 1 50)) (L' := (zx_uL L 31 2 (0 : Int64))) (R' := zw_RC h sp la) rfl ?_
      exact lp2_X8_clear_31 6 0 _ (by omega)
    · exact absurd (by rw [show j = 6 by omega]; exact (by decide)) c8
  | succ n ih =>
    intro j J hm
    refine zv_run 4 (pc' := 8) (lo' := [some (.ref 31), some (.int (nI j))]) (st' := [.int 6, .int (nI j)]) (I' := J) (L' := L) (R' := zw_RC h sp la) rfl ?_
    refine zv_icmp_ge (tgt := 24) (zs_at rfl) (by decide) (fun c8 => ?_) (fun c8 => ?_)
    · exact absurd c8 (by exact nI_ge (a := j) (b := 6) (by omega) (by decide))
    · have _c := c8
      refine zv_run 4 (pc' := 17) (lo' := [some (.ref 31), some (.int (nI j))]) (st' := [.int (nI j), .int (nI j), .ref 32]) (I' := J) (L' := L) (R' := zw_RC h sp la) rfl ?_
      refine zv_iast (zs_at rfl) rfl (vp_in_nI (by omega) (by decide)) ?_
      refine zv_run 2 (pc' := 2) (lo' := [some (.ref 31), some (.int ((nI j) + 1))]) (st' := []) (I' := (zx_uI J 32 ((nI j).toNatClampNeg) (nI j))) (L' := L) (R' := zw_RC h sp la) rfl ?_
      rw [nI_clamp (by omega), ← nI_succ, ← zmap_s (J := J) (a := 32) (n := n) (g := fun k _ => nI k) rfl]
      exact ih (j + 1) _ (by omega)
theorem ct_X8_clear_31 {d : Nat} {I : zx_I} {L : zx_L} {h sp : Nat} {la : Option Nat} : zx_M0 mm_X8_clear (d + 0) 0 0 [.ref 31] zw_SC I L (zw_RC h sp la) (zw_ret none zw_SC (fw_clear I 31) (zx_uL L 31 2 0) (zw_RC h sp la)) := by
  refine zv_entry gd_X8_clear (Nat.le_of_ble_eq_true rfl) ?_
  refine zv_run 2 (pc' := 2) (lo' := [some (.ref 31), some (.int 0)]) (st' := []) (I' := I) (L' := L) (R' := zw_RC h sp la) rfl ?_
  exact lp1_X8_clear_31 6 0 I (by omega)
theorem ct_X8_becomeLike_28_24 {d : Nat} {I : zx_I} {L : zx_L} {h sp : Nat} {la : Option Nat}   : zx_M0 mm_X8_becomeLike (d + 1) 0 0 [.ref 28, .ref 24] zw_SC I L (zw_RC h sp la) (zw_ret (none) zw_SC (fw_like I 28 24) (zx_uL L 28 2 (L 24 2)) (zw_RC h sp la)) := by
  refine zv_entry gd_X8_becomeLike (Nat.le_of_ble_eq_true rfl) ?_
  refine zv_run 9 (pc' := 15) (lo' := [some (.ref 28), some (.ref 24)]) (st' := [.int 6, .int 0, .ref 29, .int 0, .ref 25]) (I' := I) (L' := L) (R' := zw_RC h sp la) rfl ?_
  refine zv_copy (a0 := 25) (a := 29) rfl zm_8_29 rfl rfl (by decide) (by decide) (by decide) (Nat.le_of_ble_eq_true rfl) ?_
  refine zv_run 0 (pc' := 18) (lo' := [some (.ref 28), some (.ref 24)]) (st' := []) (I' := (zcp I 25 29 6)) (L' := L) (R' := zw_RC h sp la) rfl ?_
  refine zv_run 17 (pc' := 49) (lo' := [some (.ref 28), some (.ref 24)]) (st' := [.int 6, .int 0, .ref 30, .int 0, .ref 26]) (I' := (zx_uI (zcp I 25 29 6) 28 1 (I 24 1))) (L' := (zx_uL L 28 2 (L 24 2))) (R' := zw_RC h sp la) rfl ?_
  refine zv_copy (a0 := 26) (a := 30) rfl zm_8_29 rfl rfl (by decide) (by decide) (by decide) (Nat.le_of_ble_eq_true rfl) ?_
  refine zv_run 0 (pc' := 52) (lo' := [some (.ref 28), some (.ref 24)]) (st' := []) (I' := (zcp (zx_uI (zcp I 25 29 6) 28 1 (I 24 1)) 26 30 6)) (L' := (zx_uL L 28 2 (L 24 2))) (R' := zw_RC h sp la) rfl ?_
  exact zv_vret (zs_at rfl) rfl ⟨Nat.le_refl _, Nat.le_refl _⟩ (zw_to rfl rfl rfl rfl)
theorem ct_X8_becomeLike_31_24 {d : Nat} {I : zx_I} {L : zx_L} {h sp : Nat} {la : Option Nat}   : zx_M0 mm_X8_becomeLike (d + 1) 0 0 [.ref 31, .ref 24] zw_SC I L (zw_RC h sp la) (zw_ret (none) zw_SC (fw_like I 31 24) (zx_uL L 31 2 (L 24 2)) (zw_RC h sp la)) := by
  refine zv_entry gd_X8_becomeLike (Nat.le_of_ble_eq_true rfl) ?_
  refine zv_run 9 (pc' := 15) (lo' := [some (.ref 31), some (.ref 24)]) (st' := [.int 6, .int 0, .ref 32, .int 0, .ref 25]) (I' := I) (L' := L) (R' := zw_RC h sp la) rfl ?_
  refine zv_copy (a0 := 25) (a := 32) rfl zm_8_29 rfl rfl (by decide) (by decide) (by decide) (Nat.le_of_ble_eq_true rfl) ?_
  refine zv_run 0 (pc' := 18) (lo' := [some (.ref 31), some (.ref 24)]) (st' := []) (I' := (zcp I 25 32 6)) (L' := L) (R' := zw_RC h sp la) rfl ?_
  refine zv_run 17 (pc' := 49) (lo' := [some (.ref 31), some (.ref 24)]) (st' := [.int 6, .int 0, .ref 33, .int 0, .ref 26]) (I' := (zx_uI (zcp I 25 32 6) 31 1 (I 24 1))) (L' := (zx_uL L 31 2 (L 24 2))) (R' := zw_RC h sp la) rfl ?_
  refine zv_copy (a0 := 26) (a := 33) rfl zm_8_29 rfl rfl (by decide) (by decide) (by decide) (Nat.le_of_ble_eq_true rfl) ?_
  refine zv_run 0 (pc' := 52) (lo' := [some (.ref 31), some (.ref 24)]) (st' := []) (I' := (zcp (zx_uI (zcp I 25 32 6) 31 1 (I 24 1)) 26 33 6)) (L' := (zx_uL L 31 2 (L 24 2))) (R' := zw_RC h sp la) rfl ?_
  exact zv_vret (zs_at rfl) rfl ⟨Nat.le_refl _, Nat.le_refl _⟩ (zw_to rfl rfl rfl rfl)
theorem ct_X8_becomeLike_24_28 {d : Nat} {I : zx_I} {L : zx_L} {h sp : Nat} {la : Option Nat}   : zx_M0 mm_X8_becomeLike (d + 1) 0 0 [.ref 24, .ref 28] zw_SC I L (zw_RC h sp la) (zw_ret (none) zw_SC (fw_like I 24 28) (zx_uL L 24 2 (L 28 2)) (zw_RC h sp la)) := by
  refine zv_entry gd_X8_becomeLike (Nat.le_of_ble_eq_true rfl) ?_
  refine zv_run 9 (pc' := 15) (lo' := [some (.ref 24), some (.ref 28)]) (st' := [.int 6, .int 0, .ref 25, .int 0, .ref 29]) (I' := I) (L' := L) (R' := zw_RC h sp la) rfl ?_
  refine zv_copy (a0 := 29) (a := 25) rfl zm_8_29 rfl rfl (by decide) (by decide) (by decide) (Nat.le_of_ble_eq_true rfl) ?_
  refine zv_run 0 (pc' := 18) (lo' := [some (.ref 24), some (.ref 28)]) (st' := []) (I' := (zcp I 29 25 6)) (L' := L) (R' := zw_RC h sp la) rfl ?_
  refine zv_run 17 (pc' := 49) (lo' := [some (.ref 24), some (.ref 28)]) (st' := [.int 6, .int 0, .ref 26, .int 0, .ref 30]) (I' := (zx_uI (zcp I 29 25 6) 24 1 (I 28 1))) (L' := (zx_uL L 24 2 (L 28 2))) (R' := zw_RC h sp la) rfl ?_
  refine zv_copy (a0 := 30) (a := 26) rfl zm_8_29 rfl rfl (by decide) (by decide) (by decide) (Nat.le_of_ble_eq_true rfl) ?_
  refine zv_run 0 (pc' := 52) (lo' := [some (.ref 24), some (.ref 28)]) (st' := []) (I' := (zcp (zx_uI (zcp I 29 25 6) 24 1 (I 28 1)) 30 26 6)) (L' := (zx_uL L 24 2 (L 28 2))) (R' := zw_RC h sp la) rfl ?_
  exact zv_vret (zs_at rfl) rfl ⟨Nat.le_refl _, Nat.le_refl _⟩ (zw_to rfl rfl rfl rfl)
theorem ct_X8_becomeLike_24_31 {d : Nat} {I : zx_I} {L : zx_L} {h sp : Nat} {la : Option Nat}   : zx_M0 mm_X8_becomeLike (d + 1) 0 0 [.ref 24, .ref 31] zw_SC I L (zw_RC h sp la) (zw_ret (none) zw_SC (fw_like I 24 31) (zx_uL L 24 2 (L 31 2)) (zw_RC h sp la)) := by
  refine zv_entry gd_X8_becomeLike (Nat.le_of_ble_eq_true rfl) ?_
  refine zv_run 9 (pc' := 15) (lo' := [some (.ref 24), some (.ref 31)]) (st' := [.int 6, .int 0, .ref 25, .int 0, .ref 32]) (I' := I) (L' := L) (R' := zw_RC h sp la) rfl ?_
  refine zv_copy (a0 := 32) (a := 25) rfl zm_8_29 rfl rfl (by decide) (by decide) (by decide) (Nat.le_of_ble_eq_true rfl) ?_
  refine zv_run 0 (pc' := 18) (lo' := [some (.ref 24), some (.ref 31)]) (st' := []) (I' := (zcp I 32 25 6)) (L' := L) (R' := zw_RC h sp la) rfl ?_
  refine zv_run 17 (pc' := 49) (lo' := [some (.ref 24), some (.ref 31)]) (st' := [.int 6, .int 0, .ref 26, .int 0, .ref 33]) (I' := (zx_uI (zcp I 32 25 6) 24 1 (I 31 1))) (L' := (zx_uL L 24 2 (L 31 2))) (R' := zw_RC h sp la) rfl ?_
  refine zv_copy (a0 := 33) (a := 26) rfl zm_8_29 rfl rfl (by decide) (by decide) (by decide) (Nat.le_of_ble_eq_true rfl) ?_
  refine zv_run 0 (pc' := 52) (lo' := [some (.ref 24), some (.ref 31)]) (st' := []) (I' := (zcp (zx_uI (zcp I 32 25 6) 24 1 (I 31 1)) 33 26 6)) (L' := (zx_uL L 24 2 (L 31 2))) (R' := zw_RC h sp la) rfl ?_
  exact zv_vret (zs_at rfl) rfl ⟨Nat.le_refl _, Nat.le_refl _⟩ (zw_to rfl rfl rfl rfl)
theorem lp_X8_sumOfTenths {d : Nat} {I : zx_I} {L : zx_L} {h sp : Nat} {la : Option Nat} : ∀ (n j : Nat) (x5 : Option Value), j + n = 6 → zx_V mm_X8_sumOfTenths d z0 (zw_ret (some (.int (ut_sum (I 26) 6))) zw_SC I L (zw_RC h sp la)) zw_SC 13 [some (.ref 24), some (.int (ut_sum (I 26) j)), some (.ref 26), some (.int 6), some (.int (nI j)), x5] [] I L (zw_RC h sp la) := by
  intro n
  induction n with
  | zero =>
    intro j x5 hm
    refine zv_run 2 (pc' := 16) (lo' := [some (.ref 24), some (.int (ut_sum (I 26) j)), some (.ref 26), some (.int 6), some (.int (nI j)), x5]) (st' := [.int 6, .int (nI j)]) (I' := I) (L' := L) (R' := zw_RC h sp la) rfl ?_
    refine zv_icmp_ge (tgt := 36) (zs_at rfl) (by decide) (fun c16 => ?_) (fun c16 => ?_)
    · have _c := c16
      refine zv_run 1 (pc' := 37) (lo' := [some (.ref 24), some (.int (ut_sum (I 26) j)), some (.ref 26), some (.int 6), some (.int (nI j)), x5]) (st' := [.int (ut_sum (I 26) j)]) (I' := I) (L' := L) (R' := zw_RC h sp la) rfl ?_
      exact zv_iret (zs_at rfl) rfl ⟨Nat.le_refl _, Nat.le_refl _⟩ (zw_to (by rw [show j = 6 by omega]) rfl rfl rfl)
    · exact absurd (by rw [show j = 6 by omega]; exact (by decide)) c16
  | succ n ih =>
    intro j x5 hm
    refine zv_run 2 (pc' := 16) (lo' := [some (.ref 24), some (.int (ut_sum (I 26) j)), some (.ref 26), some (.int 6), some (.int (nI j)), x5]) (st' := [.int 6, .int (nI j)]) (I' := I) (L' := L) (R' := zw_RC h sp la) rfl ?_
    refine zv_icmp_ge (tgt := 36) (zs_at rfl) (by decide) (fun c16 => ?_) (fun c16 => ?_)
    · exact absurd c16 (by exact nI_ge (a := j) (b := 6) (by omega) (by decide))
    · have _c := c16
      refine zv_run 2 (pc' := 22) (lo' := [some (.ref 24), some (.int (ut_sum (I 26) j)), some (.ref 26), some (.int 6), some (.int (nI j)), x5]) (st' := [.int (nI j), .ref 26]) (I' := I) (L' := L) (R' := zw_RC h sp la) rfl ?_
      refine zv_iald (zs_at rfl) rfl (vp_in_nI (by omega) (by decide)) ?_
      refine zv_run 7 (pc' := 13) (lo' := [some (.ref 24), some (.int ((ut_sum (I 26) j) + (I 26 ((nI j).toNatClampNeg)))), some (.ref 26), some (.int 6), some (.int ((nI j) + 1)), some (.int (I 26 ((nI j).toNatClampNeg)))]) (st' := []) (I' := I) (L' := L) (R' := zw_RC h sp la) rfl ?_
      rw [nI_clamp (by omega), ← nI_succ]
      exact ih (j + 1) _ (by omega)
theorem ct_X8_sumOfTenths {d : Nat} {I : zx_I} {L : zx_L} {h sp : Nat} {la : Option Nat}   : zx_M0 mm_X8_sumOfTenths (d + 0) 0 0 [.ref 24] zw_SC I L (zw_RC h sp la) (zw_ret (some (.int (ut_sum (I 26) 6))) zw_SC I L (zw_RC h sp la)) := by
  refine zv_entry gd_X8_sumOfTenths (Nat.le_of_ble_eq_true rfl) ?_
  refine zv_run 10 (pc' := 13) (lo' := [some (.ref 24), some (.int 0), some (.ref 26), some (.int 6), some (.int 0), none]) (st' := []) (I' := I) (L' := L) (R' := zw_RC h sp la) rfl ?_
  exact lp_X8_sumOfTenths 6 0 none (by omega)
def fi_num (I : zx_I) (k : Int32) : Int32 := if k < 0 then -4 else if k ≥ I 2 2 then -4 else if k < 6 then I 3 k.toNatClampNeg else -4
def fi_in (I : zx_I) (k l m : Int32) : Int32 := if fi_num I k < l then 0 else if fi_num I k > m then 0 else 1
def fi_one (I : zx_I) (l m : Int32) : Int32 := if I 2 2 ≠ 1 then 0 else if fi_in I 0 l m = 0 then 0 else 1
def fi_pair (I : zx_I) (n : Int32) : Int32 := if I 2 2 ≠ 2 then 0 else if fi_in I 0 0 (n - 1) = 0 then 0 else if fi_in I 1 0 (n - 1) = 0 then 0 else if fi_num I 0 = fi_num I 1 then 0 else 1
theorem ct_X6_number {d : Nat} {I : zx_I} {L : zx_L} {h sp : Nat} {la : Option Nat} {k : Int32}  : zx_M0 mm_X6_number (d + 0) 0 0 [.ref 2, .int k] zw_SC I L (zw_RC h sp la) (zw_ret (some (.int (fi_num I k))) zw_SC I L (zw_RC h sp la)) := by
  refine zv_entry gd_X6_number (Nat.le_of_ble_eq_true rfl) ?_
  refine zv_run 1 (pc' := 1) (lo' := [some (.ref 2), some (.int k)]) (st' := [.int k]) (I' := I) (L' := L) (R' := zw_RC h sp la) rfl ?_
  refine zv_if_lt (tgt := 21) (zs_at rfl) (by decide) (fun c1 => ?_) (fun c1 => ?_)
  · have _c := c1
    refine zv_run 2 (pc' := 32) (lo' := [some (.ref 2), some (.int k)]) (st' := [.int (-4)]) (I' := I) (L' := L) (R' := zw_RC h sp la) rfl ?_
    exact zv_iret (zs_at rfl) rfl ⟨Nat.le_refl _, Nat.le_refl _⟩ (zw_to (by simp [fi_num, *]) rfl rfl rfl)
  · have _c := c1
    refine zv_run 3 (pc' := 9) (lo' := [some (.ref 2), some (.int k)]) (st' := [.int (I 2 2), .int k]) (I' := I) (L' := L) (R' := zw_RC h sp la) rfl ?_
    refine zv_icmp_ge (tgt := 21) (zs_at rfl) (by decide) (fun c9 => ?_) (fun c9 => ?_)
    · have _c := c9
      refine zv_run 2 (pc' := 32) (lo' := [some (.ref 2), some (.int k)]) (st' := [.int (-4)]) (I' := I) (L' := L) (R' := zw_RC h sp la) rfl ?_
      exact zv_iret (zs_at rfl) rfl ⟨Nat.le_refl _, Nat.le_refl _⟩ (zw_to (by simp [fi_num, *]) rfl rfl rfl)
    · have _c := c9
      refine zv_run 4 (pc' := 18) (lo' := [some (.ref 2), some (.int k)]) (st' := [.int 6, .int k]) (I' := I) (L' := L) (R' := zw_RC h sp la) rfl ?_
      refine zv_icmp_lt (tgt := 26) (zs_at rfl) (by decide) (fun c18 => ?_) (fun c18 => ?_)
      · have _c := c18
        refine zv_run 3 (pc' := 31) (lo' := [some (.ref 2), some (.int k)]) (st' := [.int k, .ref 3]) (I' := I) (L' := L) (R' := zw_RC h sp la) rfl ?_
        refine zv_iald (zs_at rfl) rfl (zin c1 c18 (by decide)) ?_
        exact zv_iret (zs_at rfl) rfl ⟨Nat.le_refl _, Nat.le_refl _⟩ (zw_to (by simp [fi_num, *]) rfl rfl rfl)
      · have _c := c18
        refine zv_run 2 (pc' := 32) (lo' := [some (.ref 2), some (.int k)]) (st' := [.int (-4)]) (I' := I) (L' := L) (R' := zw_RC h sp la) rfl ?_
        exact zv_iret (zs_at rfl) rfl ⟨Nat.le_refl _, Nat.le_refl _⟩ (zw_to (by simp [fi_num, *]) rfl rfl rfl)
theorem ct_X6_isWithin {d : Nat} {I : zx_I} {L : zx_L} {h sp : Nat} {la : Option Nat} {k l m : Int32}  : zx_M0 mm_X6_isWithin (d + 1) 0 0 [.ref 2, .int k, .int l, .int m] zw_SC I L (zw_RC h sp la) (zw_ret (some (.int (fi_in I k l m))) zw_SC I L (zw_RC h sp la)) := by
  refine zv_entry gd_X6_isWithin (Nat.le_of_ble_eq_true rfl) ?_
  refine zv_run 2 (pc' := 2) (lo' := [some (.ref 2), some (.int k), some (.int l), some (.int m), none]) (st' := [.int k, .ref 2]) (I' := I) (L' := L) (R' := zw_RC h sp la) rfl ?_
  refine zv_cV (M' := mm_X6_number) (ci := 6) (a := 2) (av := [.int k]) (st := []) (r := some (.int (fi_num I k))) (I' := I) (L' := L) (R' := zw_RC h sp la) rfl zc_6_22 gd_X6_number rfl rfl rfl (Nat.le_of_ble_eq_true rfl) (ct_X6_number (d := d) (I := I)) ⟨Nat.le_refl _, Nat.le_refl _⟩ ?_
  refine zv_run 0 (pc' := 5) (lo' := [some (.ref 2), some (.int k), some (.int l), some (.int m), none]) (st' := [.int (fi_num I k)]) (I' := I) (L' := L) (R' := zw_RC h sp la) rfl ?_
  refine zv_run 3 (pc' := 10) (lo' := [some (.ref 2), some (.int k), some (.int l), some (.int m), some (.int (fi_num I k))]) (st' := [.int l, .int (fi_num I k)]) (I' := I) (L' := L) (R' := zw_RC h sp la) rfl ?_
  refine zv_icmp_lt (tgt := 23) (zs_at rfl) (by decide) (fun c10 => ?_) (fun c10 => ?_)
  · have _c := c10
    refine zv_run 1 (pc' := 24) (lo' := [some (.ref 2), some (.int k), some (.int l), some (.int m), some (.int (fi_num I k))]) (st' := [.int 0]) (I' := I) (L' := L) (R' := zw_RC h sp la) rfl ?_
    exact zv_zret (zs_at rfl) rfl (Or.inl rfl) ⟨Nat.le_refl _, Nat.le_refl _⟩ (zw_to (by simp [fi_in, *]) rfl rfl rfl)
  · have _c := c10
    refine zv_run 2 (pc' := 16) (lo' := [some (.ref 2), some (.int k), some (.int l), some (.int m), some (.int (fi_num I k))]) (st' := [.int m, .int (fi_num I k)]) (I' := I) (L' := L) (R' := zw_RC h sp la) rfl ?_
    refine zv_icmp_gt (tgt := 23) (zs_at rfl) (by decide) (fun c16 => ?_) (fun c16 => ?_)
    · have _c := c16
      refine zv_run 1 (pc' := 24) (lo' := [some (.ref 2), some (.int k), some (.int l), some (.int m), some (.int (fi_num I k))]) (st' := [.int 0]) (I' := I) (L' := L) (R' := zw_RC h sp la) rfl ?_
      exact zv_zret (zs_at rfl) rfl (Or.inl rfl) ⟨Nat.le_refl _, Nat.le_refl _⟩ (zw_to (by simp [fi_in, *]) rfl rfl rfl)
    · have _c := c16
      refine zv_run 2 (pc' := 24) (lo' := [some (.ref 2), some (.int k), some (.int l), some (.int m), some (.int (fi_num I k))]) (st' := [.int 1]) (I' := I) (L' := L) (R' := zw_RC h sp la) rfl ?_
      exact zv_zret (zs_at rfl) rfl (Or.inr rfl) ⟨Nat.le_refl _, Nat.le_refl _⟩ (zw_to (by simp [fi_in, *]) rfl rfl rfl)
theorem ct_X6_isOneWithin {d : Nat} {I : zx_I} {L : zx_L} {h sp : Nat} {la : Option Nat} {l m : Int32}  : zx_M0 mm_X6_isOneWithin (d + 2) 0 0 [.ref 2, .int l, .int m] zw_SC I L (zw_RC h sp la) (zw_ret (some (.int (fi_one I l m))) zw_SC I L (zw_RC h sp la)) := by
  refine zv_entry gd_X6_isOneWithin (Nat.le_of_ble_eq_true rfl) ?_
  refine zv_run 3 (pc' := 5) (lo' := [some (.ref 2), some (.int l), some (.int m)]) (st' := [.int 1, .int (I 2 2)]) (I' := I) (L' := L) (R' := zw_RC h sp la) rfl ?_
  refine zv_icmp_ne (tgt := 22) (zs_at rfl) (by decide) (fun c5 => ?_) (fun c5 => ?_)
  · have _c := c5
    refine zv_run 1 (pc' := 23) (lo' := [some (.ref 2), some (.int l), some (.int m)]) (st' := [.int 0]) (I' := I) (L' := L) (R' := zw_RC h sp la) rfl ?_
    exact zv_zret (zs_at rfl) rfl (Or.inl rfl) ⟨Nat.le_refl _, Nat.le_refl _⟩ (zw_to (by simp [fi_one, *]) rfl rfl rfl)
  · have _c := c5
    refine zv_run 4 (pc' := 12) (lo' := [some (.ref 2), some (.int l), some (.int m)]) (st' := [.int m, .int l, .int 0, .ref 2]) (I' := I) (L' := L) (R' := zw_RC h sp la) rfl ?_
    refine zv_cV (M' := mm_X6_isWithin) (ci := 6) (a := 2) (av := [.int 0, .int l, .int m]) (st := []) (r := some (.int (fi_in I 0 l m))) (I' := I) (L' := L) (R' := zw_RC h sp la) rfl zc_6_26 gd_X6_isWithin rfl rfl rfl (Nat.le_of_ble_eq_true rfl) (ct_X6_isWithin (d := d)) ⟨Nat.le_refl _, Nat.le_refl _⟩ ?_
    refine zv_run 0 (pc' := 15) (lo' := [some (.ref 2), some (.int l), some (.int m)]) (st' := [.int (fi_in I 0 l m)]) (I' := I) (L' := L) (R' := zw_RC h sp la) rfl ?_
    refine zv_if_eq (tgt := 22) (zs_at rfl) (by decide) (fun c15 => ?_) (fun c15 => ?_)
    · have _c := c15
      refine zv_run 1 (pc' := 23) (lo' := [some (.ref 2), some (.int l), some (.int m)]) (st' := [.int 0]) (I' := I) (L' := L) (R' := zw_RC h sp la) rfl ?_
      exact zv_zret (zs_at rfl) rfl (Or.inl rfl) ⟨Nat.le_refl _, Nat.le_refl _⟩ (zw_to (by simp [fi_one, *]) rfl rfl rfl)
    · have _c := c15
      refine zv_run 2 (pc' := 23) (lo' := [some (.ref 2), some (.int l), some (.int m)]) (st' := [.int 1]) (I' := I) (L' := L) (R' := zw_RC h sp la) rfl ?_
      exact zv_zret (zs_at rfl) rfl (Or.inr rfl) ⟨Nat.le_refl _, Nat.le_refl _⟩ (zw_to (by simp [fi_one, *]) rfl rfl rfl)
theorem ct_X6_isPairOf {d : Nat} {I : zx_I} {L : zx_L} {h sp : Nat} {la : Option Nat} {n : Int32}  : zx_M0 mm_X6_isPairOf (d + 2) 0 0 [.ref 2, .int n] zw_SC I L (zw_RC h sp la) (zw_ret (some (.int (fi_pair I n))) zw_SC I L (zw_RC h sp la)) := by
  refine zv_entry gd_X6_isPairOf (Nat.le_of_ble_eq_true rfl) ?_
  refine zv_run 3 (pc' := 5) (lo' := [some (.ref 2), some (.int n)]) (st' := [.int 2, .int (I 2 2)]) (I' := I) (L' := L) (R' := zw_RC h sp la) rfl ?_
  refine zv_icmp_ne (tgt := 49) (zs_at rfl) (by decide) (fun c5 => ?_) (fun c5 => ?_)
  · have _c := c5
    refine zv_run 1 (pc' := 50) (lo' := [some (.ref 2), some (.int n)]) (st' := [.int 0]) (I' := I) (L' := L) (R' := zw_RC h sp la) rfl ?_
    exact zv_zret (zs_at rfl) rfl (Or.inl rfl) ⟨Nat.le_refl _, Nat.le_refl _⟩ (zw_to (by simp [fi_pair, *]) rfl rfl rfl)
  · have _c := c5
    refine zv_run 6 (pc' := 14) (lo' := [some (.ref 2), some (.int n)]) (st' := [.int (n - 1), .int 0, .int 0, .ref 2]) (I' := I) (L' := L) (R' := zw_RC h sp la) rfl ?_
    refine zv_cV (M' := mm_X6_isWithin) (ci := 6) (a := 2) (av := [.int 0, .int 0, .int (n - 1)]) (st := []) (r := some (.int (fi_in I 0 0 (n - 1)))) (I' := I) (L' := L) (R' := zw_RC h sp la) rfl zc_6_26 gd_X6_isWithin rfl rfl rfl (Nat.le_of_ble_eq_true rfl) (ct_X6_isWithin (d := d)) ⟨Nat.le_refl _, Nat.le_refl _⟩ ?_
    refine zv_run 0 (pc' := 17) (lo' := [some (.ref 2), some (.int n)]) (st' := [.int (fi_in I 0 0 (n - 1))]) (I' := I) (L' := L) (R' := zw_RC h sp la) rfl ?_
    refine zv_if_eq (tgt := 49) (zs_at rfl) (by decide) (fun c17 => ?_) (fun c17 => ?_)
    · have _c := c17
      refine zv_run 1 (pc' := 50) (lo' := [some (.ref 2), some (.int n)]) (st' := [.int 0]) (I' := I) (L' := L) (R' := zw_RC h sp la) rfl ?_
      exact zv_zret (zs_at rfl) rfl (Or.inl rfl) ⟨Nat.le_refl _, Nat.le_refl _⟩ (zw_to (by simp [fi_pair, *]) rfl rfl rfl)
    · have _c := c17
      refine zv_run 6 (pc' := 26) (lo' := [some (.ref 2), some (.int n)]) (st' := [.int (n - 1), .int 0, .int 1, .ref 2]) (I' := I) (L' := L) (R' := zw_RC h sp la) rfl ?_
      refine zv_cV (M' := mm_X6_isWithin) (ci := 6) (a := 2) (av := [.int 1, .int 0, .int (n - 1)]) (st := []) (r := some (.int (fi_in I 1 0 (n - 1)))) (I' := I) (L' := L) (R' := zw_RC h sp la) rfl zc_6_26 gd_X6_isWithin rfl rfl rfl (Nat.le_of_ble_eq_true rfl) (ct_X6_isWithin (d := d)) ⟨Nat.le_refl _, Nat.le_refl _⟩ ?_
      refine zv_run 0 (pc' := 29) (lo' := [some (.ref 2), some (.int n)]) (st' := [.int (fi_in I 1 0 (n - 1))]) (I' := I) (L' := L) (R' := zw_RC h sp la) rfl ?_
      refine zv_if_eq (tgt := 49) (zs_at rfl) (by decide) (fun c29 => ?_) (fun c29 => ?_)
      · have _c := c29
        refine zv_run 1 (pc' := 50) (lo' := [some (.ref 2), some (.int n)]) (st' := [.int 0]) (I' := I) (L' := L) (R' := zw_RC h sp la) rfl ?_
        exact zv_zret (zs_at rfl) rfl (Or.inl rfl) ⟨Nat.le_refl _, Nat.le_refl _⟩ (zw_to (by simp [fi_pair, *]) rfl rfl rfl)
      · have _c := c29
        refine zv_run 2 (pc' := 34) (lo' := [some (.ref 2), some (.int n)]) (st' := [.int 0, .ref 2]) (I' := I) (L' := L) (R' := zw_RC h sp la) rfl ?_
        refine zv_cV (M' := mm_X6_number) (ci := 6) (a := 2) (av := [.int 0]) (st := []) (r := some (.int (fi_num I 0))) (I' := I) (L' := L) (R' := zw_RC h sp la) rfl zc_6_22 gd_X6_number rfl rfl rfl (Nat.le_of_ble_eq_true rfl) (ct_X6_number (d := _) (I := I)) ⟨Nat.le_refl _, Nat.le_refl _⟩ ?_
        refine zv_run 0 (pc' := 37) (lo' := [some (.ref 2), some (.int n)]) (st' := [.int (fi_num I 0)]) (I' := I) (L' := L) (R' := zw_RC h sp la) rfl ?_
        refine zv_run 2 (pc' := 39) (lo' := [some (.ref 2), some (.int n)]) (st' := [.int 1, .ref 2, .int (fi_num I 0)]) (I' := I) (L' := L) (R' := zw_RC h sp la) rfl ?_
        refine zv_cV (M' := mm_X6_number) (ci := 6) (a := 2) (av := [.int 1]) (st := [.int (fi_num I 0)]) (r := some (.int (fi_num I 1))) (I' := I) (L' := L) (R' := zw_RC h sp la) rfl zc_6_22 gd_X6_number rfl rfl rfl (Nat.le_of_ble_eq_true rfl) (ct_X6_number (d := _) (I := I)) ⟨Nat.le_refl _, Nat.le_refl _⟩ ?_
        refine zv_run 0 (pc' := 42) (lo' := [some (.ref 2), some (.int n)]) (st' := [.int (fi_num I 1), .int (fi_num I 0)]) (I' := I) (L' := L) (R' := zw_RC h sp la) rfl ?_
        refine zv_icmp_eq (tgt := 49) (zs_at rfl) (by decide) (fun c42 => ?_) (fun c42 => ?_)
        · have _c := c42
          refine zv_run 1 (pc' := 50) (lo' := [some (.ref 2), some (.int n)]) (st' := [.int 0]) (I' := I) (L' := L) (R' := zw_RC h sp la) rfl ?_
          exact zv_zret (zs_at rfl) rfl (Or.inl rfl) ⟨Nat.le_refl _, Nat.le_refl _⟩ (zw_to (by simp [fi_pair, *]) rfl rfl rfl)
        · have _c := c42
          refine zv_run 2 (pc' := 50) (lo' := [some (.ref 2), some (.int n)]) (st' := [.int 1]) (I' := I) (L' := L) (R' := zw_RC h sp la) rfl ?_
          exact zv_zret (zs_at rfl) rfl (Or.inr rfl) ⟨Nat.le_refl _, Nat.le_refl _⟩ (zw_to (by simp [fi_pair, *]) rfl rfl rfl)
