/-! the tank: each method is a function of the memory -/
def zr (I : zx_I) (a : Nat) (f : Nat → Int32) : zx_I := fun x => if x = a then f else I x
theorem zr_of {I J : zx_I} {a : Nat} (h : ∀ b, b ≠ a → J b = I b) : J = zr I a (J a) := by
  funext b
  by_cases hb : b = a
  · subst hb; simp [zr]
  · simp [zr, hb, h b hb]
def tk_ok (I : zx_I) : Prop := 1 ≤ (I 37 1).toInt ∧ (I 37 1).toInt ≤ 6 ∧ 1 ≤ (I 37 2).toInt ∧ (I 37 2).toInt ≤ 60
theorem tk_ne {I : zx_I} (h : tk_ok I) : ¬ I 37 2 = 0 := fun q => by
  have := h.2.2.1
  rw [q] at this
  exact absurd this (by decide)
theorem tk_6 {I : zx_I} (h : tk_ok I) : (I 37 1).toInt ≤ ((6 : Nat) : Int) := h.2.1
theorem tk_m {I : zx_I} (h : tk_ok I) : ∃ m, 1 ≤ m ∧ m ≤ 6 ∧ I 37 1 = nI m := by
  refine ⟨(I 37 1).toInt.toNat, ?_, ?_, ?_⟩
  · have := h.1; omega
  · have := h.2.1; omega
  · apply Int32.toInt_inj.mp
    rw [nI_toInt (by have := h.2.1; omega)]
    have := h.1
    omega
def ft_unitsIn (I : zx_I) (l : Int32) : Int32 := if l < 0 then 0 else if l < I 37 1 then I 38 l.toNatClampNeg else 0
def ft_part (I : zx_I) (l q : Int32) : Int32 := if l < 0 then I 37 3 * q else if l < I 37 1 then I 38 l.toNatClampNeg * q / I 37 2 else I 37 3 * q
theorem ct_X7_holds {d : Nat} {I : zx_I} {L : zx_L} {h sp : Nat} {la : Option Nat}   : zx_M0 mm_X7_holds (d + 0) 0 0 [.ref 37] zw_SC I L (zw_RC h sp la) (zw_ret (some (.int (I 37 1 * I 37 2))) zw_SC I L (zw_RC h sp la)) := by
  refine zv_entry gd_X7_holds (Nat.le_of_ble_eq_true rfl) ?_
  refine zv_run 5 (pc' := 9) (lo' := [some (.ref 37)]) (st' := [.int ((I 37 1) * (I 37 2))]) (I' := I) (L' := L) (R' := zw_RC h sp la) rfl ?_
  exact zv_iret (zs_at rfl) rfl ⟨Nat.le_refl _, Nat.le_refl _⟩ zw_here
theorem ct_X7_unitsIn {d : Nat} {I : zx_I} {L : zx_L} {h sp : Nat} {la : Option Nat} {l : Int32} (hT : tk_ok I) : zx_M0 mm_X7_unitsIn (d + 0) 0 0 [.ref 37, .int l] zw_SC I L (zw_RC h sp la) (zw_ret (some (.int (ft_unitsIn I l))) zw_SC I L (zw_RC h sp la)) := by
  refine zv_entry gd_X7_unitsIn (Nat.le_of_ble_eq_true rfl) ?_
  refine zv_run 1 (pc' := 1) (lo' := [some (.ref 37), some (.int l)]) (st' := [.int l]) (I' := I) (L' := L) (R' := zw_RC h sp la) rfl ?_
  refine zv_if_lt (tgt := 12) (zs_at rfl) (by decide) (fun c1 => ?_) (fun c1 => ?_)
  · have _c := c1
    refine zv_run 2 (pc' := 22) (lo' := [some (.ref 37), some (.int l)]) (st' := [.int 0]) (I' := I) (L' := L) (R' := zw_RC h sp la) rfl ?_
    exact zv_iret (zs_at rfl) rfl ⟨Nat.le_refl _, Nat.le_refl _⟩ (zw_to (by simp [ft_unitsIn, *]) rfl rfl rfl)
  · have _c := c1
    refine zv_run 3 (pc' := 9) (lo' := [some (.ref 37), some (.int l)]) (st' := [.int (I 37 1), .int l]) (I' := I) (L' := L) (R' := zw_RC h sp la) rfl ?_
    refine zv_icmp_lt (tgt := 16) (zs_at rfl) (by decide) (fun c9 => ?_) (fun c9 => ?_)
    · have _c := c9
      refine zv_run 3 (pc' := 21) (lo' := [some (.ref 37), some (.int l)]) (st' := [.int l, .ref 38]) (I' := I) (L' := L) (R' := zw_RC h sp la) rfl ?_
      refine zv_iald (zs_at rfl) rfl (zin c1 c9 (tk_6 hT)) ?_
      exact zv_iret (zs_at rfl) rfl ⟨Nat.le_refl _, Nat.le_refl _⟩ (zw_to (by simp [ft_unitsIn, *]) rfl rfl rfl)
    · have _c := c9
      refine zv_run 2 (pc' := 22) (lo' := [some (.ref 37), some (.int l)]) (st' := [.int 0]) (I' := I) (L' := L) (R' := zw_RC h sp la) rfl ?_
      exact zv_iret (zs_at rfl) rfl ⟨Nat.le_refl _, Nat.le_refl _⟩ (zw_to (by simp [ft_unitsIn, *]) rfl rfl rfl)
theorem ct_X7_heatOf {d : Nat} {I : zx_I} {L : zx_L} {h sp : Nat} {la : Option Nat} {l : Int32} (hT : tk_ok I) : zx_M0 mm_X7_heatOf (d + 1) 0 0 [.ref 37, .int l] zw_SC I L (zw_RC h sp la) (zw_ret (some (.int (ft_unitsIn I l / I 37 2))) zw_SC I L (zw_RC h sp la)) := by
  refine zv_entry gd_X7_heatOf (Nat.le_of_ble_eq_true rfl) ?_
  refine zv_run 2 (pc' := 2) (lo' := [some (.ref 37), some (.int l)]) (st' := [.int l, .ref 37]) (I' := I) (L' := L) (R' := zw_RC h sp la) rfl ?_
  refine zv_cV (M' := mm_X7_unitsIn) (ci := 7) (a := 37) (av := [.int l]) (st := []) (r := some (.int (ft_unitsIn I l))) (I' := I) (L' := L) (R' := zw_RC h sp la) rfl zc_7_42 gd_X7_unitsIn rfl rfl rfl (Nat.le_of_ble_eq_true rfl) (ct_X7_unitsIn hT) ⟨Nat.le_refl _, Nat.le_refl _⟩ ?_
  refine zv_run 0 (pc' := 5) (lo' := [some (.ref 37), some (.int l)]) (st' := [.int (ft_unitsIn I l)]) (I' := I) (L' := L) (R' := zw_RC h sp la) rfl ?_
  refine zv_run 2 (pc' := 9) (lo' := [some (.ref 37), some (.int l)]) (st' := [.int (I 37 2), .int (ft_unitsIn I l)]) (I' := I) (L' := L) (R' := zw_RC h sp la) rfl ?_
  refine zv_idiv (zs_at rfl) (tk_ne hT) ?_
  exact zv_iret (zs_at rfl) rfl ⟨Nat.le_refl _, Nat.le_refl _⟩ zw_here
theorem ct_X7_unitsOfPart {d : Nat} {I : zx_I} {L : zx_L} {h sp : Nat} {la : Option Nat} {l q : Int32} (hT : tk_ok I) : zx_M0 mm_X7_unitsOfPart (d + 0) 0 0 [.ref 37, .int l, .int q] zw_SC I L (zw_RC h sp la) (zw_ret (some (.int (ft_part I l q))) zw_SC I L (zw_RC h sp la)) := by
  refine zv_entry gd_X7_unitsOfPart (Nat.le_of_ble_eq_true rfl) ?_
  refine zv_run 1 (pc' := 1) (lo' := [some (.ref 37), some (.int l), some (.int q)]) (st' := [.int l]) (I' := I) (L' := L) (R' := zw_RC h sp la) rfl ?_
  refine zv_if_lt (tgt := 12) (zs_at rfl) (by decide) (fun c1 => ?_) (fun c1 => ?_)
  · have _c := c1
    refine zv_run 5 (pc' := 34) (lo' := [some (.ref 37), some (.int l), some (.int q)]) (st' := [.int ((I 37 3) * q)]) (I' := I) (L' := L) (R' := zw_RC h sp la) rfl ?_
    exact zv_iret (zs_at rfl) rfl ⟨Nat.le_refl _, Nat.le_refl _⟩ (zw_to (by simp [ft_part, *]) rfl rfl rfl)
  · have _c := c1
    refine zv_run 3 (pc' := 9) (lo' := [some (.ref 37), some (.int l), some (.int q)]) (st' := [.int (I 37 1), .int l]) (I' := I) (L' := L) (R' := zw_RC h sp la) rfl ?_
    refine zv_icmp_lt (tgt := 21) (zs_at rfl) (by decide) (fun c9 => ?_) (fun c9 => ?_)
    · have _c := c9
      refine zv_run 3 (pc' := 26) (lo' := [some (.ref 37), some (.int l), some (.int q)]) (st' := [.int l, .ref 38]) (I' := I) (L' := L) (R' := zw_RC h sp la) rfl ?_
      refine zv_iald (zs_at rfl) rfl (zin c1 c9 (tk_6 hT)) ?_
      refine zv_run 4 (pc' := 33) (lo' := [some (.ref 37), some (.int l), some (.int q)]) (st' := [.int (I 37 2), .int ((I 38 l.toNatClampNeg) * q)]) (I' := I) (L' := L) (R' := zw_RC h sp la) rfl ?_
      refine zv_idiv (zs_at rfl) (tk_ne hT) ?_
      exact zv_iret (zs_at rfl) rfl ⟨Nat.le_refl _, Nat.le_refl _⟩ (zw_to (by simp [ft_part, *]) rfl rfl rfl)
    · have _c := c9
      refine zv_run 5 (pc' := 34) (lo' := [some (.ref 37), some (.int l), some (.int q)]) (st' := [.int ((I 37 3) * q)]) (I' := I) (L' := L) (R' := zw_RC h sp la) rfl ?_
      exact zv_iret (zs_at rfl) rfl ⟨Nat.le_refl _, Nat.le_refl _⟩ (zw_to (by simp [ft_part, *]) rfl rfl rfl)
def dr_loop (w q : Int32) : Nat → Nat → zx_I → zx_I
  | 0, _, J => J
  | n + 1, j, J => dr_loop w q n (j + 1) (zx_uI J 38 j (ft_part J (nI j + w) (J 37 2 - q) + ft_part J (nI j + w + 1) q))
theorem dr_loop_ne {w q : Int32} : ∀ (n j : Nat) (J : zx_I) (b : Nat), b ≠ 38 → dr_loop w q n j J b = J b
  | 0, _, _, _, _ => rfl
  | n + 1, j, J, b, hb => by
    unfold dr_loop
    rw [dr_loop_ne n (j + 1) _ b hb, zx_uI_ne hb]
def dr_row (I : zx_I) (h : Int32) : Nat → Int32 := dr_loop (h / I 37 2) (h - h / I 37 2 * I 37 2) (I 37 1).toInt.toNat 0 I 38
def ft_draw (I : zx_I) (h : Int32) : zx_I := zr I 38 (dr_row I h)
theorem lp_X7_draw {d : Nat} {L : zx_L} {h sp : Nat} {la : Option Nat} {w q hh : Int32} : ∀ (n j : Nat) (J : zx_I), tk_ok J → j + n ≤ 6 → J 37 1 = nI (j + n) → zx_V mm_X7_draw (d + 1) z0 (zw_ret none zw_SC (dr_loop w q n j J) L (zw_RC h sp la)) zw_SC 17 [some (.ref 37), some (.int hh), some (.int w), some (.int q), some (.int (nI j))] [] J L (zw_RC h sp la) := by
  intro n
  induction n with
  | zero =>
    intro j J hT hm hJ
    refine zv_run 3 (pc' := 23) (lo' := [some (.ref 37), some (.int hh), some (.int w), some (.int q), some (.int (nI j))]) (st' := [.int (J 37 1), .int (nI j)]) (I' := J) (L' := L) (R' := zw_RC h sp la) rfl ?_
    refine zv_icmp_ge (tgt := 65) (zs_at rfl) (by decide) (fun c23 => ?_) (fun c23 => ?_)
    · have _c := c23
      exact zv_vret (zs_at rfl) rfl ⟨Nat.le_refl _, Nat.le_refl _⟩ (zw_to rfl rfl rfl rfl)
    · exact absurd (by rw [hJ]; exact nI_le (by omega) (by omega)) c23
  | succ n ih =>
    intro j J hT hm hJ
    refine zv_run 3 (pc' := 23) (lo' := [some (.ref 37), some (.int hh), some (.int w), some (.int q), some (.int (nI j))]) (st' := [.int (J 37 1), .int (nI j)]) (I' := J) (L' := L) (R' := zw_RC h sp la) rfl ?_
    refine zv_icmp_ge (tgt := 65) (zs_at rfl) (by decide) (fun c23 => ?_) (fun c23 => ?_)
    · exact absurd c23 (by rw [hJ]; exact nI_ge (by omega) (by omega))
    · have _c := c23
      refine zv_run 11 (pc' := 43) (lo' := [some (.ref 37), some (.int hh), some (.int w), some (.int q), some (.int (nI j))]) (st' := [.int ((J 37 2) - q), .int ((nI j) + w), .ref 37, .int (nI j), .ref 38]) (I' := J) (L' := L) (R' := zw_RC h sp la) rfl ?_
      refine zv_cV (M' := mm_X7_unitsOfPart) (ci := 7) (a := 37) (av := [.int ((nI j) + w), .int ((J 37 2) - q)]) (st := [.int (nI j), .ref 38]) (r := some (.int (ft_part J ((nI j) + w) ((J 37 2) - q)))) (I' := J) (L' := L) (R' := zw_RC h sp la) rfl zc_7_46 gd_X7_unitsOfPart rfl rfl rfl (Nat.le_of_ble_eq_true rfl) (ct_X7_unitsOfPart (d := d) (I := J) hT) ⟨Nat.le_refl _, Nat.le_refl _⟩ ?_
      refine zv_run 0 (pc' := 46) (lo' := [some (.ref 37), some (.int hh), some (.int w), some (.int q), some (.int (nI j))]) (st' := [.int (ft_part J ((nI j) + w) ((J 37 2) - q)), .int (nI j), .ref 38]) (I' := J) (L' := L) (R' := zw_RC h sp la) rfl ?_
      refine zv_run 7 (pc' := 54) (lo' := [some (.ref 37), some (.int hh), some (.int w), some (.int q), some (.int (nI j))]) (st' := [.int q, .int (((nI j) + w) + 1), .ref 37, .int (ft_part J ((nI j) + w) ((J 37 2) - q)), .int (nI j), .ref 38]) (I' := J) (L' := L) (R' := zw_RC h sp la) rfl ?_
      refine zv_cV (M' := mm_X7_unitsOfPart) (ci := 7) (a := 37) (av := [.int (((nI j) + w) + 1), .int q]) (st := [.int (ft_part J ((nI j) + w) ((J 37 2) - q)), .int (nI j), .ref 38]) (r := some (.int (ft_part J (((nI j) + w) + 1) q))) (I' := J) (L' := L) (R' := zw_RC h sp la) rfl zc_7_46 gd_X7_unitsOfPart rfl rfl rfl (Nat.le_of_ble_eq_true rfl) (ct_X7_unitsOfPart (d := d) (I := J) hT) ⟨Nat.le_refl _, Nat.le_refl _⟩ ?_
      refine zv_run 0 (pc' := 57) (lo' := [some (.ref 37), some (.int hh), some (.int w), some (.int q), some (.int (nI j))]) (st' := [.int (ft_part J (((nI j) + w) + 1) q), .int (ft_part J ((nI j) + w) ((J 37 2) - q)), .int (nI j), .ref 38]) (I' := J) (L' := L) (R' := zw_RC h sp la) rfl ?_
      refine zv_run 1 (pc' := 58) (lo' := [some (.ref 37), some (.int hh), some (.int w), some (.int q), some (.int (nI j))]) (st' := [.int ((ft_part J ((nI j) + w) ((J 37 2) - q)) + (ft_part J (((nI j) + w) + 1) q)), .int (nI j), .ref 38]) (I' := J) (L' := L) (R' := zw_RC h sp la) rfl ?_
      refine zv_iast (zs_at rfl) rfl (vp_in_nI (by omega) (by decide)) ?_
      refine zv_run 2 (pc' := 17) (lo' := [some (.ref 37), some (.int hh), some (.int w), some (.int q), some (.int ((nI j) + 1))]) (st' := []) (I' := (zx_uI J 38 ((nI j).toNatClampNeg) ((ft_part J ((nI j) + w) ((J 37 2) - q)) + (ft_part J (((nI j) + w) + 1) q)))) (L' := L) (R' := zw_RC h sp la) rfl ?_
      rw [nI_clamp (by omega), ← nI_succ]
      exact ih (j + 1) _ hT (by omega) (by rw [show j + 1 + n = j + (n + 1) by omega]; exact hJ)
theorem ct_X7_draw {d : Nat} {I : zx_I} {L : zx_L} {h sp : Nat} {la : Option Nat} {hh : Int32} (hT : tk_ok I) : zx_M0 mm_X7_draw (d + 1) 0 0 [.ref 37, .int hh] zw_SC I L (zw_RC h sp la) (zw_ret (none) zw_SC (ft_draw I hh) L (zw_RC h sp la)) := by
  obtain ⟨m, hm1, hm6, hm⟩ := tk_m hT
  have hE : dr_loop (hh / I 37 2) (hh - hh / I 37 2 * I 37 2) m 0 I = ft_draw I hh := by
    unfold ft_draw dr_row
    rw [show (I 37 1).toInt.toNat = m by rw [hm, nI_toInt (by omega)]; omega]
    exact zr_of (fun b hb => dr_loop_ne m 0 I b hb)
  rw [← hE]
  refine zv_entry gd_X7_draw (Nat.le_of_ble_eq_true rfl) ?_
  refine zv_run 3 (pc' := 5) (lo' := [some (.ref 37), some (.int hh), none, none, none]) (st' := [.int (I 37 2), .int hh]) (I' := I) (L' := L) (R' := zw_RC h sp la) rfl ?_
  refine zv_idiv (zs_at rfl) (tk_ne hT) ?_
  refine zv_run 4 (pc' := 12) (lo' := [some (.ref 37), some (.int hh), some (.int (hh / (I 37 2))), none, none]) (st' := [.int (I 37 2), .int hh]) (I' := I) (L' := L) (R' := zw_RC h sp la) rfl ?_
  refine zv_irem (zs_at rfl) (tk_ne hT) ?_
  refine zv_run 3 (pc' := 17) (lo' := [some (.ref 37), some (.int hh), some (.int (hh / (I 37 2))), some (.int (hh - hh / (I 37 2) * (I 37 2))), some (.int 0)]) (st' := []) (I' := I) (L' := L) (R' := zw_RC h sp la) rfl ?_
  exact lp_X7_draw m 0 I hT (by omega) (by rw [hm, Nat.zero_add])
def ls_loop (c l : Int32) : Nat → Nat → zx_I → zx_I
  | 0, _, J => J
  | n + 1, j, J => ls_loop c l n (j + 1) (if J 38 j ≤ c then J else zx_uI J 38 j (if J 38 j - l < c then c else J 38 j - l))
theorem ls_loop_ne {c l : Int32} : ∀ (n j : Nat) (J : zx_I) (b : Nat), b ≠ 38 → ls_loop c l n j J b = J b
  | 0, _, _, _, _ => rfl
  | n + 1, j, J, b, hb => by
    unfold ls_loop
    rw [ls_loop_ne n (j + 1) _ b hb]
    split
    · rfl
    · rw [zx_uI_ne hb]
def ls_row (I : zx_I) (l : Int32) : Nat → Int32 := ls_loop (I 37 3 * I 37 2) l (I 37 1).toInt.toNat 0 I 38
def ft_lose (I : zx_I) (l : Int32) : zx_I := zr I 38 (ls_row I l)
