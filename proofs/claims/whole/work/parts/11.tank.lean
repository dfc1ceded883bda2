/-! the tank: each method is a function of the memory -/
def zr (I : zx_I) (a : Nat) (f : Nat → Int32) : zx_I := fun x => if x = a then f else I x
theorem zr_of {I J : zx_I} {a : Nat} (h : ∀ b, b ≠ a → J b = I b) : J = zr I a (J a) := by
  funext b
  by_cases hb : b = a
  · subst hb; simp [zr]
  · simp [zr, hb, h b hb]
def tk_ok (I : zx_I) : Prop := 1 ≤ (I 37 1).toInt ∧ (I 37 1).toInt ≤ 6 ∧ 1 ≤ (I 37 2).toInt ∧ (I 37 2).toInt ≤ 60
theorem tk_ne {I : zx_I} (h : tk_ok I) : ¬ I 37 2 = 0 := fun q => by
  have := h.2.2.1
  rw [q] at this
  exact absurd this (by decide)
theorem tk_6 {I : zx_I} (h : tk_ok I) : (I 37 1).toInt ≤ ((6 : Nat) : Int) := h.2.1
theorem tk_m {I : zx_I} (h : tk_ok I) : ∃ m, 1 ≤ m ∧ m ≤ 6 ∧ I 37 1 = nI m := by
  refine ⟨(I 37 1).toInt.toNat, ?_, ?_, ?_⟩
  · have := h.1; omega
  · have := h.2.1; omega
  · apply Int32.toInt_inj.mp
    rw [nI_toInt (by have := h.2.1; omega)]
    have := h.1
    omega
def ft_unitsIn (I : zx_I) (l : Int32) : Int32 := if l < 0 then 0 else if l < I 37 1 then I 38 l.toNatClampNeg else 0
def ft_part (I : zx_I) (l q : Int32) : Int32 := if l < 0 then I 37 3 * q else if l < I 37 1 then I 38 l.toNatClampNeg * q / I 37 2 else I 37 3 * q
theorem ct_X7_holds {d : Nat} {I : zx_I} {L : zx_L} {h sp : Nat} {la : Option Nat}   : zx_M0 mm_X7_holds (d + 0) 0 0 [.ref 37] zw_SC I L (zw_RC h sp la) (zw_ret (some (.int (I 37 1 * I 37 2))) zw_SC I L (zw_RC h sp la)) := by
  refine zv_entry gd_X7_holds (Nat.le_of_ble_eq_true rfl) ?_
  refine zv_run 5 (pc' := 9) (lo' := [some (.ref 37)]) (st' := [.int ((I 37 1) * (I 37 2))]) (I' := I) (L' := L) (R' := zw_RC h sp la) rfl ?_
  exact zv_iret (zs_at rfl) rfl ⟨Nat.le_refl _, Nat.le_refl _⟩ zw_here
theorem ct_X7_unitsIn {d : Nat} {I : zx_I} {L : zx_L} {h sp : Nat} {la : Option Nat} {l : Int32} (hT : tk_ok I) : zx_M0 mm_X7_unitsIn (d + 0) 0 0 [.ref 37, .int l] zw_SC I L (zw_RC h sp la) (zw_ret (some (.int (ft_unitsIn I l))) zw_SC I L (zw_RC h sp la)) := by
  refine zv_entry gd_X7_unitsIn (Nat.le_of_ble_eq_true rfl) ?_
  refine zv_run 1 (pc' := 1) (lo' := [some (.ref 37), some (.int l)]) (st' := [.int l]) (I' := I) (L' := L) (R' := zw_RC h sp la) rfl ?_
  refine zv_if_lt (tgt := 12) (zs_at rfl) (by decide) (fun c1 => ?_) (fun c1 => ?_)
  · have _c := c1
    refine zv_run 2 (pc' := 22) (lo' := [some (.ref 37), some (.int l)]) (st' := [.int 0]) (I' := I) (L' := L) (R' := zw_RC h sp la) rfl ?_
    exact zv_iret (zs_at rfl) rfl ⟨Nat.le_refl _, Nat.le_refl _⟩ (zw_to (by simp [ft_unitsIn, *]) rfl rfl rfl)
  · have _c := c1
    refine zv_run 3 (pc' := 9) (lo' := [some (.ref 37), some (.int l)]) (st' := [.int (I 37 1), .int l]) (I' := I) (L' := L) (R' := zw_RC h sp la) rfl ?_
    refine zv_icmp_lt (tgt := 16) (zs_at rfl) (by decide) (fun c9 => ?_) (fun c9 => ?_)
    · have _c := c9
      refine zv_run 3 (pc' := 21) (lo' := [some (.ref 37), some (.int l)]) (st' := [.int l, .ref 38]) (I' := I) (L' := L) (R' := zw_RC h sp la) rfl ?_
      refine zv_iald (zs_at rfl) rfl (zin c1 c9 (tk_6 hT)) ?_
      exact zv_iret (zs_at rfl) rfl ⟨Nat.le_refl _, Nat.le_refl _⟩ (zw_to (by simp [ft_unitsIn, *]) rfl rfl rfl)
    · have _c := c9
      refine zv_run 2 (pc' := 22) (lo' := [some (.ref 37), some (.int l)]) (st' := [.int 0]) (I' := I) (L' := L) (R' := zw_RC h sp la) rfl ?_
      exact zv_iret (zs_at rfl) rfl ⟨Nat.le_refl _, Nat.le_refl _⟩ (zw_to (by simp [ft_unitsIn, *]) rfl rfl rfl)
theorem ct_X7_heatOf {d : Nat} {I : zx_I} {L : zx_L} {h sp : Nat} {la : Option Nat} {l : Int32} (hT : tk_ok I) : zx_M0 mm_X7_heatOf (d + 1) 0 0 [.ref 37, .int l] zw_SC I L (zw_RC h sp la) (zw_ret (some (.int (ft_unitsIn I l / I 37 2))) zw_SC I L (zw_RC h sp la)) := by
  refine zv_entry gd_X7_heatOf (Nat.le_of_ble_eq_true rfl) ?_
  refine zv_run 2 (pc' := 2) (lo' := [some (.ref 37), some (.int l)]) (st' := [.int l, .ref 37]) (I' := I) (L' := L) (R' := zw_RC h sp la) rfl ?_
  refine zv_cV (M' := mm_X7_unitsIn) (ci := 7) (a := 37) (av := [.int l]) (st := []) (r := some (.int (ft_unitsIn I l))) (I' := I) (L' := L) (R' := zw_RC h sp la) rfl zc_7_42 gd_X7_unitsIn rfl rfl rfl (Nat.le_of_ble_eq_true rfl) (ct_X7_unitsIn hT) ⟨Nat.le_refl _, Nat.le_refl _⟩ ?_
  refine zv_run 0 (pc' := 5) (lo' := [some (.ref 37), some (.int l)]) (st' := [.int (ft_unitsIn I l)]) (I' := I) (L' := L) (R' := zw_RC h sp la) rfl ?_
  refine zv_run 2 (pc' := 9) (lo' := [some (.ref 37), some (.int l)]) (st' := [.int (I 37 2), .int (ft_unitsIn I l)]) (I' := I) (L' := L) (R' := zw_RC h sp la) rfl ?_
  refine zv_idiv (zs_at rfl) (tk_ne hT) ?_
  exact zv_iret (zs_at rfl) rfl ⟨Nat.le_refl _, Nat.le_refl _⟩ zw_here
theorem ct_X7_unitsOfPart {d : Nat} {I : zx_I} {L : zx_L} {h sp : Nat} {la : Option Nat} {l q : Int32} (hT : tk_ok I) : zx_M0 mm_X7_unitsOfPart (d + 0) 0 0 [.ref 37, .int l, .int q] zw_SC I L (zw_RC h sp la) (zw_ret (some (.int (ft_part I l q))) zw_SC I L (zw_RC h sp la)) := by
  refine zv_entry gd_X7_unitsOfPart (Nat.le_of_ble_eq_true rfl) ?_
  refine zv_run 1 (pc' := 1) (lo' := [some (.ref 37), some (.int l), some (.int q)]) (st' := [.int l]) (I' := I) (L' := L) (R' := zw_RC h sp la) rfl ?_
  refine zv_if_lt (tgt := 12) (zs_at rfl) (by decide) (fun c1 => ?_) (fun c1 => ?_)
  · have _c := c1
    refine zv_run 5 (pc' := 34) (lo' := [some (.ref 37), some (.int l), some (.int q)]) (st' := [.int ((I 37 3) * q)]) (I' := I) (L' := L) (R' := zw_RC h sp la) rfl ?_
    exact zv_iret (zs_at rfl) rfl ⟨Nat.le_refl _, Nat.le_refl _⟩ (zw_to (by simp [ft_part, *]) rfl rfl rfl)
  · have _c := c1
    refine zv_run 3 (pc' := 9) (lo' := [some (.ref 37), some (.int l), some (.int q)]) (st' := [.int (I 37 1), .int l]) (I' := I) (L' := L) (R' := zw_RC h sp la) rfl ?_
    refine zv_icmp_lt (tgt := 21) (zs_at rfl) (by decide) (fun c9 => ?_) (fun c9 => ?_)
    · have _c := c9
      refine zv_run 3 (pc' := 26) (lo' := [some (.ref 37), some (.int l), some (.int q)]) (st' := [.int l, .ref 38]) (I' := I) (L' := L) (R' := zw_RC h sp la) rfl ?_
      refine zv_iald (zs_at rfl) rfl (zin c1 c9 (tk_6 hT)) ?_
      refine zv_run 4 (pc' := 33) (lo' := [some (.ref 37), some (.int l), some (.int q)]) (st' := [.int (I 37 2), .int ((I 38 l.toNatClampNeg) * q)]) (I' := I) (L' := L) (R' := zw_RC h sp la) rfl ?_
      refine zv_idiv (zs_at rfl) (tk_ne hT) ?_
      exact zv_iret (zs_at rfl) rfl ⟨Nat.le_refl _, Nat.le_refl _⟩ (zw_to (by simp [ft_part, *]) rfl rfl rfl)
    · have _c := c9
      refine zv_run 5 (pc' := 34) (lo' := [some (.ref 37), some (.int l), some (.int q)]) (st' := [.int ((I 37 3) * q)]) (I' := I) (L' := L) (R' := zw_RC h sp la) rfl ?_
      exact zv_iret (zs_at rfl) rfl ⟨Nat.le_refl _, Nat.le_refl _⟩ (zw_to (by simp [ft_part, *]) rfl rfl rfl)
def dr_loop (w q : Int32) : Nat → Nat → zx_I → zx_I
  | 0, _, J => J
  | n + 1, j, J => dr_loop w q n (j + 1) (zx_uI J 38 j (ft_part J (nI j + w) (J 37 2 - q) + ft_part J (nI j + w + 1) q))
theorem dr_loop_ne {w q : Int32} : ∀ (n j : Nat) (J : zx_I) (b : Nat), b ≠ 38 → dr_loop w q n j J b = J b
  | 0, _, _, _, _ => rfl
  | n + 1, j, J, b, hb => by
    unfold dr_loop
    rw [dr_loop_ne n (j + 1) _ b hb, zx_uI_ne hb]
def dr_row (I : zx_I) (h : Int32) : Nat → Int32 := dr_loop (h / I 37 2) (h - h / I 37 2 * I 37 2) (I 37 1).toInt.toNat 0 I 38
def ft_draw (I : zx_I) (h : Int32) : zx_I := zr I 38 (dr_row I h)
theorem lp_X7_draw {d : Nat} {L : zx_L} {h sp : Nat} {la : Option Nat} {w q hh : Int32} : ∀ (n j : Nat) (J : zx_I), tk_ok J → j + n ≤ 6 → J 37 1 = nI (j + n) → zx_V mm_X7_draw (d + 1) z0 (zw_ret none zw_SC (dr_loop w q n j J) L (zw_RC h sp la)) zw_SC 17 [some (.ref 37), some (.int hh), some (.int w), some (.int q), some (.int (nI j))] [] J L (zw_RC h sp la) := by
  intro n
  induction n with
  | zero =>
    intro j J hT hm hJ
    refine zv_run 3 (pc' := 23) (lo' := [some (.ref 37), some (.int hh), some (.int w), some (.int q), some (.int (nI j))]) (st' := [.int (J 37 1), .int (nI j)]) (I' := J) (L' := L) (R' := zw_RC h sp la) rfl ?_
    refine zv_icmp_ge (tgt := 65) (zs_at rfl) (by decide) (fun c23 => ?_) (fun c23 => ?_)
    · have _c := c23
      exact zv_vret (zs_at rfl) rfl ⟨Nat.le_refl _, Nat.le_refl _⟩ (zw_to rfl rfl rfl rfl)
    · exact absurd (by rw [hJ]; exact nI_le (by omega) (by omega)) c23
  | succ n ih =>
    intro j J hT hm hJ
    refine zv_run 3 (pc' := 23) (lo' := [some (.ref 37), some (.int hh), some (.int w), some (.int q), some (.int (nI j))]) (st' := [.int (J 37 1), .int (nI j)]) (I' := J) (L' := L) (R' := zw_RC h sp la) rfl ?_
    refine zv_icmp_ge (tgt := 65) (zs_at rfl) (by decide) (fun c23 => ?_) (fun c23 => ?_)
    · exact absurd c23 (by rw [hJ]; exact nI_ge (by omega) (by omega))
    · have _c := c23
      refine zv_run 11 (pc' := 43) (lo' := [some (.ref 37), some (.int hh), some (.int w), some (.int q), some (.int (nI j))]) (st' := [.int ((J 37 2) - q), .int ((nI j) + w), .ref 37, .int (nI j), .ref 38]) (I' := J) (L' := L) (R' := zw_RC h sp la) rfl ?_
      refine zv_cV (M' := mm_X7_unitsOfPart) (ci := 7) (a := 37) (av := [.int ((nI j) + w), .int ((J 37 2) - q)]) (st := [.int (nI j), .ref 38]) (r := some (.int (ft_part J ((nI j) + w) ((J 37 2) - q)))) (I' := J) (L' := L) (R' := zw_RC h sp la) rfl zc_7_46 gd_X7_unitsOfPart rfl rfl rfl (Nat.le_of_ble_eq_true rfl) (ct_X7_unitsOfPart (d := d) (I := J) hT) ⟨Nat.le_refl _, Nat.le_refl _⟩ ?_
      refine zv_run 0 (pc' := 46) (lo' := [some (.ref 37), some (.int hh), some (.int w), some (.int q), some (.int (nI j))]) (st' := [.int (ft_part J ((nI j) + w) ((J 37 2) - q)), .int (nI j), .ref 38]) (I' := J) (L' := L) (R' := zw_RC h sp la) rfl ?_
      refine zv_run 7 (pc' := 54) (lo' := [some (.ref 37), some (.int hh), some (.int w), some (.int q), some (.int (nI j))]) (st' := [.int q, .int (((nI j) + w) + 1), .ref 37, .int (ft_part J ((nI j) + w) ((J 37 2) - q)), .int (nI j), .ref 38]) (I' := J) (L' := L) (R' := zw_RC h sp la) rfl ?_
      refine zv_cV (M' := mm_X7_unitsOfPart) (ci := 7) (a := 37) (av := [.int (((nI j) + w) + 1), .int q]) (st := [.int (ft_part J ((nI j) + w) ((J 37 2) - q)), .int (nI j), .ref 38]) (r := some (.int (ft_part J (((nI j) + w) + 1) q))) (I' := J) (L' := L) (R' := zw_RC h sp la) rfl zc_7_46 gd_X7_unitsOfPart rfl rfl rfl (Nat.le_of_ble_eq_true rfl) (ct_X7_unitsOfPart (d := d) (I := J) hT) ⟨Nat.le_refl _, Nat.le_refl _⟩ ?_
      refine zv_run 0 (pc' := 57) (lo' := [some (.ref 37), some (.int hh), some (.int w), some (.int q), some (.int (nI j))]) (st' := [.int (ft_part J (((nI j) + w) + 1) q), .int (ft_part J ((nI j) + w) ((J 37 2) - q)), .int (nI j), .ref 38]) (I' := J) (L' := L) (R' := zw_RC h sp la) rfl ?_
      refine zv_run 1 (pc' := 58) (lo' := [some (.ref 37), some (.int hh), some (.int w), some (.int q), some (.int (nI j))]) (st' := [.int ((ft_part J ((nI j) + w) ((J 37 2) - q)) + (ft_part J (((nI j) + w) + 1) q)), .int (nI j), .ref 38]) (I' := J) (L' := L) (R' := zw_RC h sp la) rfl ?_
      refine zv_iast (zs_at rfl) rfl (vp_in_nI (by omega) (by decide)) ?_
      refine zv_run 2 (pc' := 17) (lo' := [some (.ref 37), some (.int hh), some (.int w), some (.int q), some (.int ((nI j) + 1))]) (st' := []) (I' := (zx_uI J 38 ((nI j).toNatClampNeg) ((ft_part J ((nI j) + w) ((J 37 2) - q)) + (ft_part J (((nI j) + w) + 1) q)))) (L' := L) (R' := zw_RC h sp la) rfl ?_
      rw [nI_clamp (by omega), ← nI_succ]
      exact ih (j + 1) _ hT (by omega) (by rw [show j + 1 + n = j + (n + 1) by omega]; exact hJ)
theorem ct_X7_draw {d : Nat} {I : zx_I} {L : zx_L} {h sp : Nat} {la : Option Nat} {hh : Int32} (hT : tk_ok I) : zx_M0 mm_X7_draw (d + 1) 0 0 [.ref 37, .int hh] zw_SC I L (zw_RC h sp la) (zw_ret (none) zw_SC (ft_draw I hh) L (zw_RC h sp la)) := by
  obtain ⟨m, hm1, hm6, hm⟩ := tk_m hT
  have hE : dr_loop (hh / I 37 2) (hh - hh / I 37 2 * I 37 2) m 0 I = ft_draw I hh := by
    unfold ft_draw dr_row
    rw [show (I 37 1).toInt.toNat = m by rw [hm, nI_toInt (by omega)]; omega]
    exact zr_of (fun b hb => dr_loop_ne m 0 I b hb)
  rw [← hE]
  refine zv_entry gd_X7_draw (Nat.le_of_ble_eq_true rfl) ?_
  refine zv_run 3 (pc' := 5) (lo' := [some (.ref 37), some (.int hh), none, none, none]) (st' := [.int (I 37 2), .int hh]) (I' := I) (L' := L) (R' := zw_RC h sp la) rfl ?_
  refine zv_idiv (zs_at rfl) (tk_ne hT) ?_
  refine zv_run 4 (pc' := 12) (lo' := [some (.ref 37), some (.int hh), some (.int (hh / (I 37 2))), none, none]) (st' := [.int (I 37 2), .int hh]) (I' := I) (L' := L) (R' := zw_RC h sp la) rfl ?_
  refine zv_irem (zs_at rfl) (tk_ne hT) ?_
  refine zv_run 3 (pc' := 17) (lo' := [some (.ref 37), some (.int hh), some (.int (hh / (I 37 2))), some (.int (hh - hh / (I 37 2) * (I 37 2))), some (.int 0)]) (st' := []) (I' := I) (L' := L) (R' := zw_RC h sp la) rfl ?_
  exact lp_X7_draw m 0 I hT (by omega) (by rw [hm, Nat.zero_add])
/-- a row of six becomes another's copy -/
def zcp (I : zx_I) (a0 a n : Nat) : zx_I := zr I a (va_cpy (I a0) (I a) 0 0 n)
theorem zx_uI_self {J : zx_I} {a j : Nat} : zx_uI J a j (J a j) = J := by
  funext b k
  unfold zx_uI
  by_cases hb : b = a
  · by_cases hk : k = j
    · simp [hb, hk]
    · simp [hb, hk]
  · simp [hb]
theorem zr_self {J : zx_I} {a : Nat} : zr J a (J a) = J := by
  funext b
  unfold zr
  by_cases hb : b = a
  · simp [hb]
  · simp [hb]
/-- a loop over a row, each place by itself -/
def zmap (J : zx_I) (a : Nat) (g : Nat → Int32 → Int32) (j n : Nat) : zx_I := zr J a (fun k => if j ≤ k ∧ k < j + n then g k (J a k) else J a k)
theorem zmap_0 {J : zx_I} {a : Nat} {g : Nat → Int32 → Int32} {j : Nat} : zmap J a g j 0 = J := by
  unfold zmap
  have : (fun k => if j ≤ k ∧ k < j + 0 then g k (J a k) else J a k) = J a := by
    funext k
    rw [if_neg (by omega)]
  rw [this, zr_self]
theorem zmap_s {J J' : zx_I} {a : Nat} {g : Nat → Int32 → Int32} {j n : Nat} (h : J' = zx_uI J a j (g j (J a j))) : zmap J' a g (j + 1) n = zmap J a g j (n + 1) := by
  subst h
  funext b k
  unfold zmap zr zx_uI
  by_cases hb : b = a
  · subst hb
    simp only [if_true]
    by_cases hk : k = j
    · subst hk
      rw [if_neg (by omega), if_pos rfl, if_pos (by omega)]
    · rw [if_neg hk]
      by_cases h1 : j ≤ k ∧ k < j + (n + 1)
      · rw [if_pos (by omega), if_pos h1]
      · rw [if_neg (by omega), if_neg h1]
  · simp [hb]
def ls_v (c l u : Int32) : Int32 := if u ≤ c then u else if u - l < c then c else u - l
def ft_lose (I : zx_I) (l : Int32) : zx_I := zmap I 38 (fun _ u => ls_v (I 37 3 * I 37 2) l u) 0 (I 37 1).toInt.toNat
theorem lp_X7_lose {d : Nat} {L : zx_L} {h sp : Nat} {la : Option Nat} {c l : Int32} : ∀ (n j : Nat) (J : zx_I), tk_ok J → j + n ≤ 6 → J 37 1 = nI (j + n) → zx_V mm_X7_lose (d + 1) z0 (zw_ret none zw_SC (zmap J 38 (fun _ u => ls_v c l u) j n) L (zw_RC h sp la)) zw_SC 12 [some (.ref 37), some (.int l), some (.int c), some (.int (nI j))] [] J L (zw_RC h sp la) := by
  intro n
  induction n with
  | zero =>
    intro j J hT hm hJ
    rw [zmap_0]
    refine zv_run 3 (pc' := 17) (lo' := [some (.ref 37), some (.int l), some (.int c), some (.int (nI j))]) (st' := [.int (J 37 1), .int (nI j)]) (I' := J) (L' := L) (R' := zw_RC h sp la) rfl ?_
    refine zv_icmp_ge (tgt := 54) (zs_at rfl) (by decide) (fun c17 => ?_) (fun c17 => ?_)
    · have _c := c17
      exact zv_vret (zs_at rfl) rfl ⟨Nat.le_refl _, Nat.le_refl _⟩ (zw_to rfl rfl rfl rfl)
    · exact absurd (by rw [hJ]; exact nI_le (by omega) (by omega)) c17
  | succ n ih =>
    intro j J hT hm hJ
    refine zv_run 3 (pc' := 17) (lo' := [some (.ref 37), some (.int l), some (.int c), some (.int (nI j))]) (st' := [.int (J 37 1), .int (nI j)]) (I' := J) (L' := L) (R' := zw_RC h sp la) rfl ?_
    refine zv_icmp_ge (tgt := 54) (zs_at rfl) (by decide) (fun c17 => ?_) (fun c17 => ?_)
    · exact absurd c17 (by rw [hJ]; exact nI_ge (by omega) (by omega))
    · have _c := c17
      refine zv_run 3 (pc' := 25) (lo' := [some (.ref 37), some (.int l), some (.int c), some (.int (nI j))]) (st' := [.int (nI j), .ref 38]) (I' := J) (L' := L) (R' := zw_RC h sp la) rfl ?_
      refine zv_iald (zs_at rfl) rfl (vp_in_nI (by omega) (by decide)) ?_
      refine zv_run 1 (pc' := 27) (lo' := [some (.ref 37), some (.int l), some (.int c), some (.int (nI j))]) (st' := [.int c, .int (J 38 ((nI j).toNatClampNeg))]) (I' := J) (L' := L) (R' := zw_RC h sp la) rfl ?_
      refine zv_icmp_le (tgt := 48) (zs_at rfl) (by decide) (fun c27 => ?_) (fun c27 => ?_)
      · have _c := c27
        refine zv_run 2 (pc' := 12) (lo' := [some (.ref 37), some (.int l), some (.int c), some (.int ((nI j) + 1))]) (st' := []) (I' := J) (L' := L) (R' := zw_RC h sp la) rfl ?_
        rw [← nI_succ, ← zmap_s (J := J) (n := n) (g := fun _ u => ls_v c l u) (J' := J) (by rw [show ls_v c l (J 38 j) = J 38 j from by rw [nI_clamp (by omega)] at c27; unfold ls_v; rw [if_pos c27]]; exact zx_uI_self.symm)]
        exact ih (j + 1) _ hT (by omega) (by rw [show j + 1 + n = j + (n + 1) by omega]; exact hJ)
      · have _c := c27
        refine zv_run 6 (pc' := 40) (lo' := [some (.ref 37), some (.int l), some (.int c), some (.int (nI j))]) (st' := [.int (nI j), .ref 38, .int (nI j), .ref 38]) (I' := J) (L' := L) (R' := zw_RC h sp la) rfl ?_
        refine zv_iald (zs_at rfl) rfl (vp_in_nI (by omega) (by decide)) ?_
        refine zv_run 3 (pc' := 44) (lo' := [some (.ref 37), some (.int l), some (.int c), some (.int (nI j))]) (st' := [.int c, .int ((J 38 ((nI j).toNatClampNeg)) - l), .int (nI j), .ref 38]) (I' := J) (L' := L) (R' := zw_RC h sp la) rfl ?_
        refine zv_max rfl zm_7_32 (Nat.le_of_ble_eq_true rfl) ⟨Nat.le_refl _, Nat.le_refl _⟩ ?_
        refine zv_iast (zs_at rfl) rfl (vp_in_nI (by omega) (by decide)) ?_
        refine zv_run 2 (pc' := 12) (lo' := [some (.ref 37), some (.int l), some (.int c), some (.int ((nI j) + 1))]) (st' := []) (I' := (zx_uI J 38 ((nI j).toNatClampNeg) (if ((J 38 ((nI j).toNatClampNeg)) - l) < c then c else ((J 38 ((nI j).toNatClampNeg)) - l)))) (L' := L) (R' := zw_RC h sp la) rfl ?_
        rw [nI_clamp (by omega), ← nI_succ, ← zmap_s (J := J) (n := n) (g := fun _ u => ls_v c l u) rfl]
        rw [show ls_v c l (J 38 j) = (if J 38 j - l < c then c else J 38 j - l) from by rw [nI_clamp (by omega)] at c27; unfold ls_v; rw [if_neg c27]]
        exact ih (j + 1) _ hT (by omega) (by rw [show j + 1 + n = j + (n + 1) by omega]; exact hJ)
theorem ct_X7_lose {d : Nat} {I : zx_I} {L : zx_L} {h sp : Nat} {la : Option Nat} {l : Int32} (hT : tk_ok I) : zx_M0 mm_X7_lose (d + 1) 0 0 [.ref 37, .int l] zw_SC I L (zw_RC h sp la) (zw_ret (none) zw_SC (ft_lose I l) L (zw_RC h sp la)) := by
  obtain ⟨m, hm1, hm6, hm⟩ := tk_m hT
  unfold ft_lose
  rw [show (I 37 1).toInt.toNat = m by rw [hm, nI_toInt (by omega)]; omega]
  refine zv_entry gd_X7_lose (Nat.le_of_ble_eq_true rfl) ?_
  refine zv_run 8 (pc' := 12) (lo' := [some (.ref 37), some (.int l), some (.int ((I 37 3) * (I 37 2))), some (.int 0)]) (st' := []) (I' := I) (L' := L) (R' := zw_RC h sp la) rfl ?_
  exact lp_X7_lose m 0 I hT (by omega) (by rw [hm, Nat.zero_add])
def wm_loop : Nat → zx_I → zx_I
  | 0, J => J
  | k + 1, J => wm_loop k (if J 38 (k + 1) ≤ J 38 k then J else zx_uI (zx_uI J 38 (k + 1) ((J 38 (k + 1) + J 38 k) / 2)) 38 k (J 38 (k + 1) + J 38 k - (J 38 (k + 1) + J 38 k) / 2))
theorem wm_loop_ne : ∀ (k : Nat) (J : zx_I) (b : Nat), b ≠ 38 → wm_loop k J b = J b
  | 0, _, _, _ => rfl
  | k + 1, J, b, hb => by
    unfold wm_loop
    rw [wm_loop_ne k _ b hb]
    split
    · rfl
    · rw [zx_uI_ne hb, zx_uI_ne hb]
def wm_row (I : zx_I) (f : Int32) : Nat → Int32 := wm_loop ((I 37 1).toInt.toNat - 1) (zx_uI I 38 ((I 37 1).toInt.toNat - 1) (I 38 ((I 37 1).toInt.toNat - 1) + f)) 38
def ft_warm (I : zx_I) (f : Int32) : zx_I := zr I 38 (wm_row I f)
theorem lp_X7_warm {d : Nat} {L : zx_L} {h sp : Nat} {la : Option Nat} {f : Int32} : ∀ (k : Nat) (x3 : Option Value) (J : zx_I), tk_ok J → k < 6 → zx_V mm_X7_warm d z0 (zw_ret none zw_SC (wm_loop k J) L (zw_RC h sp la)) zw_SC 43 [some (.ref 37), some (.int f), some (.int (nI k)), x3] [] J L (zw_RC h sp la) := by
  intro k
  induction k with
  | zero =>
    intro x3 J hT hk
    refine zv_run 1 (pc' := 44) (lo' := [some (.ref 37), some (.int f), some (.int (nI 0)), x3]) (st' := [.int (nI 0)]) (I' := J) (L' := L) (R' := zw_RC h sp la) rfl ?_
    refine zv_if_le (tgt := 108) (zs_at rfl) (by decide) (fun c44 => ?_) (fun c44 => ?_)
    · have _c := c44
      exact zv_vret (zs_at rfl) rfl ⟨Nat.le_refl _, Nat.le_refl _⟩ (zw_to rfl rfl rfl rfl)
    · exact absurd (by decide) c44
  | succ k ih =>
    intro x3 J hT hk
    refine zv_run 1 (pc' := 44) (lo' := [some (.ref 37), some (.int f), some (.int (nI (k + 1))), x3]) (st' := [.int (nI (k + 1))]) (I' := J) (L' := L) (R' := zw_RC h sp la) rfl ?_
    refine zv_if_le (tgt := 108) (zs_at rfl) (by decide) (fun c44 => ?_) (fun c44 => ?_)
    · exact absurd c44 (nI_nle (by omega) (by omega))
    · have _c := c44
      refine zv_run 3 (pc' := 52) (lo' := [some (.ref 37), some (.int f), some (.int (nI (k + 1))), x3]) (st' := [.int (nI (k + 1)), .ref 38]) (I' := J) (L' := L) (R' := zw_RC h sp la) rfl ?_
      refine zv_iald (zs_at rfl) rfl (vp_in_nI (show k + 1 < 6 by omega) (by decide)) ?_
      refine zv_run 5 (pc' := 60) (lo' := [some (.ref 37), some (.int f), some (.int (nI (k + 1))), x3]) (st' := [.int ((nI (k + 1)) - 1), .ref 38, .int (J 38 ((nI (k + 1)).toNatClampNeg))]) (I' := J) (L' := L) (R' := zw_RC h sp la) rfl ?_
      refine zv_iald (zs_at rfl) rfl (by rw [nI_pred]; exact vp_in_nI (show k < 6 by omega) (by decide)) ?_
      refine zv_icmp_le (tgt := 102) (zs_at rfl) (by decide) (fun c61 => ?_) (fun c61 => ?_)
      · have _c := c61
        refine zv_run 2 (pc' := 43) (lo' := [some (.ref 37), some (.int f), some (.int ((nI (k + 1)) + (-1))), x3]) (st' := []) (I' := J) (L' := L) (R' := zw_RC h sp la) rfl ?_
        rw [nI_pred, nI_clamp (show k + 1 < 2 ^ 31 by omega), nI_clamp (show k < 2 ^ 31 by omega)] at c61
        rw [show wm_loop (k + 1) J = wm_loop k J from by rw [show wm_loop (k + 1) J = wm_loop k (if J 38 (k + 1) ≤ J 38 k then J else zx_uI (zx_uI J 38 (k + 1) ((J 38 (k + 1) + J 38 k) / 2)) 38 k (J 38 (k + 1) + J 38 k - (J 38 (k + 1) + J 38 k) / 2)) from rfl, if_pos c61]]
        rw [show nI (k + 1) + (-1) = nI k from pk_m1 k]
        exact ih _ _ hT (by omega)
      · have _c := c61
        refine zv_run 3 (pc' := 69) (lo' := [some (.ref 37), some (.int f), some (.int (nI (k + 1))), x3]) (st' := [.int (nI (k + 1)), .ref 38]) (I' := J) (L' := L) (R' := zw_RC h sp la) rfl ?_
        refine zv_iald (zs_at rfl) rfl (vp_in_nI (show k + 1 < 6 by omega) (by decide)) ?_
        refine zv_run 5 (pc' := 77) (lo' := [some (.ref 37), some (.int f), some (.int (nI (k + 1))), x3]) (st' := [.int ((nI (k + 1)) - 1), .ref 38, .int (J 38 ((nI (k + 1)).toNatClampNeg))]) (I' := J) (L' := L) (R' := zw_RC h sp la) rfl ?_
        refine zv_iald (zs_at rfl) rfl (by rw [nI_pred]; exact vp_in_nI (show k < 6 by omega) (by decide)) ?_
        refine zv_run 8 (pc' := 88) (lo' := [some (.ref 37), some (.int f), some (.int (nI (k + 1))), some (.int ((J 38 ((nI (k + 1)).toNatClampNeg)) + (J 38 (((nI (k + 1)) - 1).toNatClampNeg))))]) (st' := [.int (((J 38 ((nI (k + 1)).toNatClampNeg)) + (J 38 (((nI (k + 1)) - 1).toNatClampNeg))) / 2), .int (nI (k + 1)), .ref 38]) (I' := J) (L' := L) (R' := zw_RC h sp la) rfl ?_
        refine zv_iast (zs_at rfl) rfl (vp_in_nI (show k + 1 < 6 by omega) (by decide)) ?_
        refine zv_run 10 (pc' := 101) (lo' := [some (.ref 37), some (.int f), some (.int (nI (k + 1))), some (.int ((J 38 ((nI (k + 1)).toNatClampNeg)) + (J 38 (((nI (k + 1)) - 1).toNatClampNeg))))]) (st' := [.int (((J 38 ((nI (k + 1)).toNatClampNeg)) + (J 38 (((nI (k + 1)) - 1).toNatClampNeg))) - (((J 38 ((nI (k + 1)).toNatClampNeg)) + (J 38 (((nI (k + 1)) - 1).toNatClampNeg))) / 2)), .int ((nI (k + 1)) - 1), .ref 38]) (I' := (zx_uI J 38 ((nI (k + 1)).toNatClampNeg) (((J 38 ((nI (k + 1)).toNatClampNeg)) + (J 38 (((nI (k + 1)) - 1).toNatClampNeg))) / 2))) (L' := L) (R' := zw_RC h sp la) rfl ?_
        refine zv_iast (zs_at rfl) rfl (by rw [nI_pred]; exact vp_in_nI (show k < 6 by omega) (by decide)) ?_
        refine zv_run 2 (pc' := 43) (lo' := [some (.ref 37), some (.int f), some (.int ((nI (k + 1)) + (-1))), some (.int ((J 38 ((nI (k + 1)).toNatClampNeg)) + (J 38 (((nI (k + 1)) - 1).toNatClampNeg))))]) (st' := []) (I' := (zx_uI (zx_uI J 38 ((nI (k + 1)).toNatClampNeg) (((J 38 ((nI (k + 1)).toNatClampNeg)) + (J 38 (((nI (k + 1)) - 1).toNatClampNeg))) / 2)) 38 (((nI (k + 1)) - 1).toNatClampNeg) (((J 38 ((nI (k + 1)).toNatClampNeg)) + (J 38 (((nI (k + 1)) - 1).toNatClampNeg))) - (((J 38 ((nI (k + 1)).toNatClampNeg)) + (J 38 (((nI (k + 1)) - 1).toNatClampNeg))) / 2)))) (L' := L) (R' := zw_RC h sp la) rfl ?_
        rw [nI_pred, nI_clamp (show k + 1 < 2 ^ 31 by omega), nI_clamp (show k < 2 ^ 31 by omega)] at *
        rw [show wm_loop (k + 1) J = wm_loop k (zx_uI (zx_uI J 38 (k + 1) ((J 38 (k + 1) + J 38 k) / 2)) 38 k (J 38 (k + 1) + J 38 k - (J 38 (k + 1) + J 38 k) / 2)) from by rw [show wm_loop (k + 1) J = wm_loop k (if J 38 (k + 1) ≤ J 38 k then J else zx_uI (zx_uI J 38 (k + 1) ((J 38 (k + 1) + J 38 k) / 2)) 38 k (J 38 (k + 1) + J 38 k - (J 38 (k + 1) + J 38 k) / 2)) from rfl, if_neg c61]]
        rw [show nI (k + 1) + (-1) = nI k from pk_m1 k]
        exact ih _ _ hT (by omega)
theorem ct_X7_warm {d : Nat} {I : zx_I} {L : zx_L} {h sp : Nat} {la : Option Nat} {f : Int32} (hT : tk_ok I) : zx_M0 mm_X7_warm (d + 0) 0 0 [.ref 37, .int f] zw_SC I L (zw_RC h sp la) (zw_ret (none) zw_SC (ft_warm I f) L (zw_RC h sp la)) := by
  obtain ⟨m, hm1, hm6, hm⟩ := tk_m hT
  have hmt : (I 37 1).toInt.toNat = m := by rw [hm, nI_toInt (by omega)]; omega
  have hE : wm_loop (m - 1) (zx_uI I 38 (m - 1) (I 38 (m - 1) + f)) = ft_warm I f := by
    unfold ft_warm wm_row
    rw [hmt]
    exact zr_of (fun b hb => by rw [wm_loop_ne _ _ b hb, zx_uI_ne hb])
  rw [← hE]
  have e1 : I 37 1 - 1 = nI (m - 1) := by rw [hm]; exact pk_sub (a := m) (b := 1) hm1
  refine zv_entry gd_X7_warm (Nat.le_of_ble_eq_true rfl) ?_
  refine zv_run 3 (pc' := 5) (lo' := [some (.ref 37), some (.int f), none, none]) (st' := [.int 1, .int (I 37 1)]) (I' := I) (L' := L) (R' := zw_RC h sp la) rfl ?_
  refine zv_icmp_lt (tgt := 20) (zs_at rfl) (by decide) (fun c5 => ?_) (fun c5 => ?_)
  · exact absurd c5 (by rw [hm]; exact nI_nlt hm1 (by omega))
  · have _c := c5
    refine zv_run 5 (pc' := 17) (lo' := [some (.ref 37), some (.int f), none, none]) (st' := [.int 6, .int (I 37 1)]) (I' := I) (L' := L) (R' := zw_RC h sp la) rfl ?_
    refine zv_icmp_le (tgt := 21) (zs_at rfl) (by decide) (fun c17 => ?_) (fun c17 => ?_)
    · have _c := c17
      refine zv_run 7 (pc' := 32) (lo' := [some (.ref 37), some (.int f), none, none]) (st' := [.int ((I 37 1) - 1), .ref 38, .int ((I 37 1) - 1), .ref 38]) (I' := I) (L' := L) (R' := zw_RC h sp la) rfl ?_
      refine zv_iald (zs_at rfl) rfl (by rw [e1]; exact vp_in_nI (by omega) (by decide)) ?_
      refine zv_run 2 (pc' := 35) (lo' := [some (.ref 37), some (.int f), none, none]) (st' := [.int ((I 38 (((I 37 1) - 1).toNatClampNeg)) + f), .int ((I 37 1) - 1), .ref 38]) (I' := I) (L' := L) (R' := zw_RC h sp la) rfl ?_
      refine zv_iast (zs_at rfl) rfl (by rw [e1]; exact vp_in_nI (by omega) (by decide)) ?_
      refine zv_run 5 (pc' := 43) (lo' := [some (.ref 37), some (.int f), some (.int ((I 37 1) - 1)), none]) (st' := []) (I' := (zx_uI I 38 (((I 37 1) - 1).toNatClampNeg) ((I 38 (((I 37 1) - 1).toNatClampNeg)) + f))) (L' := L) (R' := zw_RC h sp la) rfl ?_
      rw [e1, nI_clamp (by omega)]
      exact lp_X7_warm (m - 1) none _ hT (by omega)
    · exact absurd (by rw [hm]; exact nI_le hm6 (by decide)) c17
/-- a house in bounds -/
def hs_tk (I : zx_I) (a : Nat) : Prop := 1 ≤ (I a 1).toInt ∧ (I a 1).toInt ≤ 6 ∧ 1 ≤ (I a 2).toInt ∧ (I a 2).toInt ≤ 60
def ft_fill (I : zx_I) (a : Nat) : zx_I := zmap (zx_uI (zx_uI (zx_uI I 37 1 (I a 1)) 37 2 (I a 2)) 37 3 (I a 3)) 38 (fun _ _ => I a 4 * I a 2) 0 (I a 1).toInt.toNat
theorem hs_m {I : zx_I} {a : Nat} (h : hs_tk I a) : ∃ m, 1 ≤ m ∧ m ≤ 6 ∧ I a 1 = nI m := by
  refine ⟨(I a 1).toInt.toNat, ?_, ?_, ?_⟩
  · have := h.1; omega
  · have := h.2.1; omega
  · apply Int32.toInt_inj.mp
    rw [nI_toInt (by have := h.2.1; omega)]
    have := h.1
    omega
theorem lp_X7_fill_4 {d : Nat} {L : zx_L} {h sp : Nat} {la : Option Nat} {v : Int32} : ∀ (n j : Nat) (J : zx_I), j + n ≤ 6 → J 37 1 = nI (j + n) → J 4 4 * J 37 2 = v → zx_V mm_X7_fill (d + 1) z0 (zw_ret none zw_SC (zmap J 38 (fun _ _ => v) j n) L (zw_RC h sp la)) zw_SC 38 [some (.ref 37), some (.ref 4), some (.int (nI j))] [] J L (zw_RC h sp la) := by
  intro n
  induction n with
  | zero =>
    intro j J hm hJ hv
    rw [zmap_0]
    refine zv_run 3 (pc' := 43) (lo' := [some (.ref 37), some (.ref 4), some (.int (nI j))]) (st' := [.int (J 37 1), .int (nI j)]) (I' := J) (L' := L) (R' := zw_RC h sp la) rfl ?_
    refine zv_icmp_ge (tgt := 67) (zs_at rfl) (by decide) (fun c43 => ?_) (fun c43 => ?_)
    · have _c := c43
      exact zv_vret (zs_at rfl) rfl ⟨Nat.le_refl _, Nat.le_refl _⟩ (zw_to rfl rfl rfl rfl)
    · exact absurd (by rw [hJ]; exact nI_le (by omega) (by omega)) c43
  | succ n ih =>
    intro j J hm hJ hv
    refine zv_run 3 (pc' := 43) (lo' := [some (.ref 37), some (.ref 4), some (.int (nI j))]) (st' := [.int (J 37 1), .int (nI j)]) (I' := J) (L' := L) (R' := zw_RC h sp la) rfl ?_
    refine zv_icmp_ge (tgt := 67) (zs_at rfl) (by decide) (fun c43 => ?_) (fun c43 => ?_)
    · exact absurd c43 (by rw [hJ]; exact nI_ge (by omega) (by omega))
    · have _c := c43
      refine zv_run 8 (pc' := 60) (lo' := [some (.ref 37), some (.ref 4), some (.int (nI j))]) (st' := [.int ((J 4 4) * (J 37 2)), .int (nI j), .ref 38]) (I' := J) (L' := L) (R' := zw_RC h sp la) rfl ?_
      refine zv_iast (zs_at rfl) rfl (vp_in_nI (by omega) (by decide)) ?_
      refine zv_run 2 (pc' := 38) (lo' := [some (.ref 37), some (.ref 4), some (.int ((nI j) + 1))]) (st' := []) (I' := (zx_uI J 38 ((nI j).toNatClampNeg) ((J 4 4) * (J 37 2)))) (L' := L) (R' := zw_RC h sp la) rfl ?_
      rw [nI_clamp (by omega), ← nI_succ, ← zmap_s (J := J) (n := n) (g := fun _ _ => v) rfl]
      rw [show J 4 4 * J 37 2 = v from hv]
      exact ih (j + 1) _ (by omega) (by rw [show j + 1 + n = j + (n + 1) by omega]; exact hJ) hv
theorem lp_X7_fill_14 {d : Nat} {L : zx_L} {h sp : Nat} {la : Option Nat} {v : Int32} : ∀ (n j : Nat) (J : zx_I), j + n ≤ 6 → J 37 1 = nI (j + n) → J 14 4 * J 37 2 = v → zx_V mm_X7_fill (d + 1) z0 (zw_ret none zw_SC (zmap J 38 (fun _ _ => v) j n) L (zw_RC h sp la)) zw_SC 38 [some (.ref 37), some (.ref 14), some (.int (nI j))] [] J L (zw_RC h sp la) := by
  intro n
  induction n with
  | zero =>
    intro j J hm hJ hv
    rw [zmap_0]
    refine zv_run 3 (pc' := 43) (lo' := [some (.ref 37), some (.ref 14), some (.int (nI j))]) (st' := [.int (J 37 1), .int (nI j)]) (I' := J) (L' := L) (R' := zw_RC h sp la) rfl ?_
    refine zv_icmp_ge (tgt := 67) (zs_at rfl) (by decide) (fun c43 => ?_) (fun c43 => ?_)
    · have _c := c43
      exact zv_vret (zs_at rfl) rfl ⟨Nat.le_refl _, Nat.le_refl _⟩ (zw_to rfl rfl rfl rfl)
    · exact absurd (by rw [hJ]; exact nI_le (by omega) (by omega)) c43
  | succ n ih =>
    intro j J hm hJ hv
    refine zv_run 3 (pc' := 43) (lo' := [some (.ref 37), some (.ref 14), some (.int (nI j))]) (st' := [.int (J 37 1), .int (nI j)]) (I' := J) (L' := L) (R' := zw_RC h sp la) rfl ?_
    refine zv_icmp_ge (tgt := 67) (zs_at rfl) (by decide) (fun c43 => ?_) (fun c43 => ?_)
    · exact absurd c43 (by rw [hJ]; exact nI_ge (by omega) (by omega))
    · have _c := c43
      refine zv_run 8 (pc' := 60) (lo' := [some (.ref 37), some (.ref 14), some (.int (nI j))]) (st' := [.int ((J 14 4) * (J 37 2)), .int (nI j), .ref 38]) (I' := J) (L' := L) (R' := zw_RC h sp la) rfl ?_
      refine zv_iast (zs_at rfl) rfl (vp_in_nI (by omega) (by decide)) ?_
      refine zv_run 2 (pc' := 38) (lo' := [some (.ref 37), some (.ref 14), some (.int ((nI j) + 1))]) (st' := []) (I' := (zx_uI J 38 ((nI j).toNatClampNeg) ((J 14 4) * (J 37 2)))) (L' := L) (R' := zw_RC h sp la) rfl ?_
      rw [nI_clamp (by omega), ← nI_succ, ← zmap_s (J := J) (n := n) (g := fun _ _ => v) rfl]
      rw [show J 14 4 * J 37 2 = v from hv]
      exact ih (j + 1) _ (by omega) (by rw [show j + 1 + n = j + (n + 1) by omega]; exact hJ) hv
theorem ct_X7_fill {d : Nat} {I : zx_I} {L : zx_L} {h sp : Nat} {la : Option Nat} {a : Nat}  (ha : a = 4 ∨ a = 14) (hH : hs_tk I a) : zx_M0 mm_X7_fill (d + 1) 0 0 [.ref 37, .ref a] zw_SC I L (zw_RC h sp la) (zw_ret (none) zw_SC (ft_fill I a) L (zw_RC h sp la)) := by
  obtain ⟨m, hm1, hm6, hm⟩ := hs_m hH
  unfold ft_fill
  rw [show (I a 1).toInt.toNat = m by rw [hm, nI_toInt (by omega)]; omega]
  have e1 : (if (6 : Int32) < I a 1 then 6 else I a 1) = I a 1 := if_neg (by rw [hm]; exact nI_nlt (a := 6) (b := m) hm6 (by decide))
  have e2 : (if I a 2 < 1 then 1 else I a 2) = I a 2 := if_neg (by rw [Int32.lt_iff_toInt_lt]; have := hH.2.2.1; have h1 : (1 : Int32).toInt = 1 := rfl; omega)
  rcases ha with rfl | rfl
  · refine zv_entry gd_X7_fill (Nat.le_of_ble_eq_true rfl) ?_
    refine zv_run 6 (pc' := 10) (lo' := [some (.ref 37), some (.ref 4), none]) (st' := [.int 6, .int (I 4 1), .ref 37]) (I' := I) (L' := L) (R' := zw_RC h sp la) rfl ?_
    refine zv_min rfl zm_7_24 (Nat.le_of_ble_eq_true rfl) ⟨Nat.le_refl _, Nat.le_refl _⟩ ?_
    refine zv_run 5 (pc' := 22) (lo' := [some (.ref 37), some (.ref 4), none]) (st' := [.int 1, .int (I 4 2), .ref 37]) (I' := (zx_uI I 37 1 (if 6 < (I 4 1) then 6 else (I 4 1)))) (L' := L) (R' := zw_RC h sp la) rfl ?_
    refine zv_max rfl zm_7_32 (Nat.le_of_ble_eq_true rfl) ⟨Nat.le_refl _, Nat.le_refl _⟩ ?_
    refine zv_run 7 (pc' := 38) (lo' := [some (.ref 37), some (.ref 4), some (.int 0)]) (st' := []) (I' := (zx_uI (zx_uI (zx_uI I 37 1 (if 6 < (I 4 1) then 6 else (I 4 1))) 37 2 (if (I 4 2) < 1 then 1 else (I 4 2))) 37 3 (I 4 3))) (L' := L) (R' := zw_RC h sp la) rfl ?_
    rw [show (if I 4 2 < 1 then 1 else I 4 2) = I 4 2 from e2, show (if (6 : Int32) < I 4 1 then 6 else I 4 1) = I 4 1 from e1]
    exact lp_X7_fill_4 m 0 _ (by omega) (by rw [Nat.zero_add]; exact hm) rfl
  · refine zv_entry gd_X7_fill (Nat.le_of_ble_eq_true rfl) ?_
    refine zv_run 6 (pc' := 10) (lo' := [some (.ref 37), some (.ref 14), none]) (st' := [.int 6, .int (I 14 1), .ref 37]) (I' := I) (L' := L) (R' := zw_RC h sp la) rfl ?_
    refine zv_min rfl zm_7_24 (Nat.le_of_ble_eq_true rfl) ⟨Nat.le_refl _, Nat.le_refl _⟩ ?_
    refine zv_run 5 (pc' := 22) (lo' := [some (.ref 37), some (.ref 14), none]) (st' := [.int 1, .int (I 14 2), .ref 37]) (I' := (zx_uI I 37 1 (if 6 < (I 14 1) then 6 else (I 14 1)))) (L' := L) (R' := zw_RC h sp la) rfl ?_
    refine zv_max rfl zm_7_32 (Nat.le_of_ble_eq_true rfl) ⟨Nat.le_refl _, Nat.le_refl _⟩ ?_
    refine zv_run 7 (pc' := 38) (lo' := [some (.ref 37), some (.ref 14), some (.int 0)]) (st' := []) (I' := (zx_uI (zx_uI (zx_uI I 37 1 (if 6 < (I 14 1) then 6 else (I 14 1))) 37 2 (if (I 14 2) < 1 then 1 else (I 14 2))) 37 3 (I 14 3))) (L' := L) (R' := zw_RC h sp la) rfl ?_
    rw [show (if I 14 2 < 1 then 1 else I 14 2) = I 14 2 from e2, show (if (6 : Int32) < I 14 1 then 6 else I 14 1) = I 14 1 from e1]
    exact lp_X7_fill_14 m 0 _ (by omega) (by rw [Nat.zero_add]; exact hm) rfl
def ut_sum (u : Nat → Int32) : Nat → Int32
  | 0 => 0
  | n + 1 => ut_sum u n + u n
def ft_top (I : zx_I) (w m : Nat) (h : Int32) : Int32 := if w < m then ut_sum (I 38) w + I 38 w * (h - h / I 37 2 * I 37 2) / I 37 2 else ut_sum (I 38) w
theorem tl_X7_unitsOfTop {d : Nat} {I : zx_I} {L : zx_L} {h sp : Nat} {la : Option Nat} {hh : Int32} {w m : Nat} {x4 : Option Value} (hT : tk_ok I) (hm : I 37 1 = nI m) (hm6 : m ≤ 6) (hw : w ≤ m) : zx_V mm_X7_unitsOfTop d z0 (zw_ret (some (.int (ft_top I w m hh))) zw_SC I L (zw_RC h sp la)) zw_SC 43 [some (.ref 37), some (.int hh), some (.int (nI w)), some (.int (ut_sum (I 38) w)), x4] [] I L (zw_RC h sp la) := by
  refine zv_run 1 (pc' := 44) (lo' := [some (.ref 37), some (.int hh), some (.int (nI w)), some (.int (ut_sum (I 38) w)), x4]) (st' := [.int (nI w)]) (I' := I) (L' := L) (R' := zw_RC h sp la) rfl ?_
  refine zv_if_lt (tgt := 55) (zs_at rfl) (by decide) (fun c44 => ?_) (fun c44 => ?_)
  · exact absurd c44 (nI_pos (by omega))
  · have _c := c44
    refine zv_run 3 (pc' := 52) (lo' := [some (.ref 37), some (.int hh), some (.int (nI w)), some (.int (ut_sum (I 38) w)), x4]) (st' := [.int (I 37 1), .int (nI w)]) (I' := I) (L' := L) (R' := zw_RC h sp la) rfl ?_
    refine zv_icmp_lt (tgt := 59) (zs_at rfl) (by decide) (fun c52 => ?_) (fun c52 => ?_)
    · have _c := c52
      refine zv_run 4 (pc' := 65) (lo' := [some (.ref 37), some (.int hh), some (.int (nI w)), some (.int (ut_sum (I 38) w)), x4]) (st' := [.int (nI w), .ref 38, .int (ut_sum (I 38) w)]) (I' := I) (L' := L) (R' := zw_RC h sp la) rfl ?_
      refine zv_iald (zs_at rfl) rfl (vp_in_nI (by have q := c52; rw [hm] at q; have := (nI_ltI (by omega) (by omega)).mp q; omega) (by decide)) ?_
      refine zv_run 3 (pc' := 71) (lo' := [some (.ref 37), some (.int hh), some (.int (nI w)), some (.int (ut_sum (I 38) w)), x4]) (st' := [.int (I 37 2), .int hh, .int (I 38 ((nI w).toNatClampNeg)), .int (ut_sum (I 38) w)]) (I' := I) (L' := L) (R' := zw_RC h sp la) rfl ?_
      refine zv_irem (zs_at rfl) (tk_ne hT) ?_
      refine zv_run 3 (pc' := 77) (lo' := [some (.ref 37), some (.int hh), some (.int (nI w)), some (.int (ut_sum (I 38) w)), x4]) (st' := [.int (I 37 2), .int ((I 38 ((nI w).toNatClampNeg)) * (hh - hh / (I 37 2) * (I 37 2))), .int (ut_sum (I 38) w)]) (I' := I) (L' := L) (R' := zw_RC h sp la) rfl ?_
      refine zv_idiv (zs_at rfl) (tk_ne hT) ?_
      refine zv_run 1 (pc' := 79) (lo' := [some (.ref 37), some (.int hh), some (.int (nI w)), some (.int (ut_sum (I 38) w)), x4]) (st' := [.int ((ut_sum (I 38) w) + (((I 38 ((nI w).toNatClampNeg)) * (hh - hh / (I 37 2) * (I 37 2))) / (I 37 2)))]) (I' := I) (L' := L) (R' := zw_RC h sp la) rfl ?_
      exact zv_iret (zs_at rfl) rfl ⟨Nat.le_refl _, Nat.le_refl _⟩ (zw_to (by unfold ft_top; rw [if_pos (by rw [hm] at c52; exact (nI_ltI (by omega) (by omega)).mp c52), nI_clamp (by omega)]) rfl rfl rfl)
    · have _c := c52
      refine zv_run 2 (pc' := 79) (lo' := [some (.ref 37), some (.int hh), some (.int (nI w)), some (.int (ut_sum (I 38) w)), x4]) (st' := [.int (ut_sum (I 38) w)]) (I' := I) (L' := L) (R' := zw_RC h sp la) rfl ?_
      exact zv_iret (zs_at rfl) rfl ⟨Nat.le_refl _, Nat.le_refl _⟩ (zw_to (by unfold ft_top; rw [if_neg (by rw [hm] at c52; exact fun q => c52 (nI_lt q (by omega)))]) rfl rfl rfl)
theorem lp_X7_unitsOfTop {d : Nat} {I : zx_I} {L : zx_L} {h sp : Nat} {la : Option Nat} {hh : Int32} {w m : Nat} (hT : tk_ok I) (hm : I 37 1 = nI m) (hm6 : m ≤ 6) (hw : w ≤ m) : ∀ (n j : Nat), j + n = w → zx_V mm_X7_unitsOfTop d z0 (zw_ret (some (.int (ft_top I w m hh))) zw_SC I L (zw_RC h sp la)) zw_SC 12 [some (.ref 37), some (.int hh), some (.int (nI w)), some (.int (ut_sum (I 38) j)), some (.int (nI j))] [] I L (zw_RC h sp la) := by
  intro n
  induction n with
  | zero =>
    intro j hj
    rw [Nat.add_zero] at hj
    subst hj
    refine zv_run 2 (pc' := 15) (lo' := [some (.ref 37), some (.int hh), some (.int (nI j)), some (.int (ut_sum (I 38) j)), some (.int (nI j))]) (st' := [.int (nI j), .int (nI j)]) (I' := I) (L' := L) (R' := zw_RC h sp la) rfl ?_
    refine zv_icmp_ge (tgt := 43) (zs_at rfl) (by decide) (fun c15 => ?_) (fun c15 => ?_)
    · have _c := c15
      exact tl_X7_unitsOfTop hT hm hm6 hw
    · exact absurd (Int32.le_refl _) c15
  | succ n ih =>
    intro j hj
    refine zv_run 2 (pc' := 15) (lo' := [some (.ref 37), some (.int hh), some (.int (nI w)), some (.int (ut_sum (I 38) j)), some (.int (nI j))]) (st' := [.int (nI w), .int (nI j)]) (I' := I) (L' := L) (R' := zw_RC h sp la) rfl ?_
    refine zv_icmp_ge (tgt := 43) (zs_at rfl) (by decide) (fun c15 => ?_) (fun c15 => ?_)
    · exact absurd c15 (nI_ge (by omega) (by omega))
    · have _c := c15
      refine zv_run 3 (pc' := 24) (lo' := [some (.ref 37), some (.int hh), some (.int (nI w)), some (.int (ut_sum (I 38) j)), some (.int (nI j))]) (st' := [.int (I 37 1), .int (nI j)]) (I' := I) (L' := L) (R' := zw_RC h sp la) rfl ?_
      refine zv_icmp_ge (tgt := 43) (zs_at rfl) (by decide) (fun c24 => ?_) (fun c24 => ?_)
      · exact absurd c24 (by rw [hm]; exact nI_ge (by omega) (by omega))
      · have _c := c24
        refine zv_run 4 (pc' := 34) (lo' := [some (.ref 37), some (.int hh), some (.int (nI w)), some (.int (ut_sum (I 38) j)), some (.int (nI j))]) (st' := [.int (nI j), .ref 38, .int (ut_sum (I 38) j)]) (I' := I) (L' := L) (R' := zw_RC h sp la) rfl ?_
        refine zv_iald (zs_at rfl) rfl (vp_in_nI (by omega) (by decide)) ?_
        refine zv_run 4 (pc' := 12) (lo' := [some (.ref 37), some (.int hh), some (.int (nI w)), some (.int ((ut_sum (I 38) j) + (I 38 ((nI j).toNatClampNeg)))), some (.int ((nI j) + 1))]) (st' := []) (I' := I) (L' := L) (R' := zw_RC h sp la) rfl ?_
        rw [nI_clamp (by omega), ← nI_succ]
        exact ih (j + 1) (by omega)
theorem ct_X7_unitsOfTop {d : Nat} {I : zx_I} {L : zx_L} {h sp : Nat} {la : Option Nat} {hh : Int32} {w m : Nat} (hT : tk_ok I) (hm : I 37 1 = nI m) (hm6 : m ≤ 6) (hw : w ≤ m) (hq : hh / I 37 2 = nI w) : zx_M0 mm_X7_unitsOfTop (d + 0) 0 0 [.ref 37, .int hh] zw_SC I L (zw_RC h sp la) (zw_ret (some (.int (ft_top I w m hh))) zw_SC I L (zw_RC h sp la)) := by
  refine zv_entry gd_X7_unitsOfTop (Nat.le_of_ble_eq_true rfl) ?_
  refine zv_run 3 (pc' := 5) (lo' := [some (.ref 37), some (.int hh), none, none, none]) (st' := [.int (I 37 2), .int hh]) (I' := I) (L' := L) (R' := zw_RC h sp la) rfl ?_
  refine zv_idiv (zs_at rfl) (tk_ne hT) ?_
  refine zv_run 5 (pc' := 12) (lo' := [some (.ref 37), some (.int hh), some (.int (hh / (I 37 2))), some (.int 0), some (.int 0)]) (st' := []) (I' := I) (L' := L) (R' := zw_RC h sp la) rfl ?_
  rw [hq]
  exact lp_X7_unitsOfTop hT hm hm6 hw w 0 (Nat.zero_add w)
def pf_loop (u : Nat → Int32) (p c most : Int32) : Nat → Nat → Int32 → Int32
  | 0, _, _ => -4
  | n + 1, k, ms => if nI k * p ≥ most then -4 else
    if u k - c * p ≤ 0 then pf_loop u p c most n (k + 1) (ms - (u k - c * p)) else
    if (ms * p + (u k - c * p) - 1) / (u k - c * p) > p then pf_loop u p c most n (k + 1) (ms - (u k - c * p)) else
    if nI k * p + (ms * p + (u k - c * p) - 1) / (u k - c * p) > most then pf_loop u p c most n (k + 1) (ms - (u k - c * p)) else
    nI k * p + (ms * p + (u k - c * p) - 1) / (u k - c * p)
theorem pf_loop_s {u : Nat → Int32} {p c most : Int32} {n k : Nat} {ms : Int32} : pf_loop u p c most (n + 1) k ms = if nI k * p ≥ most then -4 else
    if u k - c * p ≤ 0 then pf_loop u p c most n (k + 1) (ms - (u k - c * p)) else
    if (ms * p + (u k - c * p) - 1) / (u k - c * p) > p then pf_loop u p c most n (k + 1) (ms - (u k - c * p)) else
    if nI k * p + (ms * p + (u k - c * p) - 1) / (u k - c * p) > most then pf_loop u p c most n (k + 1) (ms - (u k - c * p)) else
    nI k * p + (ms * p + (u k - c * p) - 1) / (u k - c * p) := rfl
def ft_pints (I : zx_I) (more most : Int32) : Int32 := if more > 0 then pf_loop (I 38) (I 37 2) (I 37 3) most (I 37 1).toInt.toNat 0 more else 0
theorem lp_X7_pintsFor {d : Nat} {I : zx_I} {L : zx_L} {h sp : Nat} {la : Option Nat} {more most : Int32} {m : Nat} (hT : tk_ok I) (hm : I 37 1 = nI m) (hm6 : m ≤ 6) : ∀ (n k : Nat) (ms : Int32) (x5 x6 : Option Value), k + n = m → zx_V mm_X7_pintsFor d z0 (zw_ret (some (.int (pf_loop (I 38) (I 37 2) (I 37 3) most n k ms))) zw_SC I L (zw_RC h sp la)) zw_SC 11 [some (.ref 37), some (.int more), some (.int most), some (.int ms), some (.int (nI k)), x5, x6] [] I L (zw_RC h sp la) := by
  intro n
  induction n with
  | zero =>
    intro k ms x5 x6 hk
    refine zv_run 3 (pc' := 17) (lo' := [some (.ref 37), some (.int more), some (.int most), some (.int ms), some (.int (nI k)), x5, x6]) (st' := [.int (I 37 1), .int (nI k)]) (I' := I) (L' := L) (R' := zw_RC h sp la) rfl ?_
    refine zv_icmp_ge (tgt := 116) (zs_at rfl) (by decide) (fun c17 => ?_) (fun c17 => ?_)
    · have _c := c17
      refine zv_run 1 (pc' := 118) (lo' := [some (.ref 37), some (.int more), some (.int most), some (.int ms), some (.int (nI k)), x5, x6]) (st' := [.int (-4)]) (I' := I) (L' := L) (R' := zw_RC h sp la) rfl ?_
      exact zv_iret (zs_at rfl) rfl ⟨Nat.le_refl _, Nat.le_refl _⟩ (zw_to (by first | rfl | (rw [pf_loop_s, if_pos c28])) rfl rfl rfl)
    · exact absurd (by rw [hm]; exact nI_le (by omega) (by omega)) c17
  | succ n ih =>
    intro k ms x5 x6 hk
    refine zv_run 3 (pc' := 17) (lo' := [some (.ref 37), some (.int more), some (.int most), some (.int ms), some (.int (nI k)), x5, x6]) (st' := [.int (I 37 1), .int (nI k)]) (I' := I) (L' := L) (R' := zw_RC h sp la) rfl ?_
    refine zv_icmp_ge (tgt := 116) (zs_at rfl) (by decide) (fun c17 => ?_) (fun c17 => ?_)
    · exact absurd c17 (by rw [hm]; exact nI_ge (by omega) (by omega))
    · have _c := c17
      refine zv_run 5 (pc' := 28) (lo' := [some (.ref 37), some (.int more), some (.int most), some (.int ms), some (.int (nI k)), x5, x6]) (st' := [.int most, .int ((nI k) * (I 37 2))]) (I' := I) (L' := L) (R' := zw_RC h sp la) rfl ?_
      refine zv_icmp_ge (tgt := 116) (zs_at rfl) (by decide) (fun c28 => ?_) (fun c28 => ?_)
      · have _c := c28
        refine zv_run 1 (pc' := 118) (lo' := [some (.ref 37), some (.int more), some (.int most), some (.int ms), some (.int (nI k)), x5, x6]) (st' := [.int (-4)]) (I' := I) (L' := L) (R' := zw_RC h sp la) rfl ?_
        exact zv_iret (zs_at rfl) rfl ⟨Nat.le_refl _, Nat.le_refl _⟩ (zw_to (by first | rfl | (rw [pf_loop_s, if_pos c28])) rfl rfl rfl)
      · have _c := c28
        refine zv_run 3 (pc' := 37) (lo' := [some (.ref 37), some (.int more), some (.int most), some (.int ms), some (.int (nI k)), x5, x6]) (st' := [.int (nI k), .ref 38]) (I' := I) (L' := L) (R' := zw_RC h sp la) rfl ?_
        refine zv_iald (zs_at rfl) rfl (vp_in_nI (by omega) (by decide)) ?_
        refine zv_run 8 (pc' := 52) (lo' := [some (.ref 37), some (.int more), some (.int most), some (.int ms), some (.int (nI k)), some (.int ((I 38 ((nI k).toNatClampNeg)) - ((I 37 3) * (I 37 2)))), x6]) (st' := [.int ((I 38 ((nI k).toNatClampNeg)) - ((I 37 3) * (I 37 2)))]) (I' := I) (L' := L) (R' := zw_RC h sp la) rfl ?_
        refine zv_if_le (tgt := 105) (zs_at rfl) (by decide) (fun c52 => ?_) (fun c52 => ?_)
        · have _c := c52
          refine zv_run 6 (pc' := 11) (lo' := [some (.ref 37), some (.int more), some (.int most), some (.int (ms - ((I 38 ((nI k).toNatClampNeg)) - ((I 37 3) * (I 37 2))))), some (.int ((nI k) + 1)), some (.int ((I 38 ((nI k).toNatClampNeg)) - ((I 37 3) * (I 37 2)))), x6]) (st' := []) (I' := I) (L' := L) (R' := zw_RC h sp la) rfl ?_
          rw [nI_clamp (by omega)] at *
          rw [pf_loop_s, if_neg c28, if_pos c52, ← nI_succ]
          exact ih (k + 1) _ _ _ (by omega)
        · have _c := c52
          refine zv_run 9 (pc' := 68) (lo' := [some (.ref 37), some (.int more), some (.int most), some (.int ms), some (.int (nI k)), some (.int ((I 38 ((nI k).toNatClampNeg)) - ((I 37 3) * (I 37 2)))), x6]) (st' := [.int ((I 38 ((nI k).toNatClampNeg)) - ((I 37 3) * (I 37 2))), .int (((ms * (I 37 2)) + ((I 38 ((nI k).toNatClampNeg)) - ((I 37 3) * (I 37 2)))) - 1)]) (I' := I) (L' := L) (R' := zw_RC h sp la) rfl ?_
          refine zv_idiv (zs_at rfl) (fun q => c52 (by rw [q]; exact Int32.le_refl 0)) ?_
          refine zv_run 4 (pc' := 77) (lo' := [some (.ref 37), some (.int more), some (.int most), some (.int ms), some (.int (nI k)), some (.int ((I 38 ((nI k).toNatClampNeg)) - ((I 37 3) * (I 37 2)))), some (.int ((((ms * (I 37 2)) + ((I 38 ((nI k).toNatClampNeg)) - ((I 37 3) * (I 37 2)))) - 1) / ((I 38 ((nI k).toNatClampNeg)) - ((I 37 3) * (I 37 2)))))]) (st' := [.int (I 37 2), .int ((((ms * (I 37 2)) + ((I 38 ((nI k).toNatClampNeg)) - ((I 37 3) * (I 37 2)))) - 1) / ((I 38 ((nI k).toNatClampNeg)) - ((I 37 3) * (I 37 2))))]) (I' := I) (L' := L) (R' := zw_RC h sp la) rfl ?_
          refine zv_icmp_gt (tgt := 105) (zs_at rfl) (by decide) (fun c77 => ?_) (fun c77 => ?_)
          · have _c := c77
            refine zv_run 6 (pc' := 11) (lo' := [some (.ref 37), some (.int more), some (.int most), some (.int (ms - ((I 38 ((nI k).toNatClampNeg)) - ((I 37 3) * (I 37 2))))), some (.int ((nI k) + 1)), some (.int ((I 38 ((nI k).toNatClampNeg)) - ((I 37 3) * (I 37 2)))), some (.int ((((ms * (I 37 2)) + ((I 38 ((nI k).toNatClampNeg)) - ((I 37 3) * (I 37 2)))) - 1) / ((I 38 ((nI k).toNatClampNeg)) - ((I 37 3) * (I 37 2)))))]) (st' := []) (I' := I) (L' := L) (R' := zw_RC h sp la) rfl ?_
            rw [nI_clamp (by omega)] at *
            rw [pf_loop_s, if_neg c28, if_neg c52, if_pos c77, ← nI_succ]
            exact ih (k + 1) _ _ _ (by omega)
          · have _c := c77
            refine zv_run 7 (pc' := 91) (lo' := [some (.ref 37), some (.int more), some (.int most), some (.int ms), some (.int (nI k)), some (.int ((I 38 ((nI k).toNatClampNeg)) - ((I 37 3) * (I 37 2)))), some (.int ((((ms * (I 37 2)) + ((I 38 ((nI k).toNatClampNeg)) - ((I 37 3) * (I 37 2)))) - 1) / ((I 38 ((nI k).toNatClampNeg)) - ((I 37 3) * (I 37 2)))))]) (st' := [.int most, .int (((nI k) * (I 37 2)) + ((((ms * (I 37 2)) + ((I 38 ((nI k).toNatClampNeg)) - ((I 37 3) * (I 37 2)))) - 1) / ((I 38 ((nI k).toNatClampNeg)) - ((I 37 3) * (I 37 2)))))]) (I' := I) (L' := L) (R' := zw_RC h sp la) rfl ?_
            refine zv_icmp_gt (tgt := 105) (zs_at rfl) (by decide) (fun c91 => ?_) (fun c91 => ?_)
            · have _c := c91
              refine zv_run 6 (pc' := 11) (lo' := [some (.ref 37), some (.int more), some (.int most), some (.int (ms - ((I 38 ((nI k).toNatClampNeg)) - ((I 37 3) * (I 37 2))))), some (.int ((nI k) + 1)), some (.int ((I 38 ((nI k).toNatClampNeg)) - ((I 37 3) * (I 37 2)))), some (.int ((((ms * (I 37 2)) + ((I 38 ((nI k).toNatClampNeg)) - ((I 37 3) * (I 37 2)))) - 1) / ((I 38 ((nI k).toNatClampNeg)) - ((I 37 3) * (I 37 2)))))]) (st' := []) (I' := I) (L' := L) (R' := zw_RC h sp la) rfl ?_
              rw [nI_clamp (by omega)] at *
              rw [pf_loop_s, if_neg c28, if_neg c52, if_neg c77, if_pos c91, ← nI_succ]
              exact ih (k + 1) _ _ _ (by omega)
            · have _c := c91
              refine zv_run 6 (pc' := 104) (lo' := [some (.ref 37), some (.int more), some (.int most), some (.int ms), some (.int (nI k)), some (.int ((I 38 ((nI k).toNatClampNeg)) - ((I 37 3) * (I 37 2)))), some (.int ((((ms * (I 37 2)) + ((I 38 ((nI k).toNatClampNeg)) - ((I 37 3) * (I 37 2)))) - 1) / ((I 38 ((nI k).toNatClampNeg)) - ((I 37 3) * (I 37 2)))))]) (st' := [.int (((nI k) * (I 37 2)) + ((((ms * (I 37 2)) + ((I 38 ((nI k).toNatClampNeg)) - ((I 37 3) * (I 37 2)))) - 1) / ((I 38 ((nI k).toNatClampNeg)) - ((I 37 3) * (I 37 2)))))]) (I' := I) (L' := L) (R' := zw_RC h sp la) rfl ?_
              exact zv_iret (zs_at rfl) rfl ⟨Nat.le_refl _, Nat.le_refl _⟩ (zw_to (by rw [nI_clamp (by omega)] at *; rw [pf_loop_s, if_neg c28, if_neg c52, if_neg c77, if_neg c91]) rfl rfl rfl)
theorem ct_X7_pintsFor {d : Nat} {I : zx_I} {L : zx_L} {h sp : Nat} {la : Option Nat} {more most : Int32} (hT : tk_ok I) : zx_M0 mm_X7_pintsFor (d + 0) 0 0 [.ref 37, .int more, .int most] zw_SC I L (zw_RC h sp la) (zw_ret (some (.int (ft_pints I more most))) zw_SC I L (zw_RC h sp la)) := by
  obtain ⟨m, hm1, hm6, hm⟩ := tk_m hT
  have hmt : (I 37 1).toInt.toNat = m := by rw [hm, nI_toInt (by omega)]; omega
  refine zv_entry gd_X7_pintsFor (Nat.le_of_ble_eq_true rfl) ?_
  refine zv_run 1 (pc' := 1) (lo' := [some (.ref 37), some (.int more), some (.int most), none, none, none, none]) (st' := [.int more]) (I' := I) (L' := L) (R' := zw_RC h sp la) rfl ?_
  refine zv_if_gt (tgt := 6) (zs_at rfl) (by decide) (fun c1 => ?_) (fun c1 => ?_)
  · have _c := c1
    refine zv_run 4 (pc' := 11) (lo' := [some (.ref 37), some (.int more), some (.int most), some (.int more), some (.int 0), none, none]) (st' := []) (I' := I) (L' := L) (R' := zw_RC h sp la) rfl ?_
    unfold ft_pints
    rw [if_pos c1, hmt]
    exact lp_X7_pintsFor hT hm hm6 m 0 more none none (Nat.zero_add m)
  · have _c := c1
    refine zv_run 1 (pc' := 5) (lo' := [some (.ref 37), some (.int more), some (.int most), none, none, none, none]) (st' := [.int 0]) (I' := I) (L' := L) (R' := zw_RC h sp la) rfl ?_
    exact zv_iret (zs_at rfl) rfl ⟨Nat.le_refl _, Nat.le_refl _⟩ (zw_to (by unfold ft_pints; rw [if_neg c1]) rfl rfl rfl)
