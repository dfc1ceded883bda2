/-! draws, warmth and loss of the class in numbers -/
theorem ft_part_N {I : zx_I} {m p c l q : Nat} {u : Nat → Nat} (hT : tkC I m p c u) (hl : l < 2 ^ 31) (hq : q ≤ p) : ft_part I (nI l) (nI q) = nI (dpart u c p m l q) := by
  obtain ⟨h0, h1, h2, hm1, hm, hp1, hp, hc, hu⟩ := hT
  unfold ft_part dpart
  rw [if_neg (nI_pos hl), h0, h1, h2, pk_mul, nI_clamp hl]
  by_cases c1 : l < m
  · have hb : u l * q < 2 ^ 31 := Nat.lt_of_le_of_lt (Nat.mul_le_mul (hu l c1).2.1 (show q ≤ 60 by omega)) (by decide)
    rw [if_pos (nI_lt c1 (by omega)), if_pos c1, (hu l c1).1, pk_mul, pk_div hb hp1 (by omega)]
  · rw [if_neg (nI_nlt (by omega) hl), if_neg c1]
theorem ft_part_cg {I J : zx_I} {l q : Int32} (h37 : J 37 = I 37) (h38 : ¬ l < 0 → J 38 l.toNatClampNeg = I 38 l.toNatClampNeg) : ft_part J l q = ft_part I l q := by
  unfold ft_part
  rw [h37]
  by_cases c1 : l < 0
  · rw [if_pos c1, if_pos c1]
  · rw [if_neg c1, if_neg c1, h38 c1]
theorem dr_at {I : zx_I} {m p c w r : Nat} {u : Nat → Nat} (hT : tkC I m p c u) (hw : w ≤ 2000) (hr : r < p) : ∀ (n j : Nat) (J : zx_I), J 37 = I 37 → (∀ i, j ≤ i → J 38 i = I 38 i) → j + n ≤ 6 → ∀ i, dr_loop (nI w) (nI r) n j J 38 i = if j ≤ i ∧ i < j + n then nI (dlay u c p m (i + w) r) else J 38 i := by
  intro n
  induction n with
  | zero =>
    intro j J _ _ _ i
    rw [if_neg (by omega)]
    rfl
  | succ n ih =>
    intro j J h37 h38 hj i
    have hp := hT.2.2.2.2.2.2.1
    have e1 : ft_part J (nI j + nI w) (J 37 2 - nI r) + ft_part J (nI j + nI w + 1) (nI r) = nI (dlay u c p m (j + w) r) := by
      rw [h37, hT.2.1, pk_sub (by omega), nI_add, ← nI_succ,
        ft_part_cg (I := I) h37 (fun _ => by rw [nI_clamp (by omega)]; exact h38 _ (by omega)),
        ft_part_cg (I := I) h37 (fun _ => by rw [nI_clamp (by omega)]; exact h38 _ (by omega)),
        ft_part_N hT (by omega) (by omega), ft_part_N hT (by omega) (by omega), nI_add]
      rfl
    rw [dr_loop, e1, ih (j + 1) _ (by rw [zx_uI_ne (by decide)]; exact h37) (fun i hi => by simp only [zx_uI]; rw [if_pos (by decide), if_neg (by omega)]; exact h38 i (by omega)) (by omega)]
    by_cases c1 : i = j
    · subst c1
      rw [if_neg (by omega), if_pos (by omega)]
      simp [zx_uI]
    · by_cases c2 : j + 1 ≤ i ∧ i < j + 1 + n
      · rw [if_pos c2, if_pos (by omega)]
      · rw [if_neg c2, if_neg (by omega)]
        simp [zx_uI, c1]
theorem draw_C {I : zx_I} {m p c h : Nat} {u : Nat → Nat} (hT : tkC I m p c u) (hh : h ≤ 2000) {i : Nat} (hi : i < m) : ft_draw I (nI h) 38 i = nI (dlay u c p m (i + h / p) (h % p)) := by
  have hp1 := hT.2.2.2.2.2.1
  have hp := hT.2.2.2.2.2.2.1
  have hm := hT.2.2.2.2.1
  have hd : h / p ≤ h := Nat.div_le_self _ _
  have hr : h % p < p := Nat.mod_lt _ hp1
  show dr_row I (nI h) i = _
  unfold dr_row
  rw [hT.2.1, hT.1, pk_rem (by omega) hp1 (by omega), pk_div (by omega) hp1 (by omega), nI_toInt (by omega), dr_at hT (by omega) hr _ 0 I rfl (fun _ _ => rfl) (by omega), if_pos (by omega)]
theorem draw_ne {I : zx_I} {h : Int32} {b : Nat} (hb : b ≠ 38) : ft_draw I h b = I b := by
  unfold ft_draw zr
  rw [if_neg hb]
theorem div_add_le {x y p : Nat} (hp : 1 ≤ p) : x / p + y / p ≤ (x + y) / p := by
  refine (Nat.le_div_iff_mul_le hp).mpr ?_
  have h1 := Nat.div_mul_le_self x p
  have h2 := Nat.div_mul_le_self y p
  rw [Nat.add_mul]
  omega
theorem dpart_b {u : Nat → Nat} {c p m l q B : Nat} (hp : 1 ≤ p) (hu : ∀ i, i < m → u i ≤ B ∧ c * p ≤ u i) (hcB : c * p ≤ B) : dpart u c p m l q ≤ B * q / p ∧ c * q ≤ dpart u c p m l q := by
  have hcq : ∀ x, c * p ≤ x → c * q ≤ x * q / p := by
    intro x hx
    refine (Nat.le_div_iff_mul_le hp).mpr ?_
    rw [Nat.mul_right_comm]
    exact Nat.mul_le_mul_right q hx
  unfold dpart
  split
  · rename_i h
    exact ⟨Nat.div_le_div_right (Nat.mul_le_mul_right q (hu l h).1), hcq _ (hu l h).2⟩
  · exact ⟨hcq B hcB, Nat.le_refl _⟩
theorem dlay_b {u : Nat → Nat} {c p m w r B : Nat} (hp : 1 ≤ p) (hr : r ≤ p) (hu : ∀ i, i < m → u i ≤ B ∧ c * p ≤ u i) (hcB : c * p ≤ B) : dlay u c p m w r ≤ B ∧ c * p ≤ dlay u c p m w r := by
  obtain ⟨a1, a2⟩ := dpart_b (l := w) (q := p - r) hp hu hcB
  obtain ⟨b1, b2⟩ := dpart_b (l := w + 1) (q := r) hp hu hcB
  unfold dlay
  constructor
  · have h1 := div_add_le (x := B * (p - r)) (y := B * r) hp
    rw [← Nat.mul_add, show p - r + r = p by omega, Nat.mul_div_cancel _ hp] at h1
    omega
  · have e : c * p = c * (p - r) + c * r := by
      rw [← Nat.mul_add]
      congr 1
      omega
    omega
/-- units within bounds -/
def ub (r : Nat → Int32) (m lo hi : Nat) : Prop := ∀ j, j < m → ∃ x, r j = nI x ∧ lo ≤ x ∧ x ≤ hi
theorem ub_mono {r : Nat → Int32} {m lo hi hi2 : Nat} (h : ub r m lo hi) (hh : hi ≤ hi2) : ub r m lo hi2 := fun j hj => by
  obtain ⟨x, e, a, b⟩ := h j hj
  exact ⟨x, e, a, Nat.le_trans b hh⟩
def un (r : Nat → Int32) (i : Nat) : Nat := (r i).toInt.toNat
theorem ub_un {r : Nat → Int32} {m lo hi : Nat} (h : ub r m lo hi) (hhi : hi < 2 ^ 31) : ∀ i, i < m → r i = nI (un r i) ∧ lo ≤ un r i ∧ un r i ≤ hi := by
  intro i hi'
  obtain ⟨x, e, a, b⟩ := h i hi'
  have : un r i = x := by
    unfold un
    rw [e, nI_toInt (by omega)]
    rfl
  rw [this]
  exact ⟨e, a, b⟩
theorem tkC_of {I : zx_I} {m p c hi : Nat} (h1 : I 37 1 = nI m) (h2 : I 37 2 = nI p) (h3 : I 37 3 = nI c) (hm1 : 1 ≤ m) (hm : m ≤ 6) (hp1 : 1 ≤ p) (hp : p ≤ 60) (hc : c ≤ 40) (hb : ub (I 38) m (c * p) hi) (hhi : hi ≤ 700000) : tkC I m p c (un (I 38)) :=
  ⟨h1, h2, h3, hm1, hm, hp1, hp, hc, fun i hi' => by
    obtain ⟨a, b, d⟩ := ub_un hb (by omega) i hi'
    exact ⟨a, by omega, b⟩⟩
theorem ub_draw {I : zx_I} {m p c h hi : Nat} (hT : tkC I m p c (un (I 38))) (hb : ub (I 38) m (c * p) hi) (hcp : c * p ≤ hi) (hhi : hi ≤ 700000) (hh : h ≤ 2000) : ub (ft_draw I (nI h) 38) m (c * p) hi := by
  intro j hj
  have hp1 := hT.2.2.2.2.2.1
  have hr : h % p < p := Nat.mod_lt _ hp1
  obtain ⟨a, b⟩ := dlay_b (w := j + h / p) (r := h % p) (u := un (I 38)) (m := m) hp1 (by omega) (fun i hi' => by obtain ⟨q1, q2, q3⟩ := ub_un hb (by omega) i hi'; exact ⟨q3, q2⟩) hcp
  exact ⟨_, draw_C hT hh hj, b, a⟩
theorem wm_ub {m lo hi : Nat} (hhi : hi ≤ 700000) : ∀ (k : Nat) (J : zx_I), k < m → ub (J 38) m lo hi → ub (wm_loop k J 38) m lo hi := by
  intro k
  induction k with
  | zero =>
    intro J _ h
    exact h
  | succ k ih =>
    intro J hk h
    rw [wm_loop]
    refine ih _ (by omega) ?_
    by_cases c1 : J 38 (k + 1) ≤ J 38 k
    · rw [if_pos c1]
      exact h
    · rw [if_neg c1]
      obtain ⟨x, e1, a1, b1⟩ := h (k + 1) hk
      obtain ⟨y, e2, a2, b2⟩ := h k (by omega)
      rw [e1, e2] at c1
      have c2 : y < x := Nat.lt_of_not_le (fun q => c1 (nI_le q (by omega)))
      rw [e1, e2, nI_add, show (2 : Int32) = nI 2 from rfl, pk_div (by omega) (by omega) (by omega), pk_sub (by omega)]
      intro j hj
      simp only [zx_uI, if_pos]
      by_cases q1 : j = k
      · rw [if_pos q1]
        exact ⟨_, rfl, by omega, by omega⟩
      · rw [if_neg q1]
        by_cases q2 : j = k + 1
        · rw [if_pos q2]
          exact ⟨_, rfl, by omega, by omega⟩
        · rw [if_neg q2]
          exact h j hj
theorem ub_warm {I : zx_I} {m lo hi f : Nat} (h1 : I 37 1 = nI m) (hm1 : 1 ≤ m) (hm : m ≤ 6) (hb : ub (I 38) m lo hi) (hf : hi + f ≤ 700000) : ub (ft_warm I (nI f) 38) m lo (hi + f) := by
  show ub (wm_row I (nI f)) m lo (hi + f)
  unfold wm_row
  rw [h1, nI_toInt (by omega), show ((m : Int)).toNat = m from rfl]
  refine wm_ub hf (m - 1) _ (by omega) ?_
  intro j hj
  simp only [zx_uI, if_pos]
  by_cases q : j = m - 1
  · rw [if_pos q]
    obtain ⟨x, e, a, b⟩ := hb (m - 1) (by omega)
    rw [e, nI_add]
    exact ⟨_, rfl, by omega, by omega⟩
  · rw [if_neg q]
    exact ub_mono hb (by omega) j hj
theorem warm_ne {I : zx_I} {f : Int32} {b : Nat} (hb : b ≠ 38) : ft_warm I f b = I b := by
  unfold ft_warm zr
  rw [if_neg hb]
theorem lose_ne {I : zx_I} {f : Int32} {b : Nat} (hb : b ≠ 38) : ft_lose I f b = I b := by
  unfold ft_lose zmap zr
  rw [if_neg hb]
theorem lose_at {I : zx_I} {m : Nat} {l : Int32} (h1 : I 37 1 = nI m) (hm : m ≤ 6) {j : Nat} (hj : j < m) : ft_lose I l 38 j = ls_v (I 37 3 * I 37 2) l (I 38 j) := by
  unfold ft_lose zmap zr
  rw [if_pos rfl, h1, nI_toInt (by omega), if_pos (by omega)]
theorem ub_lose {I : zx_I} {m p c hi l : Nat} (h1 : I 37 1 = nI m) (h2 : I 37 2 = nI p) (h3 : I 37 3 = nI c) (hm : m ≤ 6) (hl : l ≤ 999) (hb : ub (I 38) m (c * p) hi) (hhi : hi ≤ 700000) : ub (ft_lose I (nI l) 38) m (c * p) hi := by
  intro j hj
  obtain ⟨x, e, a, b⟩ := hb j hj
  rw [lose_at h1 hm hj, h2, h3, pk_mul, e]
  unfold ls_v
  by_cases q : x ≤ c * p
  · rw [if_pos (nI_le q (by omega))]
    exact ⟨x, rfl, a, b⟩
  · rw [if_neg (nI_ge (by omega) (by omega))]
    by_cases q2 : c * p + l ≤ x
    · rw [pk_sub (by omega), if_neg (nI_nlt (by omega) (by omega))]
      exact ⟨_, rfl, by omega, by omega⟩
    · have : nI x - nI l < nI (c * p) := by
        rw [Int32.lt_iff_toInt_lt, pk_sub_toInt (by omega) (by omega), nI_toInt (by omega)]
        omega
      rw [if_pos this]
      exact ⟨_, rfl, by omega, by omega⟩
theorem old_ne {I : zx_I} {a b : Nat} (hb : b ≠ 39) : ff_old I a b = I b := by
  unfold ff_old
  split
  · rfl
  · split
    · split
      · rw [zx_uI_ne hb]
      · rw [zx_uI_ne hb, zx_uI_ne hb, zx_uI_ne hb]
    · rfl
