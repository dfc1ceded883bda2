/-! a text read: numbers in both -/
def tx (l : Nat) (T : Nat → Nat) (I J : zx_I) : Prop := l ≤ 400 ∧ I 0 1 = nI l ∧ J 0 0 = nI l ∧ ∀ k, k < l → T k < 256 ∧ J 1 k = nI (T k) ∧ (T k < 128 → I 1 k = nI (T k)) ∧ (128 ≤ T k → I 1 k < 0)
def tk (l : Nat) (T : Nat → Nat) : Nat → Nat → Nat → Nat → Option (Nat × Nat)
  | 0, _, _, _ => none
  | n + 1, i, f, v => if i < l ∧ 48 ≤ T i ∧ T i ≤ 57 then (if f + 1 ≤ 4 then tk l T n (i + 1) (f + 1) (10 * v + T i - 48) else none) else (if f = 0 then none else some (v, i))
def nb (l : Nat) (T : Nat → Nat) (i bh : Nat) : Option (Nat × Nat) := match tk l T 5 i 0 0 with
  | none => none
  | some (v, j) => if j < l ∧ T j = bh then some (v, j + 1) else none
def ns (l : Nat) (T : Nat → Nat) : Nat → Nat → Option (List Nat × Nat)
  | 0, _ => none
  | k + 1, i => match nb l T i 44 with
    | some (v, i') => (match ns l T k i' with
      | some (vs, e) => some (v :: vs, e)
      | none => none)
    | none => match nb l T i 59 with
      | some (v, e) => some ([v], e)
      | none => none
theorem tk_is {l : Nat} {T : Nat → Nat} : ∀ (n i f v v' j : Nat), n + f = 5 → v < 10 ^ f → i ≤ l → tk l T n i f v = some (v', j) → i ≤ j ∧ j ≤ l ∧ v' < 10000 ∧ ¬ (j < l ∧ 48 ≤ T j ∧ T j ≤ 57) := by
  intro n
  induction n with
  | zero =>
    intro i f v v' j _ _ _ h
    cases h
  | succ n ih =>
    intro i f v v' j hf hv hi h
    rw [tk] at h
    by_cases u : i < l ∧ 48 ≤ T i ∧ T i ≤ 57
    · rw [if_pos u] at h
      by_cases w : f + 1 ≤ 4
      · rw [if_pos w] at h
        obtain ⟨r1, r2, r3, r4⟩ := ih (i + 1) (f + 1) _ v' j (by omega) (by rw [Nat.pow_succ]; omega) (by omega) h
        exact ⟨by omega, r2, r3, r4⟩
      · rw [if_neg w] at h
        cases h
    · rw [if_neg u] at h
      by_cases w : f = 0
      · rw [if_pos w] at h
        cases h
      · rw [if_neg w] at h
        cases h
        have : 10 ^ f ≤ 10 ^ 4 := Nat.pow_le_pow_right (by decide) (by omega)
        exact ⟨Nat.le_refl _, hi, by omega, u⟩
theorem nb_is {l : Nat} {T : Nat → Nat} {i bh v e : Nat} (hi : i ≤ l) (h : nb l T i bh = some (v, e)) : i < e ∧ e ≤ l ∧ v < 10000 ∧ T (e - 1) = bh := by
  unfold nb at h
  cases ht : tk l T 5 i 0 0 with
  | none =>
    rw [ht] at h
    cases h
  | some q =>
    obtain ⟨v', j⟩ := q
    rw [ht] at h
    dsimp only at h
    obtain ⟨r1, r2, r3, -⟩ := tk_is 5 i 0 0 v' j rfl (by decide) hi ht
    by_cases u : j < l ∧ T j = bh
    · rw [if_pos u] at h
      cases h
      exact ⟨by omega, by omega, r3, by rw [Nat.add_sub_cancel]; exact u.2⟩
    · rw [if_neg u] at h
      cases h
/-! the class's reading -/
theorem rc_at {l i : Nat} {T : Nat → Nat} {J0 J : zx_I} {X : zx_I} (h : tx l T X J0) (hJ : J 1 = X 1) (hi : i < l) : ((rd_c J i < 48 ∨ rd_c J i > 57) ↔ ¬ (48 ≤ T i ∧ T i ≤ 57)) ∧ (T i < 128 → rd_c J i = nI (T i)) ∧ ((rd_c J i = 44) ↔ T i = 44) ∧ ((rd_c J i = 59) ↔ T i = 59) := by
  obtain ⟨h1, h2, h3, h4⟩ := h
  obtain ⟨t1, t2, t3, t4⟩ := h4 i hi
  have e : rd_c J i = X 1 i := by
    unfold rd_c
    rw [nI_clamp (by omega), hJ]
  rw [e]
  by_cases u : T i < 128
  · rw [t3 u]
    refine ⟨?_, fun _ => rfl, ?_, ?_⟩
    · have e1 : nI (T i) < 48 ↔ T i < 48 := nI_ltI (b := 48) (by omega) (by decide)
      have e2 : (nI (T i) > 57) ↔ 57 < T i := nI_ltI (a := 57) (by decide) (by omega)
      rw [e1, e2]
      omega
    · exact nI_eq (b := 44) (by omega) (by decide)
    · exact nI_eq (b := 59) (by omega) (by decide)
  · have hn := t4 (by omega)
    rw [Int32.lt_iff_toInt_lt] at hn
    have z0 : (0 : Int32).toInt = 0 := rfl
    have ne : ∀ k : Nat, k < 2 ^ 31 → ¬ X 1 i = nI k := fun k hk w => by
      rw [w, nI_toInt hk] at hn
      omega
    refine ⟨⟨fun _ => by omega, fun _ => Or.inl ?_⟩, fun w => absurd w u, ⟨fun w => absurd w (ne 44 (by decide)), fun w => by omega⟩, ⟨fun w => absurd w (ne 59 (by decide)), fun w => by omega⟩⟩
    rw [Int32.lt_iff_toInt_lt]
    have z48 : (48 : Int32).toInt = 48 := rfl
    omega
theorem rd_tk {l : Nat} {T : Nat → Nat} {X J0 : zx_I} (h : tx l T X J0) : ∀ (n i f v : Nat) (J : zx_I), n + f = 5 → f ≤ 4 → v < 10 ^ f → i ≤ l → J 1 = X 1 → (tk l T n i f v = none → rd_loop (l - i) i (nI v) (nI f) J = (-4, J)) ∧ ∀ v' j, tk l T n i f v = some (v', j) → ∃ f', 1 ≤ f' ∧ f' ≤ 4 ∧ rd_loop (l - i) i (nI v) (nI f) J = rd_loop (l - j) j (nI v') (nI f') J := by
  have hl := h.1
  intro n
  induction n with
  | zero =>
    intro i f v J hf hf4
    omega
  | succ n ih =>
    intro i f v J hf hf4 hv hi hJ
    have hvf : v < 10000 ∨ f = 5 := by
      by_cases w : f ≤ 4
      · have : 10 ^ f ≤ 10 ^ 4 := Nat.pow_le_pow_right (by decide) w
        omega
      · omega
    by_cases u : i < l ∧ 48 ≤ T i ∧ T i ≤ 57
    · obtain ⟨m, hm⟩ : ∃ m, l - i = m + 1 := ⟨l - i - 1, by omega⟩
      obtain ⟨c1, c2, -, -⟩ := rc_at h hJ u.1
      have c2' := c2 (by omega)
      have n1 : ¬ (rd_c J i < 48 ∨ rd_c J i > 57) := fun w => c1.mp w u.2
      rw [tk, if_pos u, hm, rd_loop, if_neg n1, nI_1, c2']
      by_cases w : f + 1 ≤ 4
      · rw [if_pos w, if_pos (show nI (f + 1) ≤ (4 : Int32) from nI_le (b := 4) w (by decide))]
        have ev : 10 * nI v + nI (T i) - 48 = nI (10 * v + T i - 48) := by
          rw [show (10 : Int32) = nI 10 from rfl, pk_mul, nI_add, show (48 : Int32) = nI 48 from rfl, pk_sub (by omega)]
        rw [ev, show m = l - (i + 1) by omega]
        exact ih (i + 1) (f + 1) _ J (by omega) w (by rw [Nat.pow_succ]; omega) (by omega) hJ
      · rw [if_neg w, if_neg (show ¬ nI (f + 1) ≤ (4 : Int32) from nI_ge (a := 4) (by omega) (by omega))]
        exact ⟨fun _ => rfl, fun v' j q => by cases q⟩
    · rw [tk, if_neg u]
      by_cases w : f = 0
      · subst w
        rw [if_pos rfl]
        refine ⟨fun _ => ?_, fun v' j q => by cases q⟩
        by_cases il : i < l
        · obtain ⟨m, hm⟩ : ∃ m, l - i = m + 1 := ⟨l - i - 1, by omega⟩
          obtain ⟨c1, c2, -, -⟩ := rc_at h hJ il
          rw [hm, rd_loop, if_pos (c1.mpr (fun q => u ⟨il, q⟩)), if_neg]
          rintro ⟨-, q, -⟩
          exact q (by decide)
        · rw [show l - i = 0 by omega]
          rfl
      · rw [if_neg w]
        refine ⟨fun q => (by cases q), fun v' j q => ?_⟩
        cases q
        exact ⟨f, by omega, by omega, rfl⟩
/-- the numbers of an item -/
theorem rd_ns {l : Nat} {T : Nat → Nat} {X J0 : zx_I} (h : tx l T X J0) : ∀ (k i : Nat) (J : zx_I), k ≤ 6 → i ≤ l → J 1 = X 1 → J 2 2 = nI (6 - k) → (ns l T k i = none → (rd_loop (l - i) i 0 0 J).1 = -4 ∧ ∀ b, b ≠ 2 → b ≠ 3 → (rd_loop (l - i) i 0 0 J).2 b = J b) ∧ ∀ vs e, ns l T k i = some (vs, e) → ∃ J', rd_loop (l - i) i 0 0 J = (nI e, J') ∧ i < e ∧ e ≤ l ∧ 1 ≤ vs.length ∧ vs.length ≤ k ∧ J' 2 2 = nI (6 - k + vs.length) ∧ J' 2 1 = J 2 1 ∧ (∀ t, t < vs.length → J' 3 (6 - k + t) = nI (vs.getD t 0) ∧ vs.getD t 0 < 10000) ∧ (∀ t, t < 6 - k → J' 3 t = J 3 t) ∧ ∀ b, b ≠ 2 → b ≠ 3 → J' b = J b := by
  have hl := h.1
  intro k
  induction k with
  | zero =>
    intro i J hk hi hJ h22
    refine ⟨fun _ => ?_, fun vs e w => by cases w⟩
    obtain ⟨r1, r2⟩ := rd_tk h 5 i 0 0 J rfl (by decide) (by decide) hi hJ
    cases ht : tk l T 5 i 0 0 with
    | none =>
      have e0 : rd_loop (l - i) i 0 0 J = (-4, J) := r1 ht
      rw [e0]
      exact ⟨rfl, fun _ _ _ => rfl⟩
    | some q =>
      obtain ⟨v', j⟩ := q
      obtain ⟨f', f1, f4, e0⟩ := r2 v' j ht
      obtain ⟨t1, t2, t3, t4⟩ := tk_is 5 i 0 0 v' j rfl (by decide) hi ht
      have e0' : rd_loop (l - i) i 0 0 J = rd_loop (l - j) j (nI v') (nI f') J := e0
      have e1 : rd_loop (l - j) j (nI v') (nI f') J = (-4, J) := by
        by_cases u : j < l
        · obtain ⟨m, hm⟩ : ∃ m, l - j = m + 1 := ⟨l - j - 1, by omega⟩
          obtain ⟨c1, -, -, -⟩ := rc_at h hJ u
          rw [hm, rd_loop, if_pos (c1.mpr (fun q => t4 ⟨u, q⟩)), if_neg]
          rintro ⟨-, -, q⟩
          exact q (by rw [h22]; decide)
        · rw [show l - j = 0 by omega]
          rfl
      rw [e0', e1]
      exact ⟨rfl, fun _ _ _ => rfl⟩
  | succ k ih =>
    intro i J hk hi hJ h22
    obtain ⟨r1, r2⟩ := rd_tk h 5 i 0 0 J rfl (by decide) (by decide) hi hJ
    have hm6 : ¬ J 2 2 ≥ 6 := by
      rw [h22]
      exact nI_ge (b := 6) (by omega) (by decide)
    cases ht : tk l T 5 i 0 0 with
    | none =>
      have e0 : rd_loop (l - i) i 0 0 J = (-4, J) := r1 ht
      have n44 : nb l T i 44 = none := by unfold nb; rw [ht]
      have n59 : nb l T i 59 = none := by unfold nb; rw [ht]
      rw [e0, ns, n44]
      dsimp only
      rw [n59]
      exact ⟨fun _ => ⟨rfl, fun _ _ _ => rfl⟩, fun vs e w => by cases w⟩
    | some q =>
      obtain ⟨v', j⟩ := q
      obtain ⟨f', f1, f4, e0⟩ := r2 v' j ht
      obtain ⟨t1, t2, t3, t4⟩ := tk_is 5 i 0 0 v' j rfl (by decide) hi ht
      have e0' : rd_loop (l - i) i 0 0 J = rd_loop (l - j) j (nI v') (nI f') J := e0
      have f0 : ¬ nI f' ≤ 0 := nI_nle (by omega) (by omega)
      have n44 : nb l T i 44 = if j < l ∧ T j = 44 then some (v', j + 1) else none := by unfold nb; rw [ht]
      have n59 : nb l T i 59 = if j < l ∧ T j = 59 then some (v', j + 1) else none := by unfold nb; rw [ht]
      have pe : ∀ b, b ≠ 2 → b ≠ 3 → rd_put J (nI v') b = J b := fun b h2 h3 => by
        unfold rd_put
        rw [zx_uI_ne h2, zx_uI_ne h3]
      have p22 : rd_put J (nI v') 2 2 = nI (6 - k) := by
        unfold rd_put
        rw [h22, nI_1, show 6 - (k + 1) + 1 = 6 - k by omega]
        simp [zx_uI]
      have p21 : rd_put J (nI v') 2 1 = J 2 1 := by
        unfold rd_put
        simp [zx_uI]
      have p3 : ∀ t, rd_put J (nI v') 3 t = if t = 6 - (k + 1) then nI v' else J 3 t := fun t => by
        unfold rd_put
        rw [zx_uI_ne (by decide), h22, nI_clamp (by omega)]
        simp only [zx_uI, if_pos]
      rw [e0', ns, n44]
      by_cases u : j < l
      · obtain ⟨m, hm⟩ : ∃ m, l - j = m + 1 := ⟨l - j - 1, by omega⟩
        obtain ⟨c1, -, c44, c59⟩ := rc_at h hJ u
        rw [hm, rd_loop, if_pos (c1.mpr (fun q => t4 ⟨u, q⟩))]
        by_cases v44 : T j = 44
        · rw [if_pos ⟨u, v44⟩, if_pos ⟨Or.inl (c44.mpr v44), f0, hm6⟩, if_pos (fun w => by have := c59.mp w; omega), show m = l - (j + 1) by omega]
          dsimp only
          obtain ⟨i1, i2⟩ := ih (j + 1) (rd_put J (nI v')) (by omega) (by omega) ((pe 1 (by decide) (by decide)).trans hJ) p22
          cases hns : ns l T k (j + 1) with
          | none =>
            refine ⟨fun _ => ?_, fun vs e w => by cases w⟩
            obtain ⟨a1, a2⟩ := i1 hns
            exact ⟨a1, fun b h2 h3 => (a2 b h2 h3).trans (pe b h2 h3)⟩
          | some q =>
            obtain ⟨vs, e⟩ := q
            refine ⟨fun w => (by cases w), fun vs' e' w => ?_⟩
            cases w
            obtain ⟨J', a1, a2, a3, a4, a5, a6, a7, a8, a9, a10⟩ := i2 vs e hns
            refine ⟨J', a1, by omega, a3, by rw [List.length_cons]; omega, by rw [List.length_cons]; omega, ?_, a7.trans p21, fun t ht => ?_, fun t ht => ?_, fun b h2 h3 => (a10 b h2 h3).trans (pe b h2 h3)⟩
            · rw [a6, List.length_cons, show 6 - (k + 1) + (vs.length + 1) = 6 - k + vs.length by omega]
            · rw [List.length_cons] at ht
              cases t with
              | zero =>
                rw [Nat.add_zero, a9 _ (by omega), p3, if_pos rfl]
                exact ⟨rfl, t3⟩
              | succ t =>
                rw [show 6 - (k + 1) + (t + 1) = 6 - k + t by omega, List.getD_cons_succ]
                exact a8 t (by omega)
            · rw [a9 t (by omega), p3, if_neg (by omega)]
        · rw [if_neg (fun w => v44 w.2)]
          dsimp only
          rw [n59]
          by_cases v59 : T j = 59
          · rw [if_pos ⟨u, v59⟩, if_pos ⟨Or.inr (c59.mpr v59), f0, hm6⟩, if_neg (fun w => w (c59.mpr v59)), nI_1]
            refine ⟨fun w => (by cases w), fun vs' e' w => ?_⟩
            cases w
            refine ⟨rd_put J (nI v'), rfl, by omega, by omega, Nat.le_refl _, by rw [List.length_singleton]; omega, ?_, p21, fun t ht => ?_, fun t ht => by rw [p3, if_neg (by omega)], pe⟩
            · rw [p22, List.length_singleton, show 6 - (k + 1) + 1 = 6 - k by omega]
            · rw [List.length_singleton] at ht
              have : t = 0 := by omega
              subst this
              rw [Nat.add_zero, p3, if_pos rfl]
              exact ⟨rfl, t3⟩
          · rw [if_neg (fun w => v59 w.2), if_neg]
            · exact ⟨fun _ => ⟨rfl, fun _ _ _ => rfl⟩, fun vs e w => by cases w⟩
            · rintro ⟨w | w, -⟩
              · exact v44 (c44.mp w)
              · exact v59 (c59.mp w)
      · rw [if_neg (fun w => u w.1)]
        dsimp only
        rw [n59, if_neg (fun w => u w.1), show l - j = 0 by omega]
        exact ⟨fun _ => ⟨rfl, fun _ _ _ => rfl⟩, fun vs e w => by cases w⟩
/-! the model's numbers -/
theorem by_at {l i : Nat} {T : Nat → Nat} {X J0 J : zx_I} (h : tx l T X J0) (h0 : J 0 0 = nI l) (h1 : J 1 = J0 1) (h2 : J 0 2 = nI i) (hi : i ≤ 1000) : mf_byteNow J = some (if i < l then nI (T i) else -4) := by
  have hl := h.1
  unfold mf_byteNow
  rw [h0, h2]
  by_cases u : i < l
  · rw [if_neg (nI_ge u (by omega)), mo_g1 (mo_inN (by omega) (by decide)), nI_clamp (by omega), if_pos u, h1, (h.2.2.2 i u).2.1]
  · rw [if_pos (nI_le (by omega) (by omega)), if_neg u]
theorem in_dig {l i : Nat} {T : Nat → Nat} (hT : i < l → T i < 256) : (mf_in (if i < l then nI (T i) else -4) 48 57 = 0) ↔ ¬ (i < l ∧ 48 ≤ T i ∧ T i ≤ 57) := by
  unfold mf_in
  by_cases u : i < l
  · have := hT u
    rw [if_pos u]
    by_cases a : T i < 48
    · rw [if_pos (show nI (T i) < (48 : Int32) from nI_lt (b := 48) a (by decide))]
      exact ⟨fun _ => by omega, fun _ => rfl⟩
    · rw [if_neg (show ¬ nI (T i) < (48 : Int32) from nI_nlt (b := 48) (by omega) (by omega))]
      by_cases b : 57 < T i
      · rw [if_pos (show (57 : Int32) < nI (T i) from nI_lt (a := 57) b (by omega))]
        exact ⟨fun _ => by omega, fun _ => rfl⟩
      · rw [if_neg (show ¬ (57 : Int32) < nI (T i) from nI_nlt (a := 57) (by omega) (by decide))]
        exact ⟨fun w => absurd w (by decide), fun w => absurd ⟨u, by omega, by omega⟩ w⟩
  · rw [if_neg u, if_pos (by decide)]
    exact ⟨fun _ w => u w.1, fun _ => rfl⟩
theorem mn_loop {l n9 : Nat} {T : Nat → Nat} {X J0 : zx_I} {x1 x2 x3 : Int32} {K : Int32 → zx_I → Option (Int32 × zx_I)} (h : tx l T X J0) : ∀ (n i f v e : Nat) (J : zx_I), n + f = 5 → v < 10 ^ f → i ≤ l → n < e → J 0 0 = nI l → J 1 = J0 1 → J 0 2 = nI i → J 0 4 = nI v → ∃ f' J', f' ≤ 5 ∧ mf_isNumber_8 n9 x1 x2 x3 K e (nI f) J = K (nI f') J' ∧ (∀ b, b ≠ 0 → J' b = J b) ∧ (∀ y, y ≠ 2 → y ≠ 4 → J' 0 y = J 0 y) ∧ (tk l T n i f v = none → f' = 0 ∨ f' = 5) ∧ ∀ v' j, tk l T n i f v = some (v', j) → 1 ≤ f' ∧ f' ≤ 4 ∧ J' 0 2 = nI j ∧ J' 0 4 = nI v' := by
  have hl := h.1
  intro n
  induction n with
  | zero =>
    intro i f v e J hf hv hi he h0 h1 h2 h4
    obtain ⟨e, rfl⟩ : ∃ e9, e = e9 + 1 := ⟨e - 1, by omega⟩
    have f5 : f = 5 := by omega
    refine ⟨f, J, by omega, ?_, fun _ _ => rfl, fun _ _ _ => rfl, fun _ => Or.inr f5, fun v' j w => by cases w⟩
    show mf_isNumber_8_b _ _ _ _ _ _ _ _ = _
    unfold mf_isNumber_8_b
    rw [by_at h h0 h1 h2 (by omega), Option.bind_some, if_pos (show (5 : Int32) ≤ nI f from nI_le (a := 5) (by omega) (by omega)), ite_self]
  | succ n ih =>
    intro i f v e J hf hv hi he h0 h1 h2 h4
    obtain ⟨e, rfl⟩ : ∃ e9, e = e9 + 1 := ⟨e - 1, by omega⟩
    have hin := in_dig (l := l) (i := i) (T := T) (fun u => (h.2.2.2 i u).1)
    have hb := by_at h h0 h1 h2 (by omega)
    by_cases u : i < l ∧ 48 ≤ T i ∧ T i ≤ 57
    · have hv5 : v < 10 ^ 4 := Nat.lt_of_lt_of_le hv (Nat.pow_le_pow_right (by decide) (by omega))
      have ev : 10 * nI v + nI (T i) - 48 = nI (10 * v + T i - 48) := by
        rw [show (10 : Int32) = nI 10 from rfl, pk_mul, nI_add, show (48 : Int32) = nI 48 from rfl, pk_sub (by omega)]
      obtain ⟨f', J', r1, r2, r3, r4, r5, r6⟩ := ih (i + 1) (f + 1) (10 * v + T i - 48) e (zx_uI (zx_uI J 0 4 (nI (10 * v + T i - 48))) 0 2 (nI (i + 1))) (by omega) (by rw [Nat.pow_succ]; omega) (by omega) (by omega) (by simp [zx_uI]; exact h0) (by rw [zx_uI_ne (by decide), zx_uI_ne (by decide)]; exact h1) (by simp [zx_uI]) (by simp [zx_uI])
      have body : mf_isNumber_8 n9 x1 x2 x3 K (e + 1) (nI f) J = mf_isNumber_8 n9 x1 x2 x3 K e (nI (f + 1)) (zx_uI (zx_uI J 0 4 (nI (10 * v + T i - 48))) 0 2 (nI (i + 1))) := by
        show mf_isNumber_8_b _ _ _ _ _ _ _ _ = _
        unfold mf_isNumber_8_b
        rw [hb, Option.bind_some, if_neg (fun w => hin.mp w u), if_neg (show ¬ (5 : Int32) ≤ nI f from nI_ge (b := 5) (by omega) (by decide)), Option.bind_some, if_pos u.1, h4, ev, h2, nI_1, ← nI_succ]
      refine ⟨f', J', r1, body.trans r2, fun b hb => by rw [r3 b hb, zx_uI_ne hb, zx_uI_ne hb], fun y y2 y4 => by rw [r4 y y2 y4]; simp [zx_uI, y2, y4], ?_, ?_⟩
      · rw [tk, if_pos u]
        by_cases w : f + 1 ≤ 4
        · rw [if_pos w]
          exact r5
        · rw [if_neg w]
          intro _
          have : n = 0 := by omega
          subst this
          exact r5 rfl
      · rw [tk, if_pos u]
        by_cases w : f + 1 ≤ 4
        · rw [if_pos w]
          exact r6
        · rw [if_neg w]
          intro v' j q
          cases q
    · refine ⟨f, J, by omega, ?_, fun _ _ => rfl, fun _ _ _ => rfl, ?_, ?_⟩
      · show mf_isNumber_8_b _ _ _ _ _ _ _ _ = _
        unfold mf_isNumber_8_b
        rw [hb, Option.bind_some, if_pos (hin.mpr u)]
      · rw [tk, if_neg u]
        by_cases w : f = 0
        · exact fun _ => Or.inl w
        · rw [if_neg w]
          intro q
          cases q
      · rw [tk, if_neg u]
        intro v' j q
        by_cases w : f = 0
        · rw [if_pos w] at q
          cases q
        · rw [if_neg w] at q
          cases q
          exact ⟨by omega, by omega, h2, h4⟩
/-- one number in its bounds, with the byte behind it -/
theorem isNum {l n9 i bh : Nat} {T : Nat → Nat} {X J0 J : zx_I} {lo hi : Int32} (h : tx l T X J0) (hn : 200 ≤ n9) (hil : i ≤ l) (hbh : bh < 256) (h0 : J 0 0 = nI l) (h1 : J 1 = J0 1) (h2 : J 0 2 = nI i) : ∃ b J', mf_isNumber n9 lo hi (nI bh) J = some (b, J') ∧ (∀ b, b ≠ 0 → J' b = J b) ∧ (∀ y, y ≠ 2 → y ≠ 4 → J' 0 y = J 0 y) ∧ ((b = 0 ∧ ∀ v e, nb l T i bh = some (v, e) → mf_in (nI v) lo hi = 0) ∨ (b = 1 ∧ ∃ v e, nb l T i bh = some (v, e) ∧ mf_in (nI v) lo hi = 1 ∧ J' 0 2 = nI e ∧ J' 0 4 = nI v)) := by
  have hl := h.1
  obtain ⟨f', J1, f5, r2, r3, r4, r5, r6⟩ := mn_loop (n9 := n9) (x1 := lo) (x2 := hi) (x3 := nI bh) (K := fun x4_8 J_8 => (((if (mf_in x4_8 (1 : Int32) (4 : Int32)) = 0 then some ((0 : Int32)) else (if (mf_in (J_8 0 4) lo hi) = 0 then some ((0 : Int32)) else ((mf_byteNow J_8).bind fun p86 => (if p86 = nI bh then some ((1 : Int32)) else some ((0 : Int32)))))) : Option (Int32)).bind fun v70 => some (v70, (zx_uI J_8 0 2 ((J_8 0 2) + 1))))) h 5 i 0 0 n9 (zx_uI J 0 4 0) rfl (by decide) hil (by omega) (by simp [zx_uI]; exact h0) (by rw [zx_uI_ne (by decide)]; exact h1) (by simp [zx_uI]; exact h2) (by simp [zx_uI]; rfl)
  have e14 : ∀ f : Nat, f < 100 → ((mf_in (nI f) 1 4 = 0) ↔ ¬ (1 ≤ f ∧ f ≤ 4)) := fun f hf => by
    unfold mf_in
    by_cases a : f < 1
    · rw [if_pos (show nI f < (1 : Int32) from nI_lt (b := 1) a (by decide))]
      exact ⟨fun _ => by omega, fun _ => rfl⟩
    · rw [if_neg (show ¬ nI f < (1 : Int32) from nI_nlt (b := 1) (by omega) (by omega))]
      by_cases b : 4 < f
      · rw [if_pos (show (4 : Int32) < nI f from nI_lt (a := 4) b (by omega))]
        exact ⟨fun _ => by omega, fun _ => rfl⟩
      · rw [if_neg (show ¬ (4 : Int32) < nI f from nI_nlt (a := 4) (by omega) (by decide))]
        exact ⟨fun w => absurd w (by decide), fun w => absurd ⟨by omega, by omega⟩ w⟩
  have fr1 : ∀ b, b ≠ 0 → zx_uI J1 0 2 (J1 0 2 + 1) b = J b := fun b hb => by rw [zx_uI_ne hb, r3 b hb, zx_uI_ne hb]
  have fr2 : ∀ y, y ≠ 2 → y ≠ 4 → zx_uI J1 0 2 (J1 0 2 + 1) 0 y = J 0 y := fun y y2 y4 => by
    rw [show zx_uI J1 0 2 (J1 0 2 + 1) 0 y = J1 0 y by simp [zx_uI, y2], r4 y y2 y4]
    simp [zx_uI, y4]
  have eM : ∀ w : Int32, ((if (mf_in (nI f') (1 : Int32) (4 : Int32)) = 0 then some ((0 : Int32)) else (if (mf_in (J1 0 4) lo hi) = 0 then some ((0 : Int32)) else ((mf_byteNow J1).bind fun p86 => (if p86 = nI bh then some ((1 : Int32)) else some ((0 : Int32)))))) : Option (Int32)) = some w → mf_isNumber n9 lo hi (nI bh) J = some (w, zx_uI J1 0 2 (J1 0 2 + 1)) := fun w hw => by
    unfold mf_isNumber
    refine Eq.trans r2 ?_
    rw [hw, Option.bind_some]
  cases ht : tk l T 5 i 0 0 with
  | none =>
    have : ¬ (1 ≤ f' ∧ f' ≤ 4) := by
      have := r5 ht
      omega
    refine ⟨0, _, eM 0 (by rw [if_pos ((e14 f' (by omega)).mpr this)]), fr1, fr2, Or.inl ⟨rfl, fun v e q => ?_⟩⟩
    unfold nb at q
    rw [ht] at q
    cases q
  | some q =>
    obtain ⟨v, j⟩ := q
    obtain ⟨g1, g2, g3, g4⟩ := r6 v j ht
    obtain ⟨t1, t2, t3, t4⟩ := tk_is 5 i 0 0 v j rfl (by decide) hil ht
    have hby := by_at (J := J1) h (by rw [r4 0 (by decide) (by decide)]; simp [zx_uI]; exact h0) (by rw [r3 1 (by decide), zx_uI_ne (by decide)]; exact h1) g3 (by omega)
    have nbe : nb l T i bh = if j < l ∧ T j = bh then some (v, j + 1) else none := by unfold nb; rw [ht]
    have n14 : ¬ mf_in (nI f') 1 4 = 0 := fun w => (e14 f' (by omega)).mp w ⟨g1, g2⟩
    rcases in_cs (x := nI v) (a := lo) (b := hi) with ⟨z, -⟩ | ⟨z, -⟩
    · refine ⟨0, _, eM 0 (by rw [if_neg n14, g4, if_pos z]), fr1, fr2, Or.inl ⟨rfl, fun v' e q => ?_⟩⟩
      rw [nbe] at q
      by_cases u : j < l ∧ T j = bh
      · rw [if_pos u] at q
        cases q
        exact z
      · rw [if_neg u] at q
        cases q
    · have z' : ¬ mf_in (nI v) lo hi = 0 := by rw [z]; decide
      by_cases u : j < l ∧ T j = bh
      · refine ⟨1, _, eM 1 ?_, fr1, fr2, Or.inr ⟨rfl, v, j + 1, by rw [nbe, if_pos u], z, ?_, ?_⟩⟩
        · rw [if_neg n14, g4, if_neg z', hby, Option.bind_some, if_pos u.1, if_pos (by rw [u.2])]
        · rw [g3, nI_1]
          simp [zx_uI]
        · rw [← g4]
          simp [zx_uI]
      · refine ⟨0, _, eM 0 ?_, fr1, fr2, Or.inl ⟨rfl, fun v' e q => ?_⟩⟩
        · rw [if_neg n14, g4, if_neg z', hby, Option.bind_some]
          by_cases w : j < l
          · have := (h.2.2.2 j w).1
            rw [if_pos w, if_neg (nI_e (by omega) (by omega) (fun q => u ⟨w, q⟩))]
          · rw [if_neg w, if_neg (fun q => nI_ne4 (show bh < 2 ^ 31 by omega) q.symm)]
        · rw [nbe, if_neg u] at q
          cases q
