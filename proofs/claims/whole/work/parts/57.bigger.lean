/-! bigger in both -/
theorem lk_at {a b : Nat} (hh : a = 4 ∧ b = 14 ∨ a = 14 ∧ b = 4) : ∀ (n j : Nat) (J : zx_I) (i y : Nat), j + n ≤ 6 → i < 6 → lk_loop (a + 4) (b + 4) n j J (a + 4 + i) y = if (j ≤ i ∧ i < j + n) ∧ 1 ≤ y ∧ y ≤ 9 then J (b + 4 + i) y else J (a + 4 + i) y := by
  intro n
  induction n with
  | zero =>
    intro j J i y _ _
    rw [if_neg (by omega)]
    rfl
  | succ n ih =>
    intro j J i y hj hi
    have h1 : ∀ x, x ≠ a + 4 + j → fb_like J (a + 4 + j) (b + 4 + j) x = J x := fun x hx => by
      unfold fb_like
      rw [zx_uI_ne hx, zx_uI_ne hx, zx_uI_ne hx, zx_uI_ne hx, zx_uI_ne hx, zx_uI_ne hx, zx_uI_ne hx, zx_uI_ne hx, zx_uI_ne hx]
    rw [lk_loop, ih (j + 1) _ i y (by omega) hi, h1 (b + 4 + i) (by omega)]
    by_cases u : i = j
    · subst u
      rw [if_neg (by omega)]
      by_cases v : 1 ≤ y ∧ y ≤ 9
      · rw [if_pos (by omega)]
        unfold fb_like
        rcases (show y = 1 ∨ y = 2 ∨ y = 3 ∨ y = 4 ∨ y = 5 ∨ y = 6 ∨ y = 7 ∨ y = 8 ∨ y = 9 by omega) with rfl | rfl | rfl | rfl | rfl | rfl | rfl | rfl | rfl <;> simp [zx_uI]
      · rw [if_neg (by omega)]
        unfold fb_like
        simp only [zx_uI, if_pos]
        rw [if_neg (by omega), if_neg (by omega), if_neg (by omega), if_neg (by omega), if_neg (by omega), if_neg (by omega), if_neg (by omega), if_neg (by omega), if_neg (by omega)]
    · rw [h1 (a + 4 + i) (by omega)]
      by_cases v : (j + 1 ≤ i ∧ i < j + 1 + n) ∧ 1 ≤ y ∧ y ≤ 9
      · rw [if_pos v, if_pos (by omega)]
      · rw [if_neg v, if_neg (by omega)]
theorem lk_ne {a b : Nat} : ∀ (n j : Nat) (J : zx_I) (x : Nat), (x < a + 4 + j ∨ a + 4 + j + n ≤ x) → lk_loop (a + 4) (b + 4) n j J x = J x := by
  intro n
  induction n with
  | zero =>
    intro j J x _
    rfl
  | succ n ih =>
    intro j J x hx
    have hx' : x ≠ a + 4 + j := by omega
    rw [lk_loop, ih (j + 1) _ x (by omega)]
    unfold fb_like
    rw [zx_uI_ne hx', zx_uI_ne hx', zx_uI_ne hx', zx_uI_ne hx', zx_uI_ne hx', zx_uI_ne hx', zx_uI_ne hx', zx_uI_ne hx', zx_uI_ne hx']
theorem fl_sp {A : zx_I} {h sp : Nat} (hh : hsp h sp) : (fh_like A sp h sp 1 = A h 1 ∧ fh_like A sp h sp 2 = A h 2 ∧ fh_like A sp h sp 3 = A h 3 ∧ fh_like A sp h sp 4 = A h 4 ∧ fh_like A sp h sp 5 = A h 5) ∧ fh_like A sp h sp 8 = A h 8 ∧ fh_like A sp h sp 9 = A h 9 ∧ fh_like A sp h sp 10 = A h 10 ∧ fh_like A sp h sp 11 = A h 11 ∧ fh_like A sp h sp 12 = A h 12 ∧ fh_like A sp h sp 13 = A h 13 := by
  unfold fh_like
  rw [lk_ne 6 0 _ sp (by omega)]
  rcases hh with ⟨rfl, rfl⟩ | ⟨rfl, rfl⟩ <;> refine ⟨⟨?_, ?_, ?_, ?_, ?_⟩, ?_, ?_, ?_, ?_, ?_, ?_⟩ <;> simp [zx_uI, zcp, zr]
theorem fl_ne {A : zx_I} {h sp b : Nat} (h0 : b ≠ sp) (h1 : b ≠ sp + 1) (h2 : b ≠ sp + 2) (h3 : b < sp + 4 ∨ sp + 10 ≤ b) : fh_like A sp h b = A b := by
  unfold fh_like
  rw [lk_ne 6 0 _ b (by omega), zx_uI_ne h0, zx_uI_ne h0, zx_uI_ne h0, zx_uI_ne h0, zx_uI_ne h0, zx_uI_ne h0]
  generalize zx_uI (zx_uI (zx_uI (zx_uI (zx_uI A sp 1 (A h 1)) sp 2 (A h 2)) sp 3 (A h 3)) sp 4 (A h 4)) sp 5 (A h 5) = G at *
  sorry
