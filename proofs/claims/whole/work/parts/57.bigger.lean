/-! bigger in both -/
theorem lk_at {a b : Nat} (hh : a = 4 ∧ b = 14 ∨ a = 14 ∧ b = 4) : ∀ (n j : Nat) (J : zx_I) (i y : Nat), j + n ≤ 6 → i < 6 → lk_loop (a + 4) (b + 4) n j J (a + 4 + i) y = if (j ≤ i ∧ i < j + n) ∧ 1 ≤ y ∧ y ≤ 9 then J (b + 4 + i) y else J (a + 4 + i) y := by
  intro n
  induction n with
  | zero =>
    intro j J i y _ _
    rw [if_neg (by omega)]
    rfl
  | succ n ih =>
    intro j J i y hj hi
    have h1 : ∀ x, x ≠ a + 4 + j → fb_like J (a + 4 + j) (b + 4 + j) x = J x := fun x hx => by
      unfold fb_like
      rw [zx_uI_ne hx, zx_uI_ne hx, zx_uI_ne hx, zx_uI_ne hx, zx_uI_ne hx, zx_uI_ne hx, zx_uI_ne hx, zx_uI_ne hx, zx_uI_ne hx]
    rw [lk_loop, ih (j + 1) _ i y (by omega) hi, h1 (b + 4 + i) (by omega)]
    by_cases u : i = j
    · subst u
      rw [if_neg (by omega)]
      by_cases v : 1 ≤ y ∧ y ≤ 9
      · rw [if_pos (by omega)]
        unfold fb_like
        rcases (show y = 1 ∨ y = 2 ∨ y = 3 ∨ y = 4 ∨ y = 5 ∨ y = 6 ∨ y = 7 ∨ y = 8 ∨ y = 9 by omega) with rfl | rfl | rfl | rfl | rfl | rfl | rfl | rfl | rfl <;> simp [zx_uI]
      · rw [if_neg (by omega)]
        unfold fb_like
        simp only [zx_uI, if_pos]
        rw [if_neg (by omega), if_neg (by omega), if_neg (by omega), if_neg (by omega), if_neg (by omega), if_neg (by omega), if_neg (by omega), if_neg (by omega), if_neg (by omega)]
    · rw [h1 (a + 4 + i) (by omega)]
      by_cases v : (j + 1 ≤ i ∧ i < j + 1 + n) ∧ 1 ≤ y ∧ y ≤ 9
      · rw [if_pos v, if_pos (by omega)]
      · rw [if_neg v, if_neg (by omega)]
theorem lk_ne {a b : Nat} : ∀ (n j : Nat) (J : zx_I) (x : Nat), (x < a + 4 + j ∨ a + 4 + j + n ≤ x) → lk_loop (a + 4) (b + 4) n j J x = J x := by
  intro n
  induction n with
  | zero =>
    intro j J x _
    rfl
  | succ n ih =>
    intro j J x hx
    have hx' : x ≠ a + 4 + j := by omega
    rw [lk_loop, ih (j + 1) _ x (by omega)]
    unfold fb_like
    rw [zx_uI_ne hx', zx_uI_ne hx', zx_uI_ne hx', zx_uI_ne hx', zx_uI_ne hx', zx_uI_ne hx', zx_uI_ne hx', zx_uI_ne hx', zx_uI_ne hx']
theorem fl_sp {A : zx_I} {h sp : Nat} (hh : hsp h sp) : (fh_like A sp h sp 1 = A h 1 ∧ fh_like A sp h sp 2 = A h 2 ∧ fh_like A sp h sp 3 = A h 3 ∧ fh_like A sp h sp 4 = A h 4 ∧ fh_like A sp h sp 5 = A h 5) ∧ fh_like A sp h sp 8 = A h 8 ∧ fh_like A sp h sp 9 = A h 9 ∧ fh_like A sp h sp 10 = A h 10 ∧ fh_like A sp h sp 11 = A h 11 ∧ fh_like A sp h sp 12 = A h 12 ∧ fh_like A sp h sp 13 = A h 13 := by
  unfold fh_like
  rw [lk_ne 6 0 _ sp (by omega)]
  rcases hh with ⟨rfl, rfl⟩ | ⟨rfl, rfl⟩ <;> refine ⟨⟨?_, ?_, ?_, ?_, ?_⟩, ?_, ?_, ?_, ?_, ?_, ?_⟩ <;> simp [zx_uI, zcp, zr]
theorem zcp_ne {I : zx_I} {a0 a n b : Nat} (h : b ≠ a) : zcp I a0 a n b = I b := by
  unfold zcp zr
  rw [if_neg h]
theorem zcp_at {I : zx_I} {a0 a n k : Nat} (h : k < n) : zcp I a0 a n a k = I a0 k := by
  unfold zcp zr
  rw [if_pos rfl, pk_cpy_in (by omega) (by omega)]
  show I a0 (0 + (k - 0)) = _
  rw [Nat.zero_add, Nat.sub_zero]
theorem fl_ne {A : zx_I} {h sp b : Nat} (h0 : b ≠ sp) (h1 : b ≠ sp + 1) (h2 : b ≠ sp + 2) (h3 : b < sp + 4 ∨ sp + 10 ≤ b) : fh_like A sp h b = A b := by
  unfold fh_like
  rw [lk_ne 6 0 _ b (by omega), zx_uI_ne h0, zx_uI_ne h0, zx_uI_ne h0, zx_uI_ne h0, zx_uI_ne h0, zx_uI_ne h0, zcp_ne h2, zcp_ne h1, zx_uI_ne h0, zx_uI_ne h0, zx_uI_ne h0, zx_uI_ne h0, zx_uI_ne h0]
theorem fl_1 {A : zx_I} {h sp k : Nat} (hh : hsp h sp) (hk : k < 4) : fh_like A sp h (sp + 1) k = A (h + 1) k ∧ fh_like A sp h (sp + 2) k = A (h + 2) k := by
  have n1 : h + 1 ≠ sp ∧ h + 2 ≠ sp ∧ h + 2 ≠ sp + 1 ∧ h + 1 ≠ sp + 1 := by unfold hsp at hh; omega
  unfold fh_like
  rw [lk_ne 6 0 _ (sp + 1) (by omega), lk_ne 6 0 _ (sp + 2) (by omega)]
  constructor
  · rw [zx_uI_ne (by omega), zx_uI_ne (by omega), zx_uI_ne (by omega), zx_uI_ne (by omega), zx_uI_ne (by omega), zx_uI_ne (by omega), zcp_ne (by omega), zcp_at hk, zx_uI_ne n1.1, zx_uI_ne n1.1, zx_uI_ne n1.1, zx_uI_ne n1.1, zx_uI_ne n1.1]
  · rw [zx_uI_ne (by omega), zx_uI_ne (by omega), zx_uI_ne (by omega), zx_uI_ne (by omega), zx_uI_ne (by omega), zx_uI_ne (by omega), zcp_at hk, zcp_ne n1.2.2.1, zx_uI_ne n1.2.1, zx_uI_ne n1.2.1, zx_uI_ne n1.2.1, zx_uI_ne n1.2.1, zx_uI_ne n1.2.1]
theorem fl_bt {A : zx_I} {h sp i y : Nat} (hh : hsp h sp) (hi : i < 6) (hy : y < 10) : fh_like A sp h (sp + 4 + i) y = if y = 0 then A (sp + 4 + i) 0 else A (h + 4 + i) y := by
  have key : ∀ x, (x = sp + 4 + i ∨ x = h + 4 + i) → ∀ G : zx_I, (zx_uI (zx_uI (zx_uI (zx_uI (zx_uI (zx_uI (zcp (zcp (zx_uI (zx_uI (zx_uI (zx_uI (zx_uI A sp 1 (A h 1)) sp 2 (A h 2)) sp 3 (A h 3)) sp 4 (A h 4)) sp 5 (A h 5)) (h + 1) (sp + 1) 4) (h + 2) (sp + 2) 4) sp 8 (A h 8)) sp 9 (A h 9)) sp 10 (A h 10)) sp 11 (A h 11)) sp 12 (A h 12)) sp 13 (A h 13)) x = A x := fun x hx _ => by
    have h0 : x ≠ sp := by unfold hsp at hh; omega
    have h1 : x ≠ sp + 1 := by unfold hsp at hh; omega
    have h2 : x ≠ sp + 2 := by unfold hsp at hh; omega
    rw [zx_uI_ne h0, zx_uI_ne h0, zx_uI_ne h0, zx_uI_ne h0, zx_uI_ne h0, zx_uI_ne h0, zcp_ne h2, zcp_ne h1, zx_uI_ne h0, zx_uI_ne h0, zx_uI_ne h0, zx_uI_ne h0, zx_uI_ne h0]
  unfold fh_like
  rw [lk_at (by unfold hsp at hh; omega) 6 0 _ i y (by omega) hi, key _ (Or.inl rfl) A, key _ (Or.inr rfl) A]
  by_cases u : y = 0
  · subst u
    rw [if_neg (by omega), if_pos rfl]
  · rw [if_pos (by omega), if_neg u]
/-- the spare house as the house -/
theorem AR_like {h sp : Nat} {A J : zx_I} {rule : Int32} {m p c f ct : Nat} (hh : hsp h sp) (q : AR h A J rule m p c f ct) (hb : ∀ i, i < 6 → A (sp + 4 + i) 0 = nI (2 ^ i)) : AR sp (fh_like A sp h) J rule m p c f ct ∧ (∀ k, k < 17 + 8 * ct → ho (fh_like A sp h) sp k = ho A h k) ∧ ∀ b, b ≠ sp → b ≠ sp + 1 → b ≠ sp + 2 → (b < sp + 4 ∨ sp + 10 ≤ b) → fh_like A sp h b = A b := by
  obtain ⟨⟨a1, a2⟩, ⟨b1, b2, b3⟩, a3, ⟨a4, a4'⟩, a5, a6, a7, a8, a9⟩ := q
  obtain ⟨⟨g1, g2, g3, g4, g5⟩, g8, g9, g10, g11, g12, g13⟩ := fl_sp (A := A) hh
  have e34 : fh_like A sp h 34 = A 34 := fl_ne (by unfold hsp at hh; omega) (by unfold hsp at hh; omega) (by unfold hsp at hh; omega) (by unfold hsp at hh; omega)
  have e35 : fh_like A sp h 35 = A 35 := fl_ne (by unfold hsp at hh; omega) (by unfold hsp at hh; omega) (by unfold hsp at hh; omega) (by unfold hsp at hh; omega)
  have hbt : ∀ i, i < 6 → ∀ y, 1 ≤ y → y < 10 → fh_like A sp h (sp + 4 + i) y = A (h + 4 + i) y := fun i hi y h1 h2 => by rw [fl_bt hh hi h2, if_neg (by omega)]
  have hho : ∀ k, k < 17 + 8 * ct → ho (fh_like A sp h) sp k = ho A h k := fun k hk => by
    rcases Nat.lt_or_ge k 17 with z | z
    · have f1 := fl_1 (A := A) hh (show 1 < 4 by decide)
      have f2 := fl_1 (A := A) hh (show 2 < 4 by decide)
      have f3 := fl_1 (A := A) hh (show 3 < 4 by decide)
      rcases (show k = 0 ∨ k = 1 ∨ k = 2 ∨ k = 3 ∨ k = 4 ∨ k = 5 ∨ k = 6 ∨ k = 7 ∨ k = 8 ∨ k = 9 ∨ k = 10 ∨ k = 11 ∨ k = 12 ∨ k = 13 ∨ k = 14 ∨ k = 15 ∨ k = 16 by omega) with rfl | rfl | rfl | rfl | rfl | rfl | rfl | rfl | rfl | rfl | rfl | rfl | rfl | rfl | rfl | rfl | rfl <;> simp only [ho, g1, g2, g3, g4, g5, g8, g9, g10, g11, g12, g13, f1.1, f1.2, f2.1, f2.2, f3.1, f3.2]
    · obtain ⟨i, w, hw, e⟩ : ∃ i w, w < 8 ∧ k = 17 + 8 * i + w := ⟨(k - 17) / 8, (k - 17) % 8, Nat.mod_lt _ (by decide), by omega⟩
      rw [e, ho_b hw, ho_b hw, hbt i (by omega) _ (by omega) (by omega)]
  refine ⟨⟨⟨?_, ?_⟩, ⟨by rw [g13]; exact b1, b2, fun i hi => ?_⟩, fun k hk => by rw [hho k hk]; exact a3 k hk, by rw [e34]; exact ⟨a4, a4'⟩, by rw [e35]; exact a5, by rw [e35]; exact a6, fun j hj => ?_, ?_, by rw [e34]; exact a9⟩, hho, fun b z0 z1 z2 z3 => fl_ne z0 z1 z2 z3⟩
  · unfold hvt at a1 ⊢
    rw [g1, g2, g3, g4]
    exact a1
  · obtain ⟨d1, d2, d3, d4, d5, d6, d7, ⟨ct', d8, d9, d10⟩, d11⟩ := a2
    have hct : ct' = ct := (nI_eq (by omega) (by omega)).mp (d9.symm.trans b1)
    subst hct
    refine ⟨by rw [g5]; exact d1, fun s s1 s3 => ?_, by rw [g8]; exact d3, by rw [g9]; exact d4, by rw [g10]; exact d5, by rw [g11]; exact d6, by rw [g12]; exact d7, ⟨ct', d8, by rw [g13]; exact d9, fun i hi => ?_⟩, fun i hi => ?_⟩
    · obtain ⟨f1, f2⟩ := fl_1 (A := A) hh (show s < 4 by omega)
      rw [f1, f2]
      exact d2 s s1 s3
    · have := d10 i hi
      unfold hvb at this ⊢
      rw [hbt i (by omega) 1 (by decide) (by decide), hbt i (by omega) 2 (by decide) (by decide), hbt i (by omega) 3 (by decide) (by decide), hbt i (by omega) 4 (by decide) (by decide), hbt i (by omega) 5 (by decide) (by decide), hbt i (by omega) 6 (by decide) (by decide), hbt i (by omega) 7 (by decide) (by decide), hbt i (by omega) 8 (by decide) (by decide)]
      exact this
    · rw [fl_bt hh hi (by decide), if_pos rfl]
      exact hb i hi
  · have := b3 i hi
    unfold hvb at this ⊢
    rw [hbt i (by omega) 1 (by decide) (by decide), hbt i (by omega) 2 (by decide) (by decide), hbt i (by omega) 3 (by decide) (by decide), hbt i (by omega) 4 (by decide) (by decide), hbt i (by omega) 5 (by decide) (by decide), hbt i (by omega) 6 (by decide) (by decide), hbt i (by omega) 7 (by decide) (by decide), hbt i (by omega) 8 (by decide) (by decide)]
    exact this
  · rw [hbt j (by omega) 9 (by decide) (by decide)]
    exact a7 j hj
  · unfold tpr
    rw [e34]
    exact a8
/-- the model's house made better -/
def gho (k : Nat) (g : Nat → Int32) (y : Nat) : Int32 := if y = 0 then g 0 + (if k = 0 then 1 else 0) else if y = 4 then (if k = 1 then g 4 / 2 else g 4) else if y = 5 ∨ y = 7 ∨ y = 9 then (if k = 2 then g y + g y / 10 else g y) else if y = 13 then (if k = 3 then (if g 13 + 10 ≤ 30 then g 13 + 10 else 30) else g 13) else g y
theorem gho_o {k y : Nat} {g : Nat → Int32} (h : y ≠ 0 ∧ y ≠ 4 ∧ y ≠ 5 ∧ y ≠ 7 ∧ y ≠ 9 ∧ y ≠ 13) : gho k g y = g y := by
  unfold gho
  rw [if_neg h.1, if_neg h.2.1, if_neg (by omega), if_neg h.2.2.2.2.2]
theorem gr_b {X : zx_I} {sp k : Nat} (b : Nat) (h0 : b ≠ sp) (h1 : b ≠ sp + 1) : fh_grow X sp (nI k) b = X b := by
  unfold fh_grow
  split
  · split
    · split
      · exact zx_uI_ne h0
      · unfold zmap zr
        exact if_neg h1
    · exact zx_uI_ne h0
  · exact zx_uI_ne h0
theorem nI_e {a b : Nat} (ha : a < 2 ^ 31) (hb : b < 2 ^ 31) (h : a ≠ b) : ¬ nI a = nI b := fun q => h ((nI_eq ha hb).mp q)
theorem gr_sp {X : zx_I} {sp k : Nat} (hk : k ≤ 3) : (∀ y, fh_grow X sp (nI k) sp y = if y = 1 ∧ k = 0 then X sp 1 + 1 else if y = 5 ∧ k = 1 then X sp 5 / 2 else if y = 9 ∧ k = 3 then (if X sp 9 + 10 ≤ 30 then X sp 9 + 10 else 30) else X sp y) ∧ ∀ y, fh_grow X sp (nI k) (sp + 1) y = if k = 2 ∧ 1 ≤ y ∧ y < 4 then X (sp + 1) y + X (sp + 1) y / 10 else X (sp + 1) y := by
  have e30 : (if (30 : Int32) < X sp 9 + 10 then (30 : Int32) else X sp 9 + 10) = if X sp 9 + 10 ≤ 30 then X sp 9 + 10 else 30 := by
    by_cases u : X sp 9 + 10 ≤ 30
    · rw [if_pos u, if_neg (nlt_le.mpr u)]
    · rw [if_neg u, if_pos (Classical.byContradiction (fun w => u (nlt_le.mp w)))]
  unfold fh_grow
  rw [e30]
  rcases (show k = 0 ∨ k = 1 ∨ k = 2 ∨ k = 3 by omega) with rfl | rfl | rfl | rfl
  · rw [if_neg (show ¬ nI 0 ≠ 0 from fun w => w rfl)]
    refine ⟨fun y => ?_, fun y => ?_⟩
    · by_cases u : y = 1
      · subst u; simp [zx_uI]
      · simp [zx_uI, u]
    · rw [zx_uI_ne (by omega)]
      simp
  · rw [if_pos (show nI 1 ≠ 0 by decide), if_neg (show ¬ nI 1 ≠ 1 from fun w => w rfl)]
    refine ⟨fun y => ?_, fun y => ?_⟩
    · by_cases u : y = 5
      · subst u; simp [zx_uI]
      · simp [zx_uI, u]
    · rw [zx_uI_ne (by omega)]
      simp
  · rw [if_pos (show nI 2 ≠ 0 by decide), if_pos (show nI 2 ≠ 1 by decide), if_neg (show ¬ nI 2 ≠ 2 from fun w => w rfl)]
    unfold zmap zr
    refine ⟨fun y => ?_, fun y => ?_⟩
    · rw [if_neg (by omega)]
      simp
    · rw [if_pos rfl]
      by_cases u : 1 ≤ y ∧ y < 1 + 3
      · rw [if_pos u, if_pos (by omega)]
      · rw [if_neg u, if_neg (by omega)]
  · rw [if_pos (show nI 3 ≠ 0 by decide), if_pos (show nI 3 ≠ 1 by decide), if_pos (show nI 3 ≠ 2 by decide)]
    refine ⟨fun y => ?_, fun y => ?_⟩
    · by_cases u : y = 9
      · subst u; simp [zx_uI]
      · simp [zx_uI, u]
    · rw [zx_uI_ne (by omega)]
      simp
theorem gr_ho {X : zx_I} {sp k y : Nat} (hk : k ≤ 3) : ho (fh_grow X sp (nI k)) sp y = gho k (ho X sp) y := by
  obtain ⟨g1, g2⟩ := gr_sp (X := X) (sp := sp) hk
  have e2 : fh_grow X sp (nI k) (sp + 2) = X (sp + 2) := gr_b _ (by omega) (by omega)
  rcases Nat.lt_or_ge y 17 with z | z
  · rcases (show y = 0 ∨ y = 1 ∨ y = 2 ∨ y = 3 ∨ y = 4 ∨ y = 5 ∨ y = 6 ∨ y = 7 ∨ y = 8 ∨ y = 9 ∨ y = 10 ∨ y = 11 ∨ y = 12 ∨ y = 13 ∨ y = 14 ∨ y = 15 ∨ y = 16 by omega) with rfl | rfl | rfl | rfl | rfl | rfl | rfl | rfl | rfl | rfl | rfl | rfl | rfl | rfl | rfl | rfl | rfl <;> simp [ho, gho, g1, g2, e2]
    · by_cases u : k = 0 <;> simp [u]
    · rfl
  · rw [gho_o (by omega)]
    obtain ⟨w, rfl⟩ : ∃ w, y = w + 17 := ⟨y - 17, by omega⟩
    show fh_grow X sp (nI k) (sp + 4 + w / 8) (w % 8 + 1) = X (sp + 4 + w / 8) (w % 8 + 1)
    rw [gr_b _ (by omega) (by omega)]
def mo_k110 (n : Nat) (x1 x2 : Int32) (L : zx_L) : zx_I → Option (Int32 × zx_I) := (fun J_110 => (((if x2 = (3 : Int32) then (if ((J_110 3 13) + 10) ≤ (30 : Int32) then some (((J_110 3 13) + 10)) else some ((30 : Int32))) else some ((J_110 3 13))) : Option (Int32)).bind fun v160 => ((mf_scoreOf n x1 (zx_uI J_110 3 13 v160) L).bind fun p206 => (mf_bigger_213 n p206.1 L (fun J_213 => some (p206.1, J_213)) n (0 : Int32) p206.2))))
def mo_k38 (n : Nat) (x1 x2 : Int32) (L : zx_L) : zx_I → Option (Int32 × zx_I) := (fun J_38 => (((if x2 = 0 then some ((1 : Int32)) else some ((0 : Int32))) : Option (Int32)).bind fun v70 => (((if x2 = (1 : Int32) then some (((J_38 3 4) / 2)) else some ((J_38 3 4))) : Option (Int32)).bind fun v87 => (mf_bigger_110 n x1 x2 L (mo_k110 n x1 x2 L) n (0 : Int32) (zx_uI (zx_uI J_38 3 0 ((J_38 3 0) + v70)) 3 4 v87)))))
theorem mo_big {n : Nat} {x1 x2 : Int32} {J : zx_I} {L : zx_L} : mf_bigger n x1 x2 J L = if mf_isRule x1 = 0 then some (-1, J) else if mf_in x2 0 3 = 0 then some (-1, J) else if x2 = 0 then (if J 3 0 = 6 then some (-2, J) else mf_bigger_38 n x1 x2 L (mo_k38 n x1 x2 L) n 0 J) else mf_bigger_38 n x1 x2 L (mo_k38 n x1 x2 L) n 0 J := rfl
theorem bg38 {n : Nat} {x1 x2 : Int32} {L : zx_L} {K : zx_I → Option (Int32 × zx_I)} : ∀ (d j e : Nat) (J : zx_I), j + d = 65 → d < e → ∃ J', mf_bigger_38 n x1 x2 L K e (nI j) J = K J' ∧ (∀ b, b ≠ 2 → J' b = J b) ∧ ∀ y, J' 2 y = if j ≤ y ∧ y < j + d then J 3 y else J 2 y := by
  intro d
  induction d with
  | zero =>
    intro j e J hj he
    obtain ⟨e, rfl⟩ : ∃ e9, e = e9 + 1 := ⟨e - 1, by omega⟩
    refine ⟨J, ?_, fun _ _ => rfl, fun y => by rw [if_neg (by omega)]⟩
    show mf_bigger_38_b _ _ _ _ _ _ _ _ = _
    unfold mf_bigger_38_b
    rw [if_pos (show (65 : Int32) ≤ nI j from nI_le (a := 65) (by omega) (by omega))]
  | succ d ih =>
    intro j e J hj he
    obtain ⟨e, rfl⟩ : ∃ e9, e = e9 + 1 := ⟨e - 1, by omega⟩
    obtain ⟨J', f1, f2, f3⟩ := ih (j + 1) e (zx_uI J 2 j (J 3 j)) (by omega) (by omega)
    refine ⟨J', ?_, fun b hb => (f2 b hb).trans (zx_uI_ne hb), fun y => ?_⟩
    · refine Eq.trans ?_ f1
      show mf_bigger_38_b _ _ _ _ _ _ _ _ = _
      unfold mf_bigger_38_b
      rw [if_neg (show ¬ (65 : Int32) ≤ nI j from nI_ge (b := 65) (by omega) (by decide)), mo_g1 (mo_inN (by omega) (by decide)), mo_g1 (mo_inN (by omega) (by decide)), nI_clamp (by omega), ← nI_succ]
    · rw [f3 y, zx_uI_ne (by decide)]
      by_cases u : y = j
      · rw [if_neg (by omega), if_pos (by omega), u]
        simp [zx_uI]
      · by_cases u2 : j + 1 ≤ y ∧ y < j + 1 + d
        · rw [if_pos u2, if_pos (by omega)]
        · rw [if_neg u2, if_neg (by omega)]
          simp [zx_uI, u]
theorem bg213 {n : Nat} {x3 : Int32} {L : zx_L} {K : zx_I → Option (Int32 × zx_I)} : ∀ (d j e : Nat) (J : zx_I), j + d = 65 → d < e → ∃ J', mf_bigger_213 n x3 L K e (nI j) J = K J' ∧ (∀ b, b ≠ 3 → J' b = J b) ∧ ∀ y, J' 3 y = if j ≤ y ∧ y < j + d then J 2 y else J 3 y := by
  intro d
  induction d with
  | zero =>
    intro j e J hj he
    obtain ⟨e, rfl⟩ : ∃ e9, e = e9 + 1 := ⟨e - 1, by omega⟩
    refine ⟨J, ?_, fun _ _ => rfl, fun y => by rw [if_neg (by omega)]⟩
    show mf_bigger_213_b _ _ _ _ _ _ _ = _
    unfold mf_bigger_213_b
    rw [if_pos (show (65 : Int32) ≤ nI j from nI_le (a := 65) (by omega) (by omega))]
  | succ d ih =>
    intro j e J hj he
    obtain ⟨e, rfl⟩ : ∃ e9, e = e9 + 1 := ⟨e - 1, by omega⟩
    obtain ⟨J', f1, f2, f3⟩ := ih (j + 1) e (zx_uI J 3 j (J 2 j)) (by omega) (by omega)
    refine ⟨J', ?_, fun b hb => (f2 b hb).trans (zx_uI_ne hb), fun y => ?_⟩
    · refine Eq.trans ?_ f1
      show mf_bigger_213_b _ _ _ _ _ _ _ = _
      unfold mf_bigger_213_b
      rw [if_neg (show ¬ (65 : Int32) ≤ nI j from nI_ge (b := 65) (by omega) (by decide)), mo_g1 (mo_inN (by omega) (by decide)), mo_g1 (mo_inN (by omega) (by decide)), nI_clamp (by omega), ← nI_succ]
    · rw [f3 y, zx_uI_ne (by decide)]
      by_cases u : y = j
      · rw [if_neg (by omega), if_pos (by omega), u]
        simp [zx_uI]
      · by_cases u2 : j + 1 ≤ y ∧ y < j + 1 + d
        · rw [if_pos u2, if_pos (by omega)]
        · rw [if_neg u2, if_neg (by omega)]
          simp [zx_uI, u]
theorem bg110 {n k : Nat} {x1 : Int32} {L : zx_L} {K : zx_I → Option (Int32 × zx_I)} (hk : k ≤ 3) : ∀ (d j e : Nat) (J : zx_I), j + d = 3 → d < e → ∃ J', mf_bigger_110 n x1 (nI k) L K e (nI j) J = K J' ∧ (∀ b, b ≠ 3 → J' b = J b) ∧ ∀ y, J' 3 y = if k = 2 ∧ 5 + 2 * j ≤ y ∧ y < 11 ∧ y % 2 = 1 then J 3 y + J 3 y / 10 else J 3 y := by
  intro d
  induction d with
  | zero =>
    intro j e J hj he
    obtain ⟨e, rfl⟩ : ∃ e9, e = e9 + 1 := ⟨e - 1, by omega⟩
    refine ⟨J, ?_, fun _ _ => rfl, fun y => by rw [if_neg (by omega)]⟩
    show mf_bigger_110_b _ _ _ _ _ _ _ _ = _
    unfold mf_bigger_110_b
    rw [if_pos (show (3 : Int32) ≤ nI j from nI_le (a := 3) (by omega) (by omega))]
  | succ d ih =>
    intro j e J hj he
    obtain ⟨e, rfl⟩ : ∃ e9, e = e9 + 1 := ⟨e - 1, by omega⟩
    by_cases k2 : k = 2
    · subst k2
      obtain ⟨J', f1, f2, f3⟩ := ih (j + 1) e (zx_uI J 3 (5 + 2 * j) (J 3 (5 + 2 * j) + J 3 (5 + 2 * j) / 10)) (by omega) (by omega)
      refine ⟨J', ?_, fun b hb => (f2 b hb).trans (zx_uI_ne hb), fun y => ?_⟩
      · refine Eq.trans ?_ f1
        show mf_bigger_110_b _ _ _ _ _ _ _ _ = _
        unfold mf_bigger_110_b
        have ix : (5 + (2 * nI j) : Int32) = nI (5 + 2 * j) := by rw [show (2 : Int32) = nI 2 from rfl, pk_mul, show (5 : Int32) = nI 5 from rfl, nI_add]
        rw [if_neg (show ¬ (3 : Int32) ≤ nI j from nI_ge (b := 3) (by omega) (by decide)), if_pos (show nI 2 = 2 from rfl), ix, mo_g1 (mo_inN (by omega) (by decide)), mo_g1 (mo_inN (by omega) (by decide)), mo_g1 (mo_inN (by omega) (by decide)), nI_clamp (by omega), ← nI_succ]
      · rw [f3 y]
        by_cases u : y = 5 + 2 * j
        · subst u
          rw [if_neg (by omega), if_pos (by omega)]
          simp [zx_uI]
        · rw [show zx_uI J 3 (5 + 2 * j) (J 3 (5 + 2 * j) + J 3 (5 + 2 * j) / 10) 3 y = J 3 y by simp [zx_uI, u]]
          by_cases u2 : 2 = 2 ∧ 5 + 2 * (j + 1) ≤ y ∧ y < 11 ∧ y % 2 = 1
          · rw [if_pos u2, if_pos (by omega)]
          · rw [if_neg u2, if_neg (by omega)]
    · refine ⟨J, ?_, fun _ _ => rfl, fun y => by rw [if_neg (fun w => k2 w.1)]⟩
      show mf_bigger_110_b _ _ _ _ _ _ _ _ = _
      unfold mf_bigger_110_b
      rw [if_neg (show ¬ (3 : Int32) ≤ nI j from nI_ge (b := 3) (by omega) (by decide)), if_neg (show ¬ nI k = 2 from nI_e (b := 2) (by omega) (by decide) k2)]
theorem AR_gr {sp k : Nat} {X J J' : zx_I} {rule : Int32} {m p c f ct : Nat} (ha : sp = 4 ∨ sp = 14) (hk : k ≤ 3) (q : AR sp X J rule m p c f ct) (h9 : ∀ s, 1 ≤ s → s ≤ 3 → rg (X (sp + 1) s) 0 9999) (h6 : k = 0 → m < 6) (hr : ∀ y, y < 17 + 8 * ct → J' 3 y = gho k (J 3) y) (h12 : ∀ j, j < ct → J' 12 j = J 12 j) (h17 : ∀ j, j < 6 → J' 17 j = J 17 j) (h8 : J' 0 8 = J 0 8) (ht : tpr X J') : AR sp (fh_grow X sp (nI k)) J' rule (m + (if k = 0 then 1 else 0)) p c f ct := by
  obtain ⟨⟨a1, a2⟩, ⟨b1, b2, b3⟩, a3, ⟨a4, a4'⟩, a5, a6, a7, a8, a9⟩ := q
  obtain ⟨g1, g2⟩ := gr_sp (X := X) (sp := sp) hk
  have ne : ∀ b, b ≠ sp → b ≠ sp + 1 → fh_grow X sp (nI k) b = X b := fun b h0 h1 => gr_b b h0 h1
  have e34 := ne 34 (by omega) (by omega)
  have e35 := ne 35 (by omega) (by omega)
  have hbt : ∀ i, fh_grow X sp (nI k) (sp + 4 + i) = X (sp + 4 + i) := fun i => ne _ (by omega) (by omega)
  have gy : ∀ y, y ≠ 1 → y ≠ 5 → y ≠ 9 → fh_grow X sp (nI k) sp y = X sp y := fun y h1 h5 h9 => by rw [g1, if_neg (by omega), if_neg (by omega), if_neg (by omega)]
  refine ⟨⟨?_, ?_⟩, ⟨by rw [gy 13 (by decide) (by decide) (by decide)]; exact b1, b2, fun i hi => by rw [hbt]; exact b3 i hi⟩, fun y hy => ?_, by rw [e34, h8]; exact ⟨a4, a4'⟩, fun k hk => by rw [h17 k hk, e35]; exact a5 k hk, by rw [e35]; exact a6, fun j hj => by rw [h12 j hj, hbt]; exact a7 j hj, ?_, by rw [e34]; exact a9⟩
  · obtain ⟨e1, e2, e3, e4, m1, m6, rest⟩ := a1
    refine ⟨?_, by rw [gy 2 (by decide) (by decide) (by decide)]; exact e2, by rw [gy 3 (by decide) (by decide) (by decide)]; exact e3, by rw [gy 4 (by decide) (by decide) (by decide)]; exact e4, by omega, ?_, rest⟩
    · rw [g1]
      by_cases u : k = 0
      · rw [if_pos ⟨rfl, u⟩, if_pos u, e1, nI_1]
      · rw [if_neg (fun w => u w.2), if_neg (fun w => by omega), if_neg (fun w => by omega), if_neg u]
        exact e1
    · by_cases u : k = 0
      · have := h6 u
        rw [if_pos u]
        omega
      · rw [if_neg u]
        omega
  · obtain ⟨d1, d2, d3, d4, d5, d6, d7, ⟨ct', d8, d9, d10⟩, d11⟩ := a2
    refine ⟨?_, fun s s1 s3 => ⟨?_, by rw [ne (sp + 2) (by omega) (by omega)]; exact (d2 s s1 s3).2⟩, by rw [gy 8 (by decide) (by decide) (by decide)]; exact d3, ?_, by rw [gy 10 (by decide) (by decide) (by decide)]; exact d5, by rw [gy 11 (by decide) (by decide) (by decide)]; exact d6, by rw [gy 12 (by decide) (by decide) (by decide)]; exact d7, ⟨ct', d8, by rw [gy 13 (by decide) (by decide) (by decide)]; exact d9, fun i hi => by rw [hbt]; exact d10 i hi⟩, fun i hi => by rw [hbt]; exact d11 i hi⟩
    · obtain ⟨x, ex, -, hx⟩ := d1
      rw [g1, if_neg (by omega)]
      by_cases u : k = 1
      · rw [if_pos ⟨rfl, u⟩, ex, show (2 : Int32) = nI 2 from rfl, pk_div (by omega) (by decide) (by decide)]
        exact ⟨x / 2, rfl, Nat.zero_le _, by omega⟩
      · rw [if_neg (fun w => u w.2), if_neg (fun w => by omega)]
        exact ⟨x, ex, Nat.zero_le _, hx⟩
    · obtain ⟨x, ex, -, hx⟩ := h9 s s1 s3
      rw [g2]
      by_cases u : k = 2
      · rw [if_pos ⟨u, s1, by omega⟩, ex, show (10 : Int32) = nI 10 from rfl, pk_div (by omega) (by decide) (by decide), nI_add]
        exact ⟨_, rfl, Nat.zero_le _, by omega⟩
      · rw [if_neg (fun w => u w.1)]
        exact ⟨x, ex, Nat.zero_le _, by omega⟩
    · obtain ⟨x, ex, -, hx⟩ := d4
      rw [g1, if_neg (by omega), if_neg (by omega)]
      by_cases u : k = 3
      · rw [if_pos ⟨rfl, u⟩, ex, show (10 : Int32) = nI 10 from rfl, nI_add]
        by_cases v : x + 10 ≤ 30
        · rw [if_pos (show nI (x + 10) ≤ (30 : Int32) from nI_le (b := 30) v (by decide))]
          exact ⟨_, rfl, Nat.zero_le _, v⟩
        · rw [if_neg (show ¬ nI (x + 10) ≤ (30 : Int32) from nI_ge (a := 30) (by omega) (by omega))]
          exact ⟨30, rfl, Nat.zero_le _, Nat.le_refl _⟩
      · rw [if_neg (fun w => u w.2)]
        exact ⟨x, ex, Nat.zero_le _, hx⟩
  · rw [hr y hy, gr_ho hk]
    have hg : ∀ z, z < 17 → J 3 z = ho X sp z := fun z hz => a3 z (by omega)
    unfold gho
    rw [hg 0 (by decide), hg 4 (by decide), hg 13 (by decide), a3 y hy]
  · unfold tpr
    rw [e34]
    exact ht
theorem cr_bigger {h sp : Nat} {la : Option Nat} {I : zx_I} {L : zx_L} {J : zx_I} {M : zx_L} (rule k : Int32) (hW : WR h sp I L J M) : CR mm_X9_bigger mm_X10_bigger [.int rule, .int k] h sp la I L J M := by
  have hW0 := hW
  obtain ⟨m, p, c, f, ct, q⟩ := hW
  have ha := hsp_h q.1
  have hs := hsp_s q.1
  have bad : ¬ q_bgok I h rule k → mf_bigger 200 rule k J M = some (-1, J) → CR mm_X9_bigger mm_X10_bigger [.int rule, .int k] h sp la I L J M := fun b1 b2 => cr_ret (J' := J) (ct_X9_bigger_bad (d := 7) q.1 b1) (mt_bigger (d := 1) b2) hW0
  by_cases c1 : q_rule rule = 0
  · refine bad (fun z => z.1 c1) ?_
    rw [mo_big, if_pos (show mf_isRule rule = 0 from c1)]
  · have c1' : ¬ mf_isRule rule = 0 := c1
    rcases in_cs (x := k) (a := 0) (b := 3) with ⟨z, z1⟩ | ⟨z, z1, z2⟩
    · refine bad (fun w => ?_) ?_
      · rcases z1 with z1 | z1
        · exact w.2.1 z1
        · exact nlt_le.mpr w.2.2 z1
      · rw [mo_big, if_neg c1', if_pos z]
    · obtain ⟨k, hk, rfl⟩ := in_le (k := 3) rfl z1 z2
      have ok : q_bgok I h rule (nI k) := ⟨c1, z1, nlt_le.mp z2⟩
      have em : I h 1 = nI m := q.2.1.1.1
      have m6 : m ≤ 6 := q.2.1.1.2.2.2.2.2.1
      have e30 : J 3 0 = nI m := (q.2.2.2.1 0 (by omega)).trans em
      have k0 : nI k = 0 ↔ k = 0 := nI_eq (b := 0) (by omega) (by decide)
      by_cases six : k = 0 ∧ m = 6
      · refine cr_ret (J' := J) (ct_X9_bigger_six (d := 7) q.1 ok (k0.mpr six.1) (by rw [em, six.2]; decide)) (mt_bigger (d := 1) (n := 200) (p := (-2, J)) ?_) hW0
        rw [mo_big, if_neg c1', if_neg (by rw [z]; decide), if_pos (k0.mpr six.1), if_pos (by rw [e30, six.2]; rfl)]
      · have hm : mf_bigger 200 rule (nI k) J M = mf_bigger_38 200 rule (nI k) M (mo_k38 200 rule (nI k) M) 200 0 J := by
          rw [mo_big, if_neg c1', if_neg (by rw [z]; decide)]
          by_cases u : k = 0
          · rw [if_pos (k0.mpr u), if_neg]
            intro w
            rw [e30] at w
            exact six ⟨u, (nI_eq (b := 6) (by omega) (by decide)).mp w⟩
          · rw [if_neg (fun w => u (k0.mp w))]
        obtain ⟨JA, a1, a2, a3⟩ := bg38 (n := 200) (x1 := rule) (x2 := nI k) (L := M) (K := mo_k38 200 rule (nI k) M) 65 0 200 J rfl (by omega)
        have a30 : JA 3 = J 3 := a2 3 (by decide)
        have k1 : nI k = 1 ↔ k = 1 := nI_eq (b := 1) (by omega) (by decide)
        have k3 : nI k = 3 ↔ k = 3 := nI_eq (b := 3) (by omega) (by decide)
        obtain ⟨JB, b1, b2, b3⟩ := bg110 (n := 200) (x1 := rule) (L := M) (K := mo_k110 200 rule (nI k) M) hk 3 0 200 (zx_uI (zx_uI JA 3 0 (JA 3 0 + (if k = 0 then 1 else 0))) 3 4 (if k = 1 then J 3 4 / 2 else J 3 4)) rfl (by omega)
        have e38 : mo_k38 200 rule (nI k) M JA = mf_bigger_110 200 rule (nI k) M (mo_k110 200 rule (nI k) M) 200 (nI 0) (zx_uI (zx_uI JA 3 0 (JA 3 0 + (if k = 0 then 1 else 0))) 3 4 (if k = 1 then J 3 4 / 2 else J 3 4)) := by
          unfold mo_k38
          rw [a30]
          have x1 : ((if nI k = 0 then some ((1 : Int32)) else some ((0 : Int32))) : Option Int32) = some (if k = 0 then 1 else 0) := by
            by_cases u : k = 0
            · rw [if_pos (k0.mpr u), if_pos u]
            · rw [if_neg (fun w => u (k0.mp w)), if_neg u]
          have x2 : ((if nI k = (1 : Int32) then some ((J 3 4 / 2)) else some (J 3 4)) : Option Int32) = some (if k = 1 then J 3 4 / 2 else J 3 4) := by
            by_cases u : k = 1
            · rw [if_pos (k1.mpr u), if_pos u]
            · rw [if_neg (fun w => u (k1.mp w)), if_neg u]
          rw [x1, Option.bind_some, x2, Option.bind_some]
          rfl
        generalize hv : (if k = 3 then (if JB 3 13 + 10 ≤ 30 then JB 3 13 + 10 else 30) else JB 3 13) = v
        have x3 : ((if nI k = (3 : Int32) then (if (JB 3 13 + 10) ≤ (30 : Int32) then some ((JB 3 13 + 10)) else some ((30 : Int32))) else some ((JB 3 13))) : Option Int32) = some v := by
          rw [← hv]
          by_cases u : k = 3
          · rw [if_pos (k3.mpr u), if_pos u]
            by_cases w : JB 3 13 + 10 ≤ 30
            · rw [if_pos w, if_pos w]
            · rw [if_neg w, if_neg w]
          · rw [if_neg (fun w => u (k3.mp w)), if_neg u]
        -- the grown house in the model
        have eB : ∀ b, b ≠ 2 → b ≠ 3 → zx_uI JB 3 13 v b = J b := fun b h2 h3 => by rw [zx_uI_ne h3, b2 b h3, zx_uI_ne h3, zx_uI_ne h3, a2 b h2]
        have eB2 : ∀ y, y < 65 → zx_uI JB 3 13 v 2 y = J 3 y := fun y hy => by rw [zx_uI_ne (by decide), b2 2 (by decide), zx_uI_ne (by decide), zx_uI_ne (by decide), a3 y, if_pos (by omega)]
        have eJB : ∀ y, JB 3 y = if k = 2 ∧ 5 + 2 * 0 ≤ y ∧ y < 11 ∧ y % 2 = 1 then J 3 y + J 3 y / 10 else if y = 4 then (if k = 1 then J 3 4 / 2 else J 3 4) else if y = 0 then J 3 0 + (if k = 0 then 1 else 0) else J 3 y := fun y => by
          rw [b3 y]
          by_cases u : k = 2 ∧ 5 + 2 * 0 ≤ y ∧ y < 11 ∧ y % 2 = 1
          · rw [if_pos u, if_pos u]
            simp only [zx_uI, if_pos]
            rw [if_neg (by omega), if_neg (by omega), a30]
          · rw [if_neg u, if_neg u]
            simp only [zx_uI, if_pos]
            rw [a30]
        have eg : ∀ y, zx_uI JB 3 13 v 3 y = gho k (J 3) y := fun y => by
          have e13 : JB 3 13 = J 3 13 := by rw [eJB, if_neg (by omega), if_neg (by decide), if_neg (by decide)]
          simp only [zx_uI, if_pos]
          unfold gho
          by_cases u13 : y = 13
          · rw [if_pos u13, if_neg (by omega), if_neg (by omega), if_neg (by omega), if_pos u13, ← hv, e13]
          · rw [if_neg u13, eJB]
            by_cases u0 : y = 0
            · subst u0
              rw [if_neg (by omega), if_neg (by decide), if_pos rfl, if_pos rfl]
            · rw [if_neg u0]
              by_cases u4 : y = 4
              · subst u4
                rw [if_neg (by omega), if_pos rfl, if_pos rfl, if_neg u0]
              · rw [if_neg u4, if_neg u4, if_neg u0]
                by_cases u5 : y = 5 ∨ y = 7 ∨ y = 9
                · rw [if_pos u5]
                  by_cases u2 : k = 2
                  · rw [if_pos (by omega), if_pos u2]
                  · rw [if_neg (by omega), if_neg u2]
                · rw [if_neg (by omega), if_neg u5, if_neg u13]
        -- asked in both
        obtain ⟨J1, f1, f2, f3, f4, f5, f6⟩ := ask_RR (n := 200) (rule := rule) (by omega) q
        obtain ⟨JC, g1, g2, g3, g4, g5, g6⟩ := as_spec (n := 200) (J := zx_uI JB 3 13 v) (by omega)
        have bits : ∀ i, i < 6 → q_ask I h rule (sp + 4 + i) 0 = nI (2 ^ i) := fun i hi => by
          rw [ask_ne (by omega) (by omega) (by omega)]
          exact (q.2.2.2.2.1 i hi).1
        obtain ⟨l1, l2, l3⟩ := AR_like q.1 f2.1 bits
        have l1c := l1
        have hc31 : JC 3 = zx_uI JB 3 13 v 3 := g2 3 (by decide) (by decide) (by decide)
        have hAR : AR sp (q_bgm I h sp rule (nI k)) JC rule (m + (if k = 0 then 1 else 0)) p c f ct := by
          refine AR_gr hs hk l1 (fun s s1 s3 => ?_) (fun u => ?_) (fun y hy => ?_) (fun j hj => ?_) (fun j hj => ?_) ?_ (Or.inl ⟨?_, g4⟩)
          · rw [(fl_1 q.1 (show s < 4 by omega)).1, ask_ne (by omega) (by omega) (by omega)]
            exact (q.2.2.2.2.1 s (by omega)).2 s1 s3
          · have : ¬ m = 6 := fun w => six ⟨u, w⟩
            omega
          · rw [hc31, eg, f4]
          · have e1 := (l1c.2.2.2.2.2.2.1 j hj).1
            have e2 := (f2.1.2.2.2.2.2.2.1 j hj).1
            rw [g5 j (by have := q.2.2.1.2.1; omega), eg, gho_o (by omega), e2, ask_9 ha (by have := q.2.2.1.2.1; omega), hrl_b q.2.2.2.1 hj (by decide)]
          · rw [g6 j hj, eB 4 (by decide) (by decide), f2.1.2.2.2.2.1 j hj, ask_35 ha hj]
            exact q.2.2.2.2.2.2.1.2.1 j hj
          · rw [g3 8 (by decide), eB 0 (by decide) (by decide), f5 8 (by decide)]
          · rw [l3 34 (by omega) (by omega) (by omega) (by omega)]
            exact (ask_34 ha).2.2.2.2.1
        have e2 : q_bgm I h sp rule (nI k) 34 2 = JC 3 11 := by
          unfold q_bgm
          rw [gr_b 34 (by omega) (by omega), l3 34 (by omega) (by omega) (by omega) (by omega), (ask_34 ha).2.2.1, hc31, eg, gho_o (by omega), q.2.2.2.1 11 (by omega)]
          rfl
        obtain ⟨JD, r1, r2, r3, r4, r5, r6⟩ := run_spec (n := 200) (L := q_L L) hs (by omega) hAR
        have eL : q_L L 34 3 = M 0 9 := by
          unfold q_L
          have := q.2.2.2.2.2.2.1.2.2.2.1.1
          simp [zx_uL, this]
        rw [eL, e2] at r1
        obtain ⟨JE, t1, t2, t3⟩ := bg213 (n := 200) (x3 := fr_score (q_bgm I h sp rule (nI k)) (q_L L) sp) (L := M) (K := fun J_213 => some (fr_score (q_bgm I h sp rule (nI k)) (q_L L) sp, J_213)) 65 0 200 JD rfl (by omega)
        have hmod : mf_bigger 200 rule (nI k) J M = some (fr_score (q_bgm I h sp rule (nI k)) (q_L L) sp, JE) := by
          rw [hm]
          refine a1.trans ?_
          rw [e38]
          refine b1.trans ?_
          unfold mo_k110
          rw [x3, Option.bind_some]
          unfold mf_scoreOf
          rw [g1, Option.bind_some, r1, Option.bind_some, Option.bind_some]
          exact t1
        have hct := ct_X9_bigger (d := 3) (I := I) (L := L) (la := la) q.1 ok (fun u => by
          rw [em]
          have : ¬ m = 6 := fun w => six ⟨k0.mp u, w⟩
          exact nI_lt (b := 6) (by omega) (by decide)) (Kh_rn hs (AR_Kh hAR))
        have jd : ∀ b, b = 1 ∨ (4 ≤ b ∧ b ≤ 9) → JE b = J b := fun b hb => by
          rw [t2 b (by omega), r2.1 b (by omega) (by omega) (by omega) (by omega) (by omega) (by omega) (by omega), g2 b (by omega) (by omega) (by omega), eB b (by omega) (by omega)]
        have jd0 : ∀ y, y < 24 → JE 0 y = J 0 y := fun y hy => by
          rw [t2 0 (by decide), r2.2 y (by omega), g3 y (by omega), eB 0 (by decide) (by decide)]
        have jd3 : JE 3 = J 3 := by
          funext y
          rw [t3 y]
          by_cases u : y < 65
          · rw [if_pos (by omega), r2.1 2 (by decide) (by decide) (by decide) (by decide) (by decide) (by decide) (by decide), g2 2 (by decide) (by decide) (by decide), eB2 y u]
          · rw [if_neg (by omega), mkeep_3 r2, hc31, eg, gho_o (by omega)]
        refine cr_ret (J' := JE) hct (mt_bigger (d := 1) hmod) ⟨m, p, c, f, ct, WRx_cg q (cW_tr (ask_cW (rule := rule) q.1) (cW_tr ?_ (cW_cfr q.1 r4))) (fun b hb => by rw [qL_34 b hb]) ⟨fun b hb => ?_, jd0 0 (by decide), jd0 8 (by decide), jd0 11 (by decide)⟩⟩
        · have hq := q.1
          have e : ∀ b, b ≠ sp → b ≠ sp + 1 → b ≠ sp + 2 → (b < sp + 4 ∨ sp + 10 ≤ b) → q_bgm I h sp rule (nI k) b = q_ask I h rule b := fun b h0 h1 h2 h3 => by
            unfold q_bgm
            rw [gr_b b h0 h1, l3 b h0 h1 h2 h3]
          refine ⟨fun b _ _ z0 z1 z2 _ z => e b z0 z1 z2 ?_, fun b hb => ?_, fun i hi y hy => ?_⟩
          · unfold bt at z
            omega
          · by_cases u : sp + 4 ≤ b ∧ b < sp + 10
            · obtain ⟨i, rfl⟩ : ∃ i, b = sp + 4 + i := ⟨b - (sp + 4), by omega⟩
              unfold q_bgm
              rw [gr_b _ (by omega) (by omega), fl_bt hq (by omega) (by decide), if_pos rfl]
            · rw [e b (by unfold bt at hb; omega) (by unfold bt at hb; omega) (by unfold bt at hb; omega) (by omega)]
          · rw [e _ (by unfold hsp at hq; omega) (by unfold hsp at hq; omega) (by unfold hsp at hq; omega) (by unfold hsp at hq; omega)]
        · by_cases u : b = 3
          · rw [u]
            exact jd3
          · exact jd b (by omega)
