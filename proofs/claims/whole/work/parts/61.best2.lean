/-! best in both: the rows as lists -/
def nL_1 (l : List Nat) : Nat → Nat
  | 0 => 0
  | k + 1 => if l.getD k 0 ≤ l.getD (k + 1) 0 then k + 1 else nL_1 l k
def nL_2 (l : List Nat) (k : Nat) : Nat → Nat
  | 0 => 0
  | t + 1 => if t + 1 ≤ k + 1 then t + 1 else if l.getD k 0 ≤ l.getD (t + 1) 0 then t + 1 else nL_2 l k t
def sL (l : List Nat) (a b : Nat) : List Nat := (l.set a (l.getD b 0)).set b (l.getD a 0)
def nL_3 : Nat → Nat → Nat → List Nat → List Nat
  | 0, _, _, l => l
  | n + 1, a, b, l => if a < b then nL_3 n (a + 1) (b - 1) (sL l a b) else l
def nextL (m : Nat) (l : List Nat) : Option (List Nat) := match nL_1 l (m - 1) with
  | 0 => none
  | k + 1 => some (nL_3 6 (k + 1) (m - 1) (sL l k (nL_2 l k (m - 1))))
def iterL (m : Nat) : Nat → List Nat → Option (List Nat)
  | 0, l => some l
  | n + 1, l => match nextL m l with
    | none => none
    | some l' => iterL m n l'
theorem iter_all : ∀ m : Fin 7, iterL m.1 720 [0, 1, 2, 3, 4, 5] = none := by decide +kernel
theorem sL_len {l : List Nat} {a b : Nat} (hl : l.length = 6) : (sL l a b).length = 6 := by
  unfold sL
  rw [List.length_set, List.length_set]
  exact hl
theorem sL_get {l : List Nat} (hl : l.length = 6) {a b y : Nat} (ha : a < 6) (hb : b < 6) (hy : y < 6) : (sL l a b).getD y 0 = if y = b then l.getD a 0 else if y = a then l.getD b 0 else l.getD y 0 := by
  unfold sL
  rw [List.getD_eq_getElem?_getD, List.getElem?_set]
  by_cases u : y = b
  · rw [if_pos u.symm, if_pos u, if_pos (by rw [List.length_set, hl]; exact hb)]
    rfl
  · rw [if_neg (fun w => u w.symm), if_neg u, List.getElem?_set]
    by_cases v : y = a
    · rw [if_pos v.symm, if_pos v, if_pos (by rw [hl]; exact ha)]
      rfl
    · rw [if_neg (fun w => v w.symm), if_neg v, List.getD_eq_getElem?_getD]
def rowis (I : zx_I) (l : List Nat) : Prop := l.length = 6 ∧ ∀ k, k < 6 → I 35 k = nI (l.getD k 0) ∧ l.getD k 0 < 6
theorem ch_35 {I : zx_I} {a b y : Nat} (ha : a < 6) (hb : b < 6) : fa_ch I (nI a) (nI b) 35 y = if y = b then I 35 a else if y = a then I 35 b else I 35 y := by
  rw [ch_at ha hb]
  simp only [zx_uI, if_pos]
theorem rowis_ch {I : zx_I} {l : List Nat} {a b : Nat} (ha : a < 6) (hb : b < 6) (h : rowis I l) : rowis (fa_ch I (nI a) (nI b)) (sL l a b) := by
  refine ⟨sL_len h.1, fun y hy => ?_⟩
  rw [ch_35 ha hb, sL_get h.1 ha hb hy]
  split
  · exact h.2 a ha
  · split
    · exact h.2 b hb
    · exact h.2 y hy
theorem n1_c {I : zx_I} {l : List Nat} (h : rowis I l) : ∀ j, j ≤ 5 → nx_1 (I 35) j = nL_1 l j
  | 0, _ => rfl
  | k + 1, hj => by
    rw [nx_1, nL_1, (h.2 k (by omega)).1, (h.2 (k + 1) (by omega)).1, n1_c h k (by omega)]
    have e := nI_leI (a := l.getD k 0) (b := l.getD (k + 1) 0) (by have := (h.2 k (by omega)).2; omega) (by have := (h.2 (k + 1) (by omega)).2; omega)
    by_cases u : l.getD k 0 ≤ l.getD (k + 1) 0
    · rw [if_pos (e.mpr u), if_pos u]
    · rw [if_neg (fun w => u (e.mp w)), if_neg u]
theorem n1_m {n : Nat} {x1 : Int32} {I J : zx_I} {l : List Nat} {K : Int32 → Option (Int32 × zx_I)} (h : rowis I l) (hj : ∀ k, k < 6 → J 17 k = I 35 k) : ∀ j e, j ≤ 5 → j < e → mf_turns_9 n x1 J K e (nI j - 1) = K (nI (nL_1 l j) - 1) := by
  intro j
  induction j with
  | zero =>
    intro e _ he
    obtain ⟨e, rfl⟩ : ∃ e9, e = e9 + 1 := ⟨e - 1, by omega⟩
    show mf_turns_9_b _ _ _ _ _ _ = _
    unfold mf_turns_9_b
    rw [if_pos (by decide)]
    rfl
  | succ j ih =>
    intro e h5 he
    obtain ⟨e, rfl⟩ : ∃ e9, e = e9 + 1 := ⟨e - 1, by omega⟩
    show mf_turns_9_b _ _ _ _ _ _ = _
    unfold mf_turns_9_b
    rw [nI_pred, if_neg (nI_pos (by omega)), nI_1, mo_g1 (mo_inN (by omega) (by decide)), mo_g1 (mo_inN (by omega) (by decide)), nI_clamp (by omega), nI_clamp (by omega), hj j (by omega), hj (j + 1) (by omega), (h.2 j (by omega)).1, (h.2 (j + 1) (by omega)).1, nL_1]
    have e9 := nI_leI (a := l.getD j 0) (b := l.getD (j + 1) 0) (by have := (h.2 j (by omega)).2; omega) (by have := (h.2 (j + 1) (by omega)).2; omega)
    by_cases u : l.getD j 0 ≤ l.getD (j + 1) 0
    · rw [if_pos (e9.mpr u), if_pos u, nI_pred]
    · rw [if_neg (fun w => u (e9.mp w)), if_neg u, ← ih e (by omega) (by omega), Int32.sub_eq_add_neg]
theorem nL1_le {l : List Nat} : ∀ j, nL_1 l j ≤ j
  | 0 => Nat.le_refl 0
  | j + 1 => by
    rw [nL_1]
    split
    · exact Nat.le_refl _
    · exact Nat.le_succ_of_le (nL1_le j)
theorem nL1_is {l : List Nat} {k : Nat} : ∀ j, nL_1 l j = k + 1 → l.getD k 0 ≤ l.getD (k + 1) 0
  | 0, h => by cases h
  | j + 1, h => by
    rw [nL_1] at h
    split at h
    · rename_i c
      have : j = k := by omega
      subst this
      exact c
    · exact nL1_is j h
theorem n2_c {I : zx_I} {l : List Nat} {k : Nat} (h : rowis I l) (hk : k < 5) : ∀ t, t ≤ 5 → nx_2 (I 35) k t = nL_2 l k t
  | 0, _ => rfl
  | t + 1, ht => by
    rw [nx_2, nL_2, (h.2 k (by omega)).1, (h.2 (t + 1) (by omega)).1, n2_c h hk t (by omega)]
    by_cases u : t + 1 ≤ k + 1
    · rw [if_pos u, if_pos u]
    · rw [if_neg u, if_neg u]
      have e := nI_leI (a := l.getD k 0) (b := l.getD (t + 1) 0) (by have := (h.2 k (by omega)).2; omega) (by have := (h.2 (t + 1) (by omega)).2; omega)
      by_cases v : l.getD k 0 ≤ l.getD (t + 1) 0
      · rw [if_pos (show nI (l.getD (t + 1) 0) ≥ nI (l.getD k 0) from e.mpr v), if_pos v]
      · rw [if_neg (show ¬ nI (l.getD (t + 1) 0) ≥ nI (l.getD k 0) from fun w => v (e.mp w)), if_neg v]
theorem n2_m {n k : Nat} {x1 : Int32} {I J : zx_I} {l : List Nat} {K : Int32 → Option (Int32 × zx_I)} (h : rowis I l) (hj : ∀ k, k < 6 → J 17 k = I 35 k) (hk : k < 5) (hc : l.getD k 0 ≤ l.getD (k + 1) 0) : ∀ t e, k + 1 ≤ t → t ≤ 5 → t < e → mf_turns_46 n x1 (nI k) J K e (nI t) = K (nI (nL_2 l k t)) ∧ k + 1 ≤ nL_2 l k t ∧ nL_2 l k t ≤ t := by
  intro t
  induction t with
  | zero =>
    intro e h1
    omega
  | succ t ih =>
    intro e h1 h5 he
    obtain ⟨e, rfl⟩ : ∃ e9, e = e9 + 1 := ⟨e - 1, by omega⟩
    have body : mf_turns_46 n x1 (nI k) J K (e + 1) (nI (t + 1)) = if l.getD k 0 ≤ l.getD (t + 1) 0 then K (nI (t + 1)) else mf_turns_46 n x1 (nI k) J K e (nI t) := by
      show mf_turns_46_b _ _ _ _ _ _ _ = _
      unfold mf_turns_46_b
      rw [mo_g1 (mo_inN (by omega) (by decide)), mo_g1 (mo_inN (by omega) (by decide)), nI_clamp (by omega), nI_clamp (by omega), hj k (by omega), hj (t + 1) (by omega), (h.2 k (by omega)).1, (h.2 (t + 1) (by omega)).1, pk_m1]
      have e9 := nI_leI (a := l.getD k 0) (b := l.getD (t + 1) 0) (by have := (h.2 k (by omega)).2; omega) (by have := (h.2 (t + 1) (by omega)).2; omega)
      by_cases v : l.getD k 0 ≤ l.getD (t + 1) 0
      · rw [if_pos (e9.mpr v), if_pos v]
      · rw [if_neg (fun w => v (e9.mp w)), if_neg v]
    rw [body, nL_2]
    by_cases u : t + 1 ≤ k + 1
    · have : t = k := by omega
      subst this
      rw [if_pos hc, if_pos u]
      exact ⟨rfl, Nat.le_refl _, Nat.le_refl _⟩
    · rw [if_neg u]
      by_cases v : l.getD k 0 ≤ l.getD (t + 1) 0
      · rw [if_pos v, if_pos v]
        exact ⟨rfl, by omega, Nat.le_refl _⟩
      · rw [if_neg v, if_neg v]
        obtain ⟨r1, r2, r3⟩ := ih e (by omega) (by omega) (by omega)
        exact ⟨r1, r2, by omega⟩
theorem n3_spec {nn ct : Nat} {K : zx_I → Option (Int32 × zx_I)} (hct : ct ≤ 6) : ∀ (n a b e : Nat) (I J : zx_I) (l : List Nat), a + n ≤ 20 → b ≤ a + 2 * n → b < ct → n < e → rowis I l → (∀ k, k < 6 → J 17 k = I 35 k) → rowok (I 35) ct → ∃ J', mf_turns_105 nn K e (nI a) (nI b) J = K J' ∧ rowis (nx_3 n a b I) (nL_3 n a b l) ∧ (∀ k, k < 6 → J' 17 k = nx_3 n a b I 35 k) ∧ rowok (nx_3 n a b I 35) ct ∧ (∀ x, x ≠ 35 → nx_3 n a b I x = I x) ∧ ∀ x, x ≠ 17 → J' x = J x := by
  intro n
  induction n with
  | zero =>
    intro a b e I J l h20 hb hbc he h hj ho
    obtain ⟨e, rfl⟩ : ∃ e9, e = e9 + 1 := ⟨e - 1, by omega⟩
    refine ⟨J, ?_, h, hj, ho, fun _ _ => rfl, fun _ _ => rfl⟩
    show mf_turns_105_b _ _ _ _ _ _ = _
    unfold mf_turns_105_b
    rw [if_pos (nI_le (by omega) (by omega))]
  | succ n ih =>
    intro a b e I J l h20 hb hbc he h hj ho
    obtain ⟨e, rfl⟩ : ∃ e9, e = e9 + 1 := ⟨e - 1, by omega⟩
    rw [nx_3, nL_3]
    by_cases u : a < b
    · rw [if_pos u, if_pos u]
      obtain ⟨b, rfl⟩ : ∃ b9, b = b9 + 1 := ⟨b - 1, by omega⟩
      have e17 : ∀ k, k < 6 → zx_uI (zx_uI J 17 a (J 17 (b + 1))) 17 (b + 1) (J 17 a) 17 k = fa_ch I (nI a) (nI (b + 1)) 35 k := fun k hk => by
        rw [ch_35 (by omega) (by omega)]
        simp only [zx_uI, if_pos]
        rw [hj a (by omega), hj (b + 1) (by omega), hj k hk]
      obtain ⟨J', r1, r2, r3, r4, r5, r6⟩ := ih (a + 1) b e (fa_ch I (nI a) (nI (b + 1))) (zx_uI (zx_uI J 17 a (J 17 (b + 1))) 17 (b + 1) (J 17 a)) (sL l a (b + 1)) (by omega) (by omega) (by omega) (by omega) (rowis_ch (by omega) (by omega) h) e17 (sw_row (a := a) (b := b + 1) (by omega) hbc hct ho (fun y _ => ch_35 (by omega) (by omega)))
      refine ⟨J', ?_, r2, r3, r4, fun x hx => by rw [Nat.add_sub_cancel, r5 x hx, ch_ne hx], fun x hx => by rw [r6 x hx, zx_uI_ne hx, zx_uI_ne hx]⟩
      rw [← r1]
      show mf_turns_105_b _ _ _ _ _ _ = _
      unfold mf_turns_105_b
      rw [if_neg (nI_ge u (by omega)), mo_g1 (mo_inN (by omega) (by decide)), mo_g1 (mo_inN (by omega) (by decide)), mo_g1 (mo_inN (by omega) (by decide)), mo_g1 (mo_inN (by omega) (by decide)), nI_clamp (by omega), nI_clamp (by omega), pk_m1, nI_1]
    · rw [if_neg u, if_neg u]
      refine ⟨J, ?_, h, hj, ho, fun _ _ => rfl, fun _ _ => rfl⟩
      show mf_turns_105_b _ _ _ _ _ _ = _
      unfold mf_turns_105_b
      rw [if_pos (nI_le (by omega) (by omega))]
/-- the next row of both -/
theorem next_spec {n ct : Nat} {I J : zx_I} {l : List Nat} (hn : 200 ≤ n) (hct : ct ≤ 6) (h16 : J 3 16 = nI ct) (h : rowis I l) (hj : ∀ k, k < 6 → J 17 k = I 35 k) (ho : rowok (I 35) ct) : (nextL ct l = none ∧ fa_next I ct = (false, I) ∧ mf_turns n J = some (0, J)) ∨ ∃ l' I' J', nextL ct l = some l' ∧ fa_next I ct = (true, I') ∧ mf_turns n J = some (1, J') ∧ rowis I' l' ∧ (∀ k, k < 6 → J' 17 k = I' 35 k) ∧ rowok (I' 35) ct ∧ (∀ x, x ≠ 35 → I' x = I x) ∧ ∀ x, x ≠ 17 → J' x = J x := by
  have e1 := n1_c h (ct - 1) (by omega)
  have hT : ∀ K : Int32 → Option (Int32 × zx_I), (∀ x, x < 0 → K x = some (0, J)) → nL_1 l (ct - 1) = 0 → mf_turns_9 n (nI ct) J K n (nI ct - 2) = some (0, J) := fun K hK h0 => by
    by_cases c0 : ct = 0
    · subst c0
      obtain ⟨e, rfl⟩ : ∃ e9, n = e9 + 1 := ⟨n - 1, by omega⟩
      show mf_turns_9_b _ _ _ _ _ _ = _
      unfold mf_turns_9_b
      rw [if_pos (by decide)]
      exact hK _ (by decide)
    · have : nI ct - 2 = nI (ct - 1) - 1 := by
        obtain ⟨c, rfl⟩ : ∃ c, ct = c + 1 := ⟨ct - 1, by omega⟩
        rw [Nat.add_sub_cancel, show (2 : Int32) = 1 + 1 from rfl, ← Int32.sub_sub, nI_pred]
      rw [this, n1_m h hj (ct - 1) n (by omega) (by omega), h0]
      exact hK _ (by decide)
  cases hk : nL_1 l (ct - 1) with
  | zero =>
    refine Or.inl ⟨?_, ?_, ?_⟩
    · unfold nextL
      rw [hk]
    · unfold fa_next
      rw [e1, hk]
    · unfold mf_turns mf_many
      rw [h16]
      exact hT _ (fun x hx => by rw [if_neg (fun w => nlt_le.mpr w hx)]) hk
  | succ k =>
    have hle := nL1_le (l := l) (ct - 1)
    rw [hk] at hle
    have hc := nL1_is (ct - 1) hk
    have hk5 : k < 5 := by omega
    obtain ⟨m1, m2, m3⟩ := n2_m (n := n) (x1 := nI ct) (K := fun x3_46 => (mo_g (mo_in (nI k) 6) (mo_g (mo_in x3_46 6) (mo_g (mo_in (nI k) 6) (mo_g (mo_in x3_46 6) (mf_turns_105 n (fun J_105 => some ((1 : Int32), J_105)) n (nI k + 1) (nI ct - 1) (zx_uI (zx_uI J 17 k (J 17 x3_46.toNatClampNeg)) 17 x3_46.toNatClampNeg (J 17 k)))))))) h hj hk5 hc (ct - 1) n (by omega) (by omega) (by omega)
    have e2 := n2_c h hk5 (ct - 1) (by omega)
    generalize hq : nL_2 l k (ct - 1) = qq at m1 m2 m3 e2
    have e17 : ∀ y, y < 6 → zx_uI (zx_uI J 17 k (J 17 qq)) 17 qq (J 17 k) 17 y = fa_ch I (nI k) (nI qq) 35 y := fun y hy => by
      rw [ch_35 (by omega) (by omega)]
      simp only [zx_uI, if_pos]
      rw [hj k (by omega), hj qq (by omega), hj y hy]
    obtain ⟨J', r1, r2, r3, r4, r5, r6⟩ := n3_spec (nn := n) (K := fun J_105 => some ((1 : Int32), J_105)) hct 6 (k + 1) (ct - 1) n (fa_ch I (nI k) (nI qq)) (zx_uI (zx_uI J 17 k (J 17 qq)) 17 qq (J 17 k)) (sL l k qq) (by omega) (by omega) (by omega) (by omega) (rowis_ch (by omega) (by omega) h) e17 (sw_row (a := k) (b := qq) (by omega) (by omega) hct ho (fun y _ => ch_35 (by omega) (by omega)))
    refine Or.inr ⟨_, _, J', ?_, ?_, ?_, r2, r3, r4, fun x hx => by rw [r5 x hx, ch_ne hx], fun x hx => by rw [r6 x hx, zx_uI_ne hx, zx_uI_ne hx]⟩
    · unfold nextL
      rw [hk]
      dsimp only
      rw [hq]
    · unfold fa_next
      rw [e1, hk]
      dsimp only
      rw [e2]
    · unfold mf_turns mf_many
      rw [h16]
      have : nI ct - 2 = nI (ct - 1) - 1 := by
        obtain ⟨c, rfl⟩ : ∃ c, ct = c + 1 := ⟨ct - 1, by omega⟩
        rw [Nat.add_sub_cancel, show (2 : Int32) = 1 + 1 from rfl, ← Int32.sub_sub, nI_pred]
      have em1 : nI ct - 1 = nI (ct - 1) := by
        obtain ⟨c, rfl⟩ : ∃ c, ct = c + 1 := ⟨ct - 1, by omega⟩
        rw [Nat.add_sub_cancel, nI_pred]
      rw [this, n1_m h hj (ct - 1) n (by omega) (by omega), hk, nI_pred, if_pos (nI_pos' (by omega)), em1, nI_clamp (by omega)]
      rw [em1] at m1
      refine m1.trans ?_
      rw [mo_g1 (mo_inN (by omega) (by decide)), mo_g1 (mo_inN (by omega) (by decide)), mo_g1 (mo_inN (by omega) (by decide)), mo_g1 (mo_inN (by omega) (by decide)), nI_clamp (by omega), nI_1]
      exact r1
/-- copies of rows -/
theorem b86 {n : Nat} {x1 x2 : Int32} {L : zx_L} {K : zx_I → Option (Int32 × zx_I)} : ∀ (d j e : Nat) (J : zx_I), j + d = 6 → d < e → ∃ J', mf_best_86 n x1 x2 L K e (nI j) J = K J' ∧ (∀ b, b ≠ 18 → J' b = J b) ∧ ∀ y, J' 18 y = if j ≤ y ∧ y < j + d then J 17 y else J 18 y := by
  intro d
  induction d with
  | zero =>
    intro j e J hj he
    obtain ⟨e, rfl⟩ : ∃ e9, e = e9 + 1 := ⟨e - 1, by omega⟩
    refine ⟨J, ?_, fun _ _ => rfl, fun y => by rw [if_neg (by omega)]⟩
    show mf_best_86_b _ _ _ _ _ _ _ _ = _
    unfold mf_best_86_b
    rw [if_pos (show (6 : Int32) ≤ nI j from nI_le (a := 6) (by omega) (by omega))]
  | succ d ih =>
    intro j e J hj he
    obtain ⟨e, rfl⟩ : ∃ e9, e = e9 + 1 := ⟨e - 1, by omega⟩
    obtain ⟨J', f1, f2, f3⟩ := ih (j + 1) e (zx_uI J 18 j (J 17 j)) (by omega) (by omega)
    refine ⟨J', ?_, fun b hb => (f2 b hb).trans (zx_uI_ne hb), fun y => ?_⟩
    · refine Eq.trans ?_ f1
      show mf_best_86_b _ _ _ _ _ _ _ _ = _
      unfold mf_best_86_b
      rw [if_neg (show ¬ (6 : Int32) ≤ nI j from nI_ge (b := 6) (by omega) (by decide)), mo_g1 (mo_inN (by omega) (by decide)), mo_g1 (mo_inN (by omega) (by decide)), nI_clamp (by omega), ← nI_succ]
    · rw [f3 y, zx_uI_ne (by decide)]
      by_cases u : y = j
      · rw [if_neg (by omega), if_pos (by omega), u]
        simp [zx_uI]
      · by_cases u2 : j + 1 ≤ y ∧ y < j + 1 + d
        · rw [if_pos u2, if_pos (by omega)]
        · rw [if_neg u2, if_neg (by omega)]
          simp [zx_uI, u]
theorem b22 {n : Nat} {x1 : Int32} {L : zx_L} {K : zx_I → Option (Int32 × zx_I)} : ∀ (d j e : Nat) (J : zx_I), j + d = 6 → d < e → ∃ J', mf_best_22 n x1 L K e (nI j) J = K J' ∧ (∀ b, b ≠ 17 → J' b = J b) ∧ ∀ y, J' 17 y = if j ≤ y ∧ y < j + d then nI y else J 17 y := by
  intro d
  induction d with
  | zero =>
    intro j e J hj he
    obtain ⟨e, rfl⟩ : ∃ e9, e = e9 + 1 := ⟨e - 1, by omega⟩
    refine ⟨J, ?_, fun _ _ => rfl, fun y => by rw [if_neg (by omega)]⟩
    show mf_best_22_b _ _ _ _ _ _ _ = _
    unfold mf_best_22_b
    rw [if_pos (show (6 : Int32) ≤ nI j from nI_le (a := 6) (by omega) (by omega))]
  | succ d ih =>
    intro j e J hj he
    obtain ⟨e, rfl⟩ : ∃ e9, e = e9 + 1 := ⟨e - 1, by omega⟩
    obtain ⟨J', f1, f2, f3⟩ := ih (j + 1) e (zx_uI J 17 j (nI j)) (by omega) (by omega)
    refine ⟨J', ?_, fun b hb => (f2 b hb).trans (zx_uI_ne hb), fun y => ?_⟩
    · refine Eq.trans ?_ f1
      show mf_best_22_b _ _ _ _ _ _ _ = _
      unfold mf_best_22_b
      rw [if_neg (show ¬ (6 : Int32) ≤ nI j from nI_ge (b := 6) (by omega) (by decide)), mo_g1 (mo_inN (by omega) (by decide)), nI_clamp (by omega), ← nI_succ]
    · rw [f3 y]
      by_cases u : y = j
      · rw [if_neg (by omega), if_pos (by omega), u]
        simp [zx_uI]
      · by_cases u2 : j + 1 ≤ y ∧ y < j + 1 + d
        · rw [if_pos u2, if_pos (by omega)]
        · rw [if_neg u2, if_neg (by omega)]
          simp [zx_uI, u]
def mk5 (J J' : zx_I) : Prop := (∀ b, b ≠ 0 → b ≠ 10 → b ≠ 11 → b ≠ 13 → b ≠ 14 → b ≠ 15 → b ≠ 16 → b ≠ 17 → b ≠ 18 → J' b = J b) ∧ ∀ k, k < 24 → J' 0 k = J 0 k
theorem mk5_rf {J : zx_I} : mk5 J J := ⟨fun _ _ _ _ _ _ _ _ _ _ => rfl, fun _ _ => rfl⟩
theorem mk5_tr {J K N : zx_I} (h1 : mk5 J K) (h2 : mk5 K N) : mk5 J N := ⟨fun b z0 z1 z2 z3 z4 z5 z6 z7 z8 => (h2.1 b z0 z1 z2 z3 z4 z5 z6 z7 z8).trans (h1.1 b z0 z1 z2 z3 z4 z5 z6 z7 z8), fun k hk => (h2.2 k hk).trans (h1.2 k hk)⟩
theorem mk5_of {J K : zx_I} (h : mkeep J K) : mk5 J K := ⟨fun b z0 z1 z2 z3 z4 z5 z6 _ _ => h.1 b z0 z1 z2 z3 z4 z5 z6, fun k hk => h.2 k (by omega)⟩
theorem mk5_r {J K : zx_I} (h : ∀ b, b ≠ 17 → b ≠ 18 → K b = J b) : mk5 J K := ⟨fun b _ _ _ _ _ _ _ z7 z8 => h b z7 z8, fun k _ => by rw [h 0 (by decide) (by decide)]⟩
def cB (I I' : zx_I) : Prop := (∀ b, b ≠ 35 → b ≠ 36 → b ≠ 37 → b ≠ 38 → b ≠ 39 → b ≠ 40 → b ≠ 41 → ¬ bt b → I' b = I b) ∧ ∀ b, bt b → ∀ k, k < 10 → I' b k = I b k
theorem cB_rf {I : zx_I} : cB I I := ⟨fun _ _ _ _ _ _ _ _ _ => rfl, fun _ _ _ _ => rfl⟩
theorem cB_tr {I J K : zx_I} (h1 : cB I J) (h2 : cB J K) : cB I K := ⟨fun b a0 a1 a2 a3 a4 a5 a6 a7 => (h2.1 b a0 a1 a2 a3 a4 a5 a6 a7).trans (h1.1 b a0 a1 a2 a3 a4 a5 a6 a7), fun b hb k hk => (h2.2 b hb k hk).trans (h1.2 b hb k hk)⟩
theorem cB_of {I J : zx_I} (h : cfr I J) : cB I J := ⟨fun b _ z1 z2 z3 z4 z5 _ z7 => h.1 b z1 z2 z3 z4 z5 z7, h.2⟩
theorem cB_r {I J : zx_I} (h : ∀ b, b ≠ 35 → b ≠ 41 → J b = I b) : cB I J := ⟨fun b z0 _ _ _ _ _ z6 _ => h b z0 z6, fun b hb k _ => by rw [h b (by unfold bt at hb; omega) (by unfold bt at hb; omega)]⟩
theorem bs_spec {n h : Nat} {x1 may : Int32} {m p c f ct : Nat} {L M : zx_L} {K : Int32 → zx_I → Option (Int32 × zx_I)} (ha : h = 4 ∨ h = 14) (hn : 200 ≤ n) (hct : ct ≤ 6) (hL : L 34 3 = M 0 9) : ∀ (d e S : Nat) (l : List Nat) (Jc Jm : zx_I), iterL ct (d + 1) l = none → d + 1 < e → S ≤ 699 → RR h 0 may m p c f ct Jc Jm → Jm 3 11 = may → rowis Jc l → (∀ k, k < 6 → Jm 18 k = Jc 41 k) → ∃ Jm', ((mf_turns n Jm).bind fun p114 => mf_best_46 n x1 M K e (nI S) p114.1 p114.2) = K (bs_loop h ct L d (nI S) Jc).1 Jm' ∧ (∀ k, k < 6 → Jm' 18 k = (bs_loop h ct L d (nI S) Jc).2 41 k) ∧ mk5 Jm Jm' ∧ cB Jc (bs_loop h ct L d (nI S) Jc).2 := by
  intro d
  induction d with
  | zero =>
    intro e S l Jc Jm hl he hS hR h11 hr h18
    obtain ⟨e, rfl⟩ : ∃ e9, e = e9 + 1 := ⟨e - 1, by omega⟩
    have h16 : Jm 3 16 = nI ct := (hR.1.2.2.1 16 (by omega)).trans hR.1.2.1.1
    rcases next_spec (n := n) hn hct h16 hr hR.1.2.2.2.2.1 hR.1.2.2.2.2.2.1 with ⟨-, -, e3⟩ | ⟨l', I', J', e1, -⟩
    · refine ⟨Jm, ?_, h18, mk5_rf, cB_rf⟩
      rw [e3, Option.bind_some]
      show mf_best_46_b _ _ _ _ _ _ _ _ = _
      unfold mf_best_46_b
      rw [if_pos rfl]
      rfl
    · rw [iterL, e1] at hl
      cases hl
  | succ d ih =>
    intro e S l Jc Jm hl he hS hR h11 hr h18
    obtain ⟨e, rfl⟩ : ∃ e9, e = e9 + 1 := ⟨e - 1, by omega⟩
    have h16 : Jm 3 16 = nI ct := (hR.1.2.2.1 16 (by omega)).trans hR.1.2.1.1
    rcases next_spec (n := n) hn hct h16 hr hR.1.2.2.2.2.1 hR.1.2.2.2.2.2.1 with ⟨-, e2, e3⟩ | ⟨l', I', J', e1, e2, e3, r1, r2, r3, r4, r5⟩
    · have el : bs_loop h ct L (d + 1) (nI S) Jc = (nI S, Jc) := by
        rw [bs_loop, e2, if_pos rfl]
      rw [el]
      refine ⟨Jm, ?_, h18, mk5_rf, cB_rf⟩
      rw [e3, Option.bind_some]
      show mf_best_46_b _ _ _ _ _ _ _ _ = _
      unfold mf_best_46_b
      rw [if_pos rfl]
    · rw [iterL, e1] at hl
      have hR' : RR h 0 may m p c f ct I' J' := RR_35 ha hR (fun b hb _ => r4 b hb) (fun b hb _ => r5 b hb) r2 r3
      obtain ⟨J2, g1, g2, g3, g4, -, lt, dn, l6, d99, -, -, es⟩ := run_RR (n := n) L ha hn hR'
      rw [hL] at g1
      have k3 := mkeep_3 g3
      have e41 : (fr_end I' L h).1 41 = I' 41 := g4.1 41 (by decide) (by decide) (by decide) (by decide) (by decide) (by unfold bt; decide)
      have e35 : (fr_end I' L h).1 35 = I' 35 := g4.1 35 (by decide) (by decide) (by decide) (by decide) (by decide) (by unfold bt; decide)
      have m18 : J2 18 = J' 18 := g3.1 18 (by decide) (by decide) (by decide) (by decide) (by decide) (by decide) (by decide)
      have hr2 : rowis (fr_end I' L h).1 l' := ⟨r1.1, fun k hk => by rw [e35]; exact r1.2 k hk⟩
      have body : ((mf_turns n Jm).bind fun p114 => mf_best_46 n x1 M K (e + 1) (nI S) p114.1 p114.2) = (if nI S ≤ nI (100 * lt + dn) then ((mf_turns n J2).bind fun p114 => mf_best_46 n x1 M K e (nI S) p114.1 p114.2) else (mf_best_86 n x1 (nI (100 * lt + dn)) M (fun J_86 => ((mf_turns n J_86).bind fun p114 => mf_best_46 n x1 M K e (nI (100 * lt + dn)) p114.1 p114.2)) n (0 : Int32) J2)) := by
        rw [e3, Option.bind_some]
        show mf_best_46_b _ _ _ _ _ _ _ _ = _
        unfold mf_best_46_b
        rw [if_neg (show ¬ (1, J').1 = (0 : Int32) from by show ¬ (1 : Int32) = 0; decide)]
        dsimp only
        rw [r5 3 (by decide), h11, g1, Option.bind_some]
        dsimp only
        rw [if_neg (nI_ne4 (show S < 2 ^ 31 by omega)), es]
      rw [body]
      by_cases u : S ≤ 100 * lt + dn
      · have el : bs_loop h ct L (d + 1) (nI S) Jc = bs_loop h ct L d (nI S) (fr_end I' L h).1 := by
          rw [bs_loop, e2]
          dsimp only
          rw [if_neg (by decide), es, if_pos (show nI (100 * lt + dn) ≥ nI S from nI_le u (by omega))]
        rw [el, if_pos (nI_le u (by omega))]
        obtain ⟨Jm', s1, s2, s3, s4⟩ := ih e S l' (fr_end I' L h).1 J2 hl (by omega) hS g2 (by rw [k3, r5 3 (by decide)]; exact h11) hr2 (fun k hk => by rw [m18, r5 18 (by decide), e41, r4 41 (by decide)]; exact h18 k hk)
        exact ⟨Jm', s1, s2, mk5_tr (mk5_r (fun b hb _ => r5 b hb)) (mk5_tr (mk5_of g3) s3), cB_tr (cB_r (fun b hb _ => r4 b hb)) (cB_tr (cB_of g4) s4)⟩
      · have el : bs_loop h ct L (d + 1) (nI S) Jc = bs_loop h ct L d (nI (100 * lt + dn)) (zcp (fr_end I' L h).1 35 41 6) := by
          rw [bs_loop, e2]
          dsimp only
          rw [if_neg (by decide), es, if_neg (show ¬ nI (100 * lt + dn) ≥ nI S from nI_ge (by omega) (by omega))]
        rw [el, if_neg (nI_ge (by omega) (by omega))]
        obtain ⟨J3, c1, c2, c3⟩ := b86 (n := n) (x1 := x1) (x2 := nI (100 * lt + dn)) (L := M) (K := fun J_86 => ((mf_turns n J_86).bind fun p114 => mf_best_46 n x1 M K e (nI (100 * lt + dn)) p114.1 p114.2)) 6 0 n J2 rfl (by omega)
        have hR3 : RR h 0 may m p c f ct (zcp (fr_end I' L h).1 35 41 6) J3 := RR_35 ha g2 (fun b _ hb => zcp_ne hb) (fun b _ hb => c2 b hb) (fun k hk => by rw [c2 17 (by decide), zcp_ne (by decide)]; exact g2.1.2.2.2.2.1 k hk) (by rw [zcp_ne (by decide)]; exact g2.1.2.2.2.2.2.1)
        obtain ⟨Jm', s1, s2, s3, s4⟩ := ih e (100 * lt + dn) l' (zcp (fr_end I' L h).1 35 41 6) J3 hl (by omega) (by omega) hR3 (by rw [c2 3 (by decide), k3, r5 3 (by decide)]; exact h11) ⟨hr2.1, fun k hk => by rw [zcp_ne (by decide)]; exact hr2.2 k hk⟩ (fun k hk => by
          rw [c3 k, if_pos (by omega), zcp_at hk]
          exact g2.1.2.2.2.2.1 k hk)
        refine ⟨Jm', ?_, s2, mk5_tr (mk5_r (fun b hb _ => r5 b hb)) (mk5_tr (mk5_of g3) (mk5_tr (mk5_r (fun b _ hb => c2 b hb)) s3)), cB_tr (cB_r (fun b hb _ => r4 b hb)) (cB_tr (cB_of g4) (cB_tr (cB_r (fun b _ hb => zcp_ne hb)) s4))⟩
        exact c1.trans s1
theorem id_get : ∀ k : Fin 6, ([0, 1, 2, 3, 4, 5] : List Nat).getD k.1 0 = k.1 := by decide
theorem nx3_ne : ∀ (n a b : Nat) (I : zx_I) (x : Nat), x ≠ 35 → nx_3 n a b I x = I x
  | 0, _, _, _, _, _ => rfl
  | n + 1, a, b, I, x, hx => by
    rw [nx_3]
    split
    · rw [nx3_ne n _ _ _ x hx, ch_ne hx]
    · rfl
theorem fn_ne {I : zx_I} {m x : Nat} (hx : x ≠ 35) : (fa_next I m).2 x = I x := by
  unfold fa_next
  split
  · rfl
  · dsimp only
    rw [nx3_ne _ _ _ _ x hx, ch_ne hx]
theorem cr_best {h sp : Nat} {la : Option Nat} {I : zx_I} {L : zx_L} {J : zx_I} {M : zx_L} (k : Int32) (hW : WR h sp I L J M) : CR mm_X9_best mm_X10_best [.int k] h sp la I L J M := by
  have hW0 := hW
  obtain ⟨m, p, c, f, ct, q⟩ := hW
  have ha := hsp_h q.1
  have e13 := q.2.2.1.1
  have hct6 := q.2.2.1.2.1
  have h16 : J 3 16 = nI ct := (q.2.2.2.1 16 (by omega)).trans e13
  have bad : ¬ q_bsok I h k → mf_best 1000 k J M = some (-1, J) → CR mm_X9_best mm_X10_best [.int k] h sp la I L J M := fun b1 b2 => cr_ret (J' := J) (ct_X9_best_no (d := 7) q.1 b1) (mt_best (d := 2) b2) hW0
  have em1 : nI ct - 1 < k ↔ k ≥ nI ct := by
    show _ ↔ nI ct ≤ k
    rw [Int32.lt_iff_toInt_lt, Int32.le_iff_toInt_le, show (1 : Int32) = nI 1 from rfl, pk_sub_toInt (by omega) (by omega), nI_toInt (by omega)]
    omega
  rcases in_cs (x := k) (a := -1) (b := nI ct - 1) with ⟨z, z1⟩ | ⟨z, z1, z2⟩
  · refine bad (fun w => ?_) ?_
    · rcases z1 with z1 | z1
      · exact w.1 z1
      · exact w.2.1 (by rw [e13]; exact em1.mp z1)
    · unfold mf_best mf_many
      rw [h16, if_pos z]
  · have k6 : k < 6 := by
      have := nlt_le.mp z2
      rw [Int32.le_iff_toInt_le, show (1 : Int32) = nI 1 from rfl, pk_sub_toInt (by omega) (by omega)] at this
      rw [Int32.lt_iff_toInt_lt]
      have e6 : (6 : Int32).toInt = 6 := rfl
      omega
    have ok : q_bsok I h k := ⟨z1, fun w => z2 (em1.mpr (by rw [← e13]; exact w)), k6⟩
    obtain ⟨J1, f1, f2, f3, f4, f5, f6⟩ := ask_RR (n := 1000) (rule := 0) (by omega) q
    obtain ⟨J2, g1, g2, g3⟩ := b22 (n := 1000) (x1 := k) (L := M) (K := fun J_22 => (mf_best_46 1000 k M (fun x2_46 J_46 => (if k = (-1 : Int32) then some (x2_46, J_46) else (mo_g (mo_in k 6) (some ((J_46 18 k.toNatClampNeg), J_46))))) 1000 (-4 : Int32) (1 : Int32) J_22)) 6 0 1000 J1 rfl (by omega)
    have b35 : ∀ y, y < 6 → q_bsm I h 35 y = nI y := fun y hy => by
      unfold q_bsm zmap zr
      rw [if_pos rfl, if_pos (by omega)]
    have bne : ∀ b, b ≠ 35 → q_bsm I h b = q_ask I h 0 b := fun b hb => if_neg hb
    have hro : rowok (q_bsm I h 35) ct := ⟨fun y hy => ⟨y, hy, b35 y (by omega)⟩, fun y hy hy6 => ⟨y, hy, hy6, b35 y hy6⟩⟩
    have hR : RR h 0 (J 3 11) m p c f ct (q_bsm I h) J2 := RR_35 ha f2 (fun b hb _ => bne b hb) (fun b hb _ => g2 b hb) (fun y hy => by rw [g3 y, if_pos (by omega), b35 y hy]) hro
    have hct := ct_X9_best (d := 3) (I := I) (L := L) (la := la) (m := ct) q.1 ok (KK_kr (I0 := q_bsm I h) ha) (fun Jx hx => by
      rw [hx.2.1, bne h (by omega), ask_ne (by omega) (by omega) (by omega)]
      exact e13) hct6 (fun Jx hx => KK_ne ha (fun b hb _ => fn_ne hb) hx) (fun Jx hx => KK_ne ha (fun b _ hb => zcp_ne hb) hx) (KK_of hR.1)
    have eL : q_L L 34 3 = M 0 9 := by
      unfold q_L
      have := q.2.2.2.2.2.2.1.2.2.2.1.1
      simp [zx_uL, this]
    obtain ⟨J3, r1, r2, r3, r4, -, lt, dn, l6, d99, -, -, es⟩ := run_RR (n := 1000) (q_L L) ha (by omega) hR
    rw [eL] at r1
    have k3 := mkeep_3 r3
    obtain ⟨J4, c1, c2, c3⟩ := b86 (n := 1000) (x1 := k) (x2 := nI (100 * lt + dn)) (L := M) (K := fun J_86 => ((mf_turns 1000 J_86).bind fun p114 => mf_best_46 1000 k M (fun x2_46 J_46 => (if k = (-1 : Int32) then some (x2_46, J_46) else (mo_g (mo_in k 6) (some ((J_46 18 k.toNatClampNeg), J_46))))) 999 (nI (100 * lt + dn)) p114.1 p114.2)) 6 0 1000 J3 rfl (by omega)
    have e35 : (fr_end (q_bsm I h) (q_L L) h).1 35 = q_bsm I h 35 := r4.1 35 (by decide) (by decide) (by decide) (by decide) (by decide) (by unfold bt; decide)
    have hR4 : RR h 0 (J 3 11) m p c f ct (zcp (fr_end (q_bsm I h) (q_L L) h).1 35 41 6) J4 := RR_35 ha r2 (fun b _ hb => zcp_ne hb) (fun b _ hb => c2 b hb) (fun y hy => by rw [c2 17 (by decide), zcp_ne (by decide)]; exact r2.1.2.2.2.2.1 y hy) (by rw [zcp_ne (by decide)]; exact r2.1.2.2.2.2.2.1)
    have hrow : rowis (zcp (fr_end (q_bsm I h) (q_L L) h).1 35 41 6) [0, 1, 2, 3, 4, 5] := ⟨rfl, fun y hy => by
      rw [zcp_ne (by decide), e35, b35 y hy, id_get ⟨y, hy⟩]
      exact ⟨rfl, hy⟩⟩
    obtain ⟨J5, s1, s2, s3, s4⟩ := bs_spec (n := 1000) (x1 := k) (K := fun x2_46 J_46 => (if k = (-1 : Int32) then some (x2_46, J_46) else (mo_g (mo_in k 6) (some ((J_46 18 k.toNatClampNeg), J_46))))) (L := q_L L) ha (by omega) hct6 eL 719 999 (100 * lt + dn) [0, 1, 2, 3, 4, 5] _ J4 (iter_all ⟨ct, by omega⟩) (by omega) (by omega) hR4 (by rw [c2 3 (by decide), k3, g2 3 (by decide), f4]) hrow (fun y hy => by
      rw [c3 y, if_pos (by omega), zcp_at hy]
      exact r2.1.2.2.2.2.1 y hy)
    have eq : q_bs I L h ct = bs_loop h ct (q_L L) 719 (nI (100 * lt + dn)) (zcp (fr_end (q_bsm I h) (q_L L) h).1 35 41 6) := by
      unfold q_bs
      rw [es]
    rw [← eq] at s1 s2 s4
    have hcB : cB (q_ask I h 0) (q_bs I L h ct).2 := cB_tr (cB_r (fun b hb _ => bne b hb)) (cB_tr (cB_of r4) (cB_tr (cB_r (fun b _ hb => zcp_ne hb)) s4))
    have hmk : mk5 J1 J5 := mk5_tr (mk5_r (fun b hb _ => g2 b hb)) (mk5_tr (mk5_of r3) (mk5_tr (mk5_r (fun b _ hb => c2 b hb)) s3))
    refine cr_any (J' := J5) hct (mt_best (d := 2) (n := 1000) (p := (if k ≠ -1 then (q_bs I L h ct).2 41 k.toNatClampNeg else (q_bs I L h ct).1, J5)) ?_) ⟨m, p, c, f, ct, WRx_cg q (cW_tr (ask_cW (rule := 0) q.1) ⟨fun b _ _ _ _ _ z1 z2 => hcB.1 b (by omega) (by omega) (by omega) (by omega) (by omega) (by omega) (by omega) z2, fun b hb => hcB.2 b hb 0 (by decide), fun i hi y hy => hcB.2 _ (bt_of ha hi) y (by omega)⟩) (fun b hb => qL_34 b hb) (mW_tr f3 ⟨fun b hb => hmk.1 b (by omega) (by omega) (by omega) (by omega) (by omega) (by omega) (by omega) (by omega) (by omega), hmk.2 0 (by decide), hmk.2 8 (by decide), hmk.2 11 (by decide)⟩)⟩
    unfold mf_best mf_many
    rw [h16, if_neg (by rw [z]; decide), f1, Option.bind_some]
    refine g1.trans ?_
    show mf_best_46_b _ _ _ _ _ _ _ _ = _
    unfold mf_best_46_b
    rw [if_neg (by decide), show J2 3 11 = J 3 11 from by rw [g2 3 (by decide), f4], r1, Option.bind_some, if_pos rfl]
    dsimp only
    rw [es]
    refine c1.trans ?_
    refine s1.trans ?_
    by_cases u : k = -1
    · rw [if_pos u, if_neg (fun w => w u)]
    · have k0 : ¬ k < 0 := fun w => by
        rw [Int32.lt_iff_toInt_lt] at w z1
        have e0 : (0 : Int32).toInt = 0 := rfl
        have e1 : (-1 : Int32).toInt = -1 := rfl
        exact u (Int32.toInt_inj.mp (by rw [e1]; omega))
      obtain ⟨y, hy, rfl⟩ := nI_of k0
      have y6 : y < 6 := (nI_ltI hy (by decide)).mp k6
      rw [if_neg u, if_pos u, mo_g1 (mo_inN y6 (by decide)), nI_clamp hy, s2 y y6]
