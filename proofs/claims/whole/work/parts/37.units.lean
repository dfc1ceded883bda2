/-! the tank in numbers: what lies between two pints, what is drawn -/
theorem mo_ite {α β : Type} {c : Prop} [i : Decidable c] {x y : α} {f : α → Option β} : (@ite (Option α) c i (some x) (some y)).bind f = f (if c then x else y) := by
  split <;> rfl
theorem mo_g1 {α : Type} {b : Bool} {a : Option α} (h : b = true) : mo_g b a = a := by rw [h]; rfl
theorem mo_inN {n N : Nat} (h : n < N) (hN : N < 2 ^ 31) : mo_in (nI n) N = true := by
  unfold mo_in
  rw [nI_toInt (by omega)]
  exact decide_eq_true ⟨by omega, by omega⟩
theorem mo_nzN {n : Nat} (h0 : 0 < n) (h : n < 2 ^ 31) : mo_nz (nI n) = true := decide_eq_true (nI_ne0 h0 h)
theorem nI_subeq {a b p : Nat} (ha : a < 2 ^ 30) (hb : b < 2 ^ 30) (hp : p < 2 ^ 30) : nI b - nI a = nI p ↔ b = a + p := by
  constructor
  · intro h
    have h1 : nI b = nI (p + a) := by rw [← nI_add, ← h, Int32.sub_add_cancel]
    have := (nI_eq (by omega) (by omega)).mp h1
    omega
  · intro h
    rw [h, pk_sub (by omega)]
    congr 1
    omega
def gsum (g : Nat → Nat) : Nat → Nat → Nat
  | _, 0 => 0
  | i, d + 1 => g i + gsum g (i + 1) d
theorem gsum_add {f g : Nat → Nat} : ∀ (d i : Nat), gsum (fun j => f j + g j) i d = gsum f i d + gsum g i d
  | 0, _ => rfl
  | d + 1, i => by
    rw [gsum, gsum, gsum, gsum_add d (i + 1)]
    omega
theorem gsum_congr {f g : Nat → Nat} : ∀ (d i : Nat), (∀ j, i ≤ j → j < i + d → f j = g j) → gsum f i d = gsum g i d
  | 0, _, _ => rfl
  | d + 1, i, h => by
    rw [gsum, gsum, h i (Nat.le_refl _) (by omega), gsum_congr d (i + 1) (fun j h1 h2 => h j (by omega) (by omega))]
theorem gsum_pt {W x : Nat} : ∀ (d i : Nat), gsum (fun j => if j = W then x else 0) i d = if i ≤ W ∧ W < i + d then x else 0
  | 0, i => by
    rw [if_neg (by omega)]
    rfl
  | d + 1, i => by
    rw [gsum, gsum_pt d (i + 1)]
    by_cases h : i = W
    · rw [if_pos h, if_neg (by omega), if_pos (by omega), Nat.add_zero]
    · rw [if_neg h, Nat.zero_add]
      by_cases h2 : i + 1 ≤ W ∧ W < i + 1 + d
      · rw [if_pos h2, if_pos (by omega)]
      · rw [if_neg h2, if_neg (by omega)]
/-- what of layer i lies between two pints -/
def gl (u : Nat → Nat) (p f t i : Nat) : Nat := if min t (p * i + p) = max f (p * i) + p then u i else if min t (p * i + p) ≤ max f (p * i) then 0 else u i * (min t (p * i + p) - max f (p * i)) / p
theorem nI_max {a b : Nat} (ha : a < 2 ^ 31) (hb : b < 2 ^ 31) : (if nI a ≤ nI b then nI b else nI a) = nI (max a b) := by
  by_cases h : a ≤ b
  · rw [if_pos (nI_le h hb), Nat.max_eq_right h]
  · rw [if_neg (nI_ge (by omega) ha), Nat.max_eq_left (by omega)]
theorem nI_minr {a b : Nat} (ha : a < 2 ^ 31) (hb : b < 2 ^ 31) : (if nI a ≤ nI b then nI a else nI b) = nI (min b a) := by
  by_cases h : a ≤ b
  · rw [if_pos (nI_le h hb), Nat.min_eq_right h]
  · rw [if_neg (nI_ge (by omega) ha), Nat.min_eq_left (by omega)]
theorem un_loop {n : Nat} {J : zx_I} {f t p m : Nat} {u : Nat → Nat} {K : Int32 → Option Int32} (hp1 : 1 ≤ p) (hp : p ≤ 60) (hm : m ≤ 6) (hf : f ≤ 2000) (ht : t ≤ 2000) (h0 : J 3 0 = nI m) (hu : ∀ i, i < m → J 10 i = nI (u i) ∧ u i ≤ 700000) : ∀ (d i s k : Nat), i + d = m → d < k → mf_unitsOf_49 n (nI f) (nI t) (nI p) J K k (nI s) (nI i) = K (nI (s + gsum (gl u p f t) i d)) := by
  intro d
  induction d with
  | zero =>
    intro i s k hi hk
    obtain ⟨k, rfl⟩ : ∃ k9, k = k9 + 1 := ⟨k - 1, by omega⟩
    show mf_unitsOf_49_b _ _ _ _ _ _ _ _ _ = _
    unfold mf_unitsOf_49_b
    rw [h0, if_pos (nI_le (by omega) (by omega))]
    rfl
  | succ d ih =>
    intro i s k hi hk
    obtain ⟨k, rfl⟩ : ∃ k9, k = k9 + 1 := ⟨k - 1, by omega⟩
    show mf_unitsOf_49_b _ _ _ _ _ _ _ _ _ = _
    unfold mf_unitsOf_49_b
    have hpi : p * i ≤ 60 * 6 := Nat.mul_le_mul hp (by omega)
    obtain ⟨hu1, hu2⟩ := hu i (by omega)
    rw [h0, if_neg (nI_ge (by omega) (by omega))]
    simp only [mo_ite, pk_mul, nI_add]
    rw [nI_max (by omega) (by omega), nI_minr (by omega) (by omega)]
    have e1 : nI (i + 1) = nI i + 1 := nI_succ i
    rw [← e1, gsum]
    have hin : mo_in (nI i) 6 = true := mo_inN (by omega) (by decide)
    have hcl : (nI i).toNatClampNeg = i := nI_clamp (by omega)
    unfold gl
    generalize ha : max f (p * i) = a
    generalize hb : min t (p * i + p) = b
    have ha2 : a < 3000 := by omega
    have hb2 : b < 3000 := by omega
    by_cases h1 : b = a + p
    · rw [if_pos ((nI_subeq (by omega) (by omega) (by omega)).mpr h1), mo_g1 hin, hcl, hu1, nI_add, ih (i + 1) _ k (by omega) (by omega), if_pos h1, Nat.add_assoc]
      rfl
    · rw [if_neg (fun q => h1 ((nI_subeq (by omega) (by omega) (by omega)).mp q)), if_neg h1]
      by_cases h2 : b ≤ a
      · rw [if_pos (nI_le h2 (by omega)), if_pos h2, show nI s + 0 = nI (s + 0) from nI_add s 0, ih (i + 1) _ k (by omega) (by omega)]
        rw [Nat.add_zero, Nat.zero_add]
        rfl
      · rw [if_neg (nI_ge (by omega) (by omega)), if_neg h2, mo_g1 hin, mo_g1 (mo_nzN hp1 (by omega)), hcl, hu1, pk_sub (by omega), pk_mul]
        have hb3 : u i * (b - a) < 2 ^ 31 := Nat.lt_of_le_of_lt (Nat.mul_le_mul hu2 (show b - a ≤ 60 by omega)) (by decide)
        rw [pk_div hb3 hp1 (by omega), nI_add, ih (i + 1) _ k (by omega) (by omega), Nat.add_assoc]
        rfl
/-- sums of layers from the top; of h pints -/
def tsum (u : Nat → Nat) (k : Nat) : Nat := gsum u 0 k
theorem gsum_end {u : Nat → Nat} : ∀ (d i : Nat), gsum u i (d + 1) = gsum u i d + u (i + d)
  | 0, i => by simp [gsum]
  | d + 1, i => by
    rw [gsum, gsum_end d (i + 1), gsum, show i + 1 + d = i + (d + 1) by omega, Nat.add_assoc]
theorem tsum_s {u : Nat → Nat} {k : Nat} : tsum u (k + 1) = tsum u k + u k := by
  unfold tsum
  rw [gsum_end, Nat.zero_add]
def ttop (u : Nat → Nat) (p h : Nat) : Nat := tsum u (h / p) + u (h / p) * (h % p) / p
theorem gsum_zero : ∀ (d i : Nat), gsum (fun _ => 0) i d = 0
  | 0, _ => rfl
  | d + 1, i => by rw [gsum, gsum_zero d (i + 1)]
theorem gsum_split {u : Nat → Nat} : ∀ (k i d : Nat), gsum u i (k + d) = gsum u i k + gsum u (i + k) d
  | 0, i, d => by rw [Nat.zero_add, gsum, Nat.zero_add, Nat.add_zero]
  | k + 1, i, d => by
    rw [show k + 1 + d = (k + d) + 1 by omega, gsum, gsum_split k (i + 1) d, gsum, show i + 1 + k = i + (k + 1) by omega]
    omega
theorem gl_top {u : Nat → Nat} {p h m : Nat} (hp : 1 ≤ p) (hh : h ≤ m * p) : gsum (gl u p 0 h) 0 m = ttop u p h := by
  have hk : h / p ≤ m := Nat.div_le_of_le_mul (by rw [Nat.mul_comm]; exact hh)
  have hdm : p * (h / p) + h % p = h := Nat.div_add_mod h p
  have hr : h % p < p := Nat.mod_lt _ hp
  generalize h / p = k at hk hdm
  generalize h % p = r at hdm hr
  have e : ∀ j, 0 ≤ j → j < 0 + m → gl u p 0 h j = (fun j => (if j < k then u j else 0) + (if j = k then u k * r / p else 0)) j := by
    intro j _ hj
    show gl u p 0 h j = (if j < k then u j else 0) + (if j = k then u k * r / p else 0)
    unfold gl
    rw [Nat.zero_max]
    rcases Nat.lt_trichotomy j k with q | q | q
    · have h1 : p * j + p ≤ p * k := by rw [← Nat.mul_succ]; exact Nat.mul_le_mul_left p q
      rw [if_pos (by omega), if_pos q, if_neg (by omega), Nat.add_zero]
    · subst q
      rw [if_neg (by omega), if_neg (Nat.lt_irrefl j), if_pos rfl, Nat.zero_add]
      by_cases hr0 : r = 0
      · subst hr0
        rw [if_pos (by omega), Nat.mul_zero, Nat.zero_div]
      · rw [if_neg (by omega), show min h (p * j + p) - p * j = r by omega]
    · have h1 : p * k + p ≤ p * j := by rw [← Nat.mul_succ]; exact Nat.mul_le_mul_left p q
      rw [if_neg (by omega), if_pos (by omega), if_neg (by omega), if_neg (by omega)]
  rw [gsum_congr m 0 e, gsum_add, gsum_pt]
  obtain ⟨d, rfl⟩ : ∃ d, m = k + d := ⟨m - k, by omega⟩
  rw [gsum_split, Nat.zero_add, gsum_congr k 0 (g := u) (fun j h1 h2 => if_pos (by omega)), gsum_congr d k (g := fun _ => 0) (fun j h1 h2 => if_neg (by omega)), gsum_zero, Nat.add_zero]
  unfold ttop
  rw [show h / p = k from by rw [← hdm]; rw [Nat.mul_add_div hp]; rw [Nat.div_eq_of_lt hr]; omega, show h % p = r from by rw [← hdm, Nat.mul_add_mod]; exact Nat.mod_eq_of_lt hr]
  by_cases hd : d = 0
  · subst hd
    have hr0 : r = 0 := by
      rw [Nat.add_zero, Nat.mul_comm] at hh
      omega
    subst hr0
    rw [Nat.mul_zero, Nat.zero_div]
    simp [tsum]
  · rw [if_pos (by omega)]
    rfl
/-- what lies in a part of a layer, or of the cold water below -/
def dpart (u : Nat → Nat) (c p m l q : Nat) : Nat := if l < m then u l * q / p else c * q
def dlay (u : Nat → Nat) (c p m w r : Nat) : Nat := dpart u c p m w (p - r) + dpart u c p m (w + 1) r
theorem gl_lay {u : Nat → Nat} {c p m w r : Nat} (hp : 1 ≤ p) (hr : r < p) : (if p * w + r + p ≤ m * p then 0 else (p * w + r + p - max (p * w + r) (m * p)) * c) + gsum (gl u p (p * w + r) (p * w + r + p)) 0 m = dlay u c p m w r := by
  have e : ∀ j, 0 ≤ j → j < 0 + m → gl u p (p * w + r) (p * w + r + p) j = (fun j => (if j = w then u w * (p - r) / p else 0) + (if j = w + 1 then u (w + 1) * r / p else 0)) j := by
    intro j _ hj
    show gl u p (p * w + r) (p * w + r + p) j = (if j = w then u w * (p - r) / p else 0) + (if j = w + 1 then u (w + 1) * r / p else 0)
    unfold gl
    rcases Nat.lt_trichotomy j w with q | q | q
    · have h1 : p * j + p ≤ p * w := by rw [← Nat.mul_succ]; exact Nat.mul_le_mul_left p q
      rw [if_neg (by omega), if_pos (by omega), if_neg (by omega), if_neg (by omega)]
    · subst q
      rw [if_pos (rfl : j = j), if_neg (show ¬ j = j + 1 by omega), Nat.add_zero]
      by_cases hr0 : r = 0
      · subst hr0
        rw [if_pos (show min (p * j + 0 + p) (p * j + p) = max (p * j + 0) (p * j) + p by omega), Nat.sub_zero, Nat.mul_div_cancel _ hp]
      · rw [if_neg (show ¬ min (p * j + r + p) (p * j + p) = max (p * j + r) (p * j) + p by omega), if_neg (show ¬ min (p * j + r + p) (p * j + p) ≤ max (p * j + r) (p * j) by omega), show min (p * j + r + p) (p * j + p) - max (p * j + r) (p * j) = p - r by omega]
    · rcases Nat.lt_or_ge (w + 1) j with q2 | q2
      · have h1 : p * (w + 1) + p ≤ p * j := by rw [← Nat.mul_succ]; exact Nat.mul_le_mul_left p q2
        rw [Nat.mul_succ] at h1
        rw [if_neg (by omega), if_pos (by omega), if_neg (by omega), if_neg (by omega)]
      · have : j = w + 1 := by omega
        subst this
        rw [Nat.mul_succ, if_neg (by omega), if_neg (show ¬ w + 1 = w by omega), if_pos rfl, Nat.zero_add]
        by_cases hr0 : r = 0
        · subst hr0
          rw [if_pos (by omega), Nat.mul_zero, Nat.zero_div]
        · rw [if_neg (by omega), show min (p * w + r + p) (p * w + p + p) - max (p * w + r) (p * w + p) = r by omega]
  rw [gsum_congr m 0 e, gsum_add, gsum_pt, gsum_pt]
  unfold dlay dpart
  rw [Nat.mul_comm m p]
  rcases Nat.lt_trichotomy (w + 1) m with q | q | q
  · have h1 : p * (w + 1) + p ≤ p * m := by rw [← Nat.mul_succ]; exact Nat.mul_le_mul_left p q
    rw [Nat.mul_succ] at h1
    rw [if_pos (show p * w + r + p ≤ p * m by omega), if_pos (show 0 ≤ w ∧ w < 0 + m by omega), if_pos (show 0 ≤ w + 1 ∧ w + 1 < 0 + m by omega), if_pos (show w < m by omega), if_pos q, Nat.zero_add]
  · subst q
    rw [Nat.mul_succ, if_pos (show 0 ≤ w ∧ w < 0 + (w + 1) by omega), if_neg (show ¬ (0 ≤ w + 1 ∧ w + 1 < 0 + (w + 1)) by omega), if_pos (show w < w + 1 by omega), if_neg (show ¬ w + 1 < w + 1 by omega), Nat.add_zero]
    by_cases hr0 : r = 0
    · subst hr0
      rw [if_pos (show p * w + 0 + p ≤ p * w + p by omega), Nat.mul_zero, Nat.zero_add, Nat.add_zero]
    · rw [if_neg (show ¬ p * w + r + p ≤ p * w + p by omega), show p * w + r + p - max (p * w + r) (p * w + p) = r by omega, Nat.mul_comm r c, Nat.add_comm]
  · have h1 : p * m ≤ p * w := Nat.mul_le_mul_left p (by omega)
    rw [if_neg (show ¬ p * w + r + p ≤ p * m by omega), if_neg (show ¬ (0 ≤ w ∧ w < 0 + m) by omega), if_neg (show ¬ (0 ≤ w + 1 ∧ w + 1 < 0 + m) by omega), if_neg (show ¬ w < m by omega), if_neg (show ¬ w + 1 < m by omega), show p * w + r + p - max (p * w + r) (p * m) = p by omega, Nat.add_zero, ← Nat.mul_add, show p - r + r = p by omega, Nat.mul_comm]
/-- the model's tank in numbers -/
def tkN (J : zx_I) (m p c : Nat) (u : Nat → Nat) : Prop := J 3 0 = nI m ∧ J 3 1 = nI p ∧ J 3 2 = nI c ∧ 1 ≤ m ∧ m ≤ 6 ∧ 1 ≤ p ∧ p ≤ 60 ∧ c ≤ 40 ∧ ∀ i, i < m → J 10 i = nI (u i) ∧ u i ≤ 700000 ∧ c * p ≤ u i
theorem gsum_le {g : Nat → Nat} {B : Nat} : ∀ (d i : Nat), (∀ j, i ≤ j → j < i + d → g j ≤ B) → gsum g i d ≤ d * B
  | 0, _, _ => Nat.zero_le _
  | d + 1, i, h => by
    have h1 := gsum_le d (i + 1) (fun j h1 h2 => h j (by omega) (by omega))
    have h2 := h i (Nat.le_refl _) (by omega)
    rw [gsum, Nat.succ_mul]
    omega
theorem un_all {n : Nat} {J : zx_I} {f t m p c : Nat} {u : Nat → Nat} (hn : 7 ≤ n) (hT : tkN J m p c u) (hf : f ≤ t) (ht : t ≤ 2000) : mf_unitsOf n (nI f) (nI t) J = some (nI ((if t ≤ m * p then 0 else (t - max f (m * p)) * c) + gsum (gl u p f t) 0 m)) := by
  obtain ⟨h0, h1, h2, hm1, hm, hp1, hp, hc, hu⟩ := hT
  have hmp : m * p ≤ 6 * 60 := Nat.mul_le_mul hm hp
  unfold mf_unitsOf
  have eh : mf_holds J = nI (m * p) := by unfold mf_holds; rw [h0, h1, pk_mul]
  rw [eh, h1, h2]
  simp only [mo_ite]
  have ev : (if nI f ≤ nI (m * p) then nI (m * p) else nI f) = nI (max f (m * p)) := nI_max (by omega) (by omega)
  rw [ev]
  have hb : ((if t ≤ m * p then 0 else (t - max f (m * p)) * c)) ≤ 2000 * 40 := by
    split
    · omega
    · exact Nat.mul_le_mul (by omega) hc
  have e1 : (if nI t ≤ nI (m * p) then (0 : Int32) else (nI t - nI (max f (m * p))) * nI c) = nI (if t ≤ m * p then 0 else (t - max f (m * p)) * c) := by
    by_cases h : t ≤ m * p
    · rw [if_pos (nI_le h (by omega)), if_pos h]
      rfl
    · rw [if_neg (nI_ge (by omega) (by omega)), if_neg h, pk_sub (by omega), pk_mul]
  rw [e1]
  exact un_loop hp1 hp hm (by omega) ht h0 (fun i hi => ⟨(hu i hi).1, (hu i hi).2.1⟩) m 0 _ n (Nat.zero_add m) (by omega)
theorem un_top {n : Nat} {J : zx_I} {h m p c : Nat} {u : Nat → Nat} (hn : 7 ≤ n) (hT : tkN J m p c u) (hh : h ≤ m * p) : mf_unitsOf n 0 (nI h) J = some (nI (ttop u p h)) := by
  have hp1 := hT.2.2.2.2.2.1
  have hmp : m * p ≤ 6 * 60 := Nat.mul_le_mul hT.2.2.2.2.1 hT.2.2.2.2.2.2.1
  have := un_all (f := 0) (t := h) hn hT (Nat.zero_le h) (by omega)
  rw [nI_0] at this
  rw [this, if_pos hh, Nat.zero_add, gl_top hp1 hh]
theorem un_lay {n : Nat} {J : zx_I} {w r m p c : Nat} {u : Nat → Nat} (hn : 7 ≤ n) (hT : tkN J m p c u) (hr : r < p) (hw : w ≤ 12) : mf_unitsOf n (nI (p * w + r)) (nI (p * w + r + p)) J = some (nI (dlay u c p m w r)) := by
  have hp1 := hT.2.2.2.2.2.1
  have hp := hT.2.2.2.2.2.2.1
  have hmp : p * w ≤ 60 * 12 := Nat.mul_le_mul hp hw
  rw [un_all hn hT (by omega) (by omega), gl_lay hp1 hr]
theorem ttop_le {u : Nat → Nat} {p h m : Nat} (hp : 1 ≤ p) (hh : h ≤ m * p) (hm : m ≤ 6) (hu : ∀ i, i < m → u i ≤ 700000) : ttop u p h ≤ 6 * 700000 := by
  have hmp := gl_top (u := u) hp hh
  rw [← hmp]
  refine Nat.le_trans (gsum_le (B := 700000) m 0 (fun j _ h2 => ?_)) (Nat.mul_le_mul_right _ hm)
  have h3 := hu j (by omega)
  unfold gl
  split
  · exact h3
  · split
    · omega
    · rename_i q1 q2
      refine Nat.le_trans (Nat.div_le_div_right (c := p) (Nat.mul_le_mul h3 (show min h (p * j + p) - max 0 (p * j) ≤ p by omega))) ?_
      rw [Nat.mul_div_cancel _ hp]
      omega
