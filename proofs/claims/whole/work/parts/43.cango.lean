/-! who can go in: the class and the model -/
theorem bx1 : ∀ (W : Fin 64) (i : Fin 6), (nI W.1 &&& nI (2 ^ i.1) = 0) ↔ W.1.testBit i.1 = false := by decide +kernel
theorem bx2 : ∀ (A W : Fin 64), (nI A.1 &&& (nI W.1 ^^^ (-1)) = 0) ↔ ∀ j : Fin 6, A.1.testBit j.1 = true → W.1.testBit j.1 = true := by decide +kernel
theorem bx3 : ∀ (A : Fin 64) (j : Fin 6), ((nI A.1 >>> (nI j.1 &&& 31)) &&& 1 = 1) ↔ A.1.testBit j.1 = true := by decide +kernel
theorem bx4 : ∀ (W : Fin 64) (i j : Fin 6), nI W.1 ||| nI (2 ^ i.1) = nI (W.1 ||| 2 ^ i.1) ∧ (W.1 ||| 2 ^ i.1) < 64 ∧ ((W.1 ||| 2 ^ i.1).testBit j.1 = true ↔ W.1.testBit j.1 = true ∨ j = i) := by decide +kernel
theorem bx5 : ∀ (c : Fin 7) (A : Fin 64) (j : Fin 6), A.1 ≤ 2 ^ c.1 - 1 → A.1.testBit j.1 = true → j.1 < c.1 := by decide +kernel
/-- the house in the model's order -/
def ho (I : zx_I) (a : Nat) : Nat → Int32
  | 0 => I a 1
  | 1 => I a 2
  | 2 => I a 3
  | 3 => I a 4
  | 4 => I a 5
  | 5 => I (a + 1) 1
  | 6 => I (a + 2) 1
  | 7 => I (a + 1) 2
  | 8 => I (a + 2) 2
  | 9 => I (a + 1) 3
  | 10 => I (a + 2) 3
  | 11 => I a 8
  | 12 => I a 11
  | 13 => I a 9
  | 14 => I a 10
  | 15 => I a 12
  | 16 => I a 13
  | k + 17 => I (a + 4 + k / 8) (k % 8 + 1)
theorem ho_b {I : zx_I} {a i w : Nat} (hw : w < 8) : ho I a (17 + 8 * i + w) = I (a + 4 + i) (w + 1) := by
  rw [show 17 + 8 * i + w = (8 * i + w) + 17 by omega]
  show I (a + 4 + (8 * i + w) / 8) ((8 * i + w) % 8 + 1) = _
  rw [show (8 * i + w) / 8 = i by omega, show (8 * i + w) % 8 = w by omega]
theorem ho_cg {I J : zx_I} {a ct : Nat} (h : hsame I J a) (hct : ct ≤ 6) {k : Nat} (hk : k < 17 + 8 * ct) : ho J a k = ho I a k := by
  obtain ⟨h0, h1, h2, h3⟩ := h
  rcases Nat.lt_or_ge k 17 with q | q
  · rcases (show k = 0 ∨ k = 1 ∨ k = 2 ∨ k = 3 ∨ k = 4 ∨ k = 5 ∨ k = 6 ∨ k = 7 ∨ k = 8 ∨ k = 9 ∨ k = 10 ∨ k = 11 ∨ k = 12 ∨ k = 13 ∨ k = 14 ∨ k = 15 ∨ k = 16 by omega) with rfl | rfl | rfl | rfl | rfl | rfl | rfl | rfl | rfl | rfl | rfl | rfl | rfl | rfl | rfl | rfl | rfl <;> simp only [ho, h0, h1, h2]
  · obtain ⟨i, w, hw, e⟩ : ∃ i w, w < 8 ∧ k = 17 + 8 * i + w := ⟨(k - 17) / 8, (k - 17) % 8, Nat.mod_lt _ (by decide), by omega⟩
    rw [e, ho_b hw, ho_b hw, h3 i (by omega) _ (by omega)]
def hrl (I : zx_I) (a : Nat) (J : zx_I) (ct : Nat) : Prop := ∀ k, k < 17 + 8 * ct → J 3 k = ho I a k
theorem hrl_b {I J : zx_I} {a ct i w : Nat} (h : hrl I a J ct) (hi : i < ct) (hw : w < 8) : J 3 (17 + 8 * i + w) = I (a + 4 + i) (w + 1) := by
  rw [h _ (by omega), ho_b hw]
/-- the model's memory but for the bath -/
def eqJ (J' J : zx_I) : Prop := (∀ b, b ≠ 0 → J' b = J b) ∧ ∀ k, k ≠ 31 → k ≠ 32 → k ≠ 33 → J' 0 k = J 0 k
theorem eqJ_rf {J : zx_I} : eqJ J J := ⟨fun _ _ => rfl, fun _ _ _ _ => rfl⟩
theorem eqJ_tr {J K M : zx_I} (h1 : eqJ K J) (h2 : eqJ M K) : eqJ M J := ⟨fun b hb => (h2.1 b hb).trans (h1.1 b hb), fun k a b c => (h2.2 k a b c).trans (h1.2 k a b c)⟩
theorem eqJ_u {J : zx_I} {k : Nat} {v : Int32} (hk : k = 31 ∨ k = 32 ∨ k = 33) : eqJ (zx_uI J 0 k v) J := ⟨fun b hb => zx_uI_ne hb, fun j a b c => by
  simp only [zx_uI, if_pos]
  rw [if_neg (by omega)]⟩
/-- class and model within an evening, all that a bather's going in asks for -/
def eb (a t : Nat) (I : zx_I) (la : Option Nat) (J : zx_I) (last : Int32) (m p c f ct Wn fr : Nat) : Prop :=
  cpx a t I la m p c f ∧ (I a 13 = nI ct ∧ ct ≤ 6 ∧ ∀ i, i < ct → hvb (I (a + 4 + i)) ct) ∧ hrl I a J ct ∧ (∀ j, j < m → J 10 j = I 38 j) ∧ (I a 9 = 0 ∨ I 36 3 = nI t - J 0 27) ∧
  (∀ i, i < 6 → J 13 i = I (a + 4 + i) 10 ∧ J 14 i = I (a + 4 + i) 11 ∧ J 15 i = I (a + 4 + i) 12 ∧ J 16 i = I (a + 4 + i) 13) ∧ (∀ i, i < ct → J 12 i = I (a + 4 + i) 9) ∧
  (I 36 6 = nI Wn ∧ Wn < 64 ∧ ∀ i, i < 6 → (Wn.testBit i = true ↔ ¬ I (a + 4 + i) 10 = -4) ∧ (I (a + 4 + i) 10 = -4 → I (a + 4 + i) 11 = -4) ∧ (¬ I (a + 4 + i) 10 = -4 → i < ct ∧ ∃ d, I (a + 4 + i) 11 = nI d ∧ d ≤ fr)) ∧
  (I 36 5 = nI fr ∧ fr ≤ 79) ∧ ((la = none ∧ last = -4 ∧ fr = 0) ∨ ∃ i, i < ct ∧ la = some (a + 4 + i) ∧ last = nI i ∧ ¬ I (a + 4 + i) 10 = -4 ∧ I (a + 4 + i) 11 = nI fr)
theorem eb_cg {a t : Nat} {I I' : zx_I} {la : Option Nat} {J J' : zx_I} {last : Int32} {m p c f ct Wn fr : Nat} (ha : a = 4 ∨ a = 14) (h : eb a t I la J last m p c f ct Wn fr) (h1 : eq40 I' I) (h2 : eqJ J' J) : eb a t I' la J' last m p c f ct Wn fr := by
  obtain ⟨a1, ⟨b1, b2, b3⟩, a3, a4, a5, a6, a7, ⟨c1, c2, c3⟩, ⟨d1, d2⟩, a10⟩ := h
  have ea := h1 a (by omega)
  have e36 := h1 36 (by decide)
  have e38 := h1 38 (by decide)
  have eb : ∀ i, i < 6 → I' (a + 4 + i) = I (a + 4 + i) := fun i hi => h1 _ (by omega)
  have hs : hsame I I' a := hsame_fx ha (fx_40 h1)
  refine ⟨cpx_40 ha a1 h1, ⟨by rw [ea]; exact b1, b2, fun i hi => by rw [eb i (by omega)]; exact b3 i hi⟩, fun k hk => ?_, fun j hj => ?_, ?_, fun i hi => ?_, fun i hi => ?_, ⟨by rw [e36]; exact c1, c2, fun i hi => by rw [eb i hi]; exact c3 i hi⟩, ⟨by rw [e36]; exact d1, d2⟩, ?_⟩
  · rw [h2.1 3 (by decide), ho_cg hs b2 hk]
    exact a3 k hk
  · rw [h2.1 10 (by decide), e38]
    exact a4 j hj
  · rw [ea, e36, h2.2 27 (by decide) (by decide) (by decide)]
    exact a5
  · rw [h2.1 13 (by decide), h2.1 14 (by decide), h2.1 15 (by decide), h2.1 16 (by decide), eb i hi]
    exact a6 i hi
  · rw [h2.1 12 (by decide), eb i (by omega)]
    exact a7 i hi
  · rcases a10 with q | ⟨i, q1, q2, q3, q4, q5⟩
    · exact Or.inl q
    · exact Or.inr ⟨i, q1, q2, q3, by rw [eb i (by omega)]; exact q4, by rw [eb i (by omega)]; exact q5⟩
theorem eb_N {a t : Nat} {I : zx_I} {la : Option Nat} {J : zx_I} {last : Int32} {m p c f ct Wn fr : Nat} (ht : t ≤ 60) (h : eb a t I la J last m p c f ct Wn fr) : tkN J m p c (un (I 38)) := by
  obtain ⟨a1, ⟨b1, b2, b3⟩, a3, a4, -⟩ := h
  obtain ⟨t1, t2, t3, q1, q2, q3, q4, q5, q6⟩ := cpx_T ht a1
  obtain ⟨e1, e2, e3, -⟩ := a1.1
  refine ⟨?_, ?_, ?_, q1, q2, q3, q4, q5, fun i hi => ?_⟩
  · rw [a3 0 (by omega)]; exact e1
  · rw [a3 1 (by omega)]; exact e2
  · rw [a3 2 (by omega)]; exact e3
  · rw [a4 i hi]
    exact q6 i hi
theorem fc_h_cg {I J : zx_I} {ww : Nat} {g : Int32} (h37 : J 37 = I 37) (h38 : J 38 = I 38) (hw : J ww = I ww) : fc_h J ww g = fc_h I ww g := by
  unfold fc_h fc_nd fc_k
  rw [fc_p_cg h37 h38 hw]
  unfold ft_topc ft_top
  rw [h37, h38, hw]
theorem cg_loop {n : Nat} {J : zx_I} {i t ct A Wn fr : Nat} {last : Int32} {K : Option (Int32 × zx_I)} (h6 : i < 6) (hct : ct ≤ 6) (h16 : J 3 16 = nI ct) (hA : J 3 (17 + 8 * i + 6) = nI A) (hA64 : A < 64) (hft : fr ≤ t) (ht : t ≤ 60) (hW : ∀ j, j < ct → (Wn.testBit j = false ∧ J 14 j = -4) ∨ (Wn.testBit j = true ∧ ∃ d, J 14 j = nI d ∧ d ≤ fr)) : ∀ (d j k : Nat), j + d = ct → d < k → ((∀ q, j ≤ q → q < ct → A.testBit q = true → Wn.testBit q = true) → mf_canGo_26 n (nI i) (nI t) last J K k (nI j) = K) ∧ (∀ q, j ≤ q → q < ct → A.testBit q = true → Wn.testBit q = false → mf_canGo_26 n (nI i) (nI t) last J K k (nI j) = some (0, J)) := by
  intro d
  induction d with
  | zero =>
    intro j k hj hk
    obtain ⟨k, rfl⟩ : ∃ k9, k = k9 + 1 := ⟨k - 1, by omega⟩
    refine ⟨fun _ => ?_, fun q h1 h2 => by omega⟩
    show mf_canGo_26_b _ _ _ _ _ _ _ _ = _
    unfold mf_canGo_26_b mf_many
    rw [h16, if_pos (nI_le (by omega) (by omega))]
  | succ d ih =>
    intro j k hj hk
    obtain ⟨k, rfl⟩ : ∃ k9, k = k9 + 1 := ⟨k - 1, by omega⟩
    obtain ⟨i1, i2⟩ := ih (j + 1) k (by omega) (by omega)
    have body : mf_canGo_26 n (nI i) (nI t) last J K (k + 1) (nI j) = if A.testBit j = true ∧ Wn.testBit j = false then some (0, J) else mf_canGo_26 n (nI i) (nI t) last J K k (nI (j + 1)) := by
      show mf_canGo_26_b _ _ _ _ _ _ _ _ = _
      unfold mf_canGo_26_b mf_many
      rw [h16, if_neg (nI_ge (by omega) (by omega)), show (6 : Int32) = nI 6 from rfl, mf_of_ok h6 (by decide), Option.bind_some, hA, ← nI_succ]
      have h3 := bx3 ⟨A, hA64⟩ ⟨j, by omega⟩
      by_cases c1 : A.testBit j = true
      · rw [if_pos (h3.mpr c1), mo_g1 (mo_inN (by omega) (by decide)), nI_clamp (by omega)]
        rcases hW j (by omega) with ⟨w1, w2⟩ | ⟨w1, d9, w2, w3⟩
        · rw [if_pos w2, if_pos ⟨c1, w1⟩]
        · rw [w2, if_neg (nI_ne4 (by omega)), mo_g1 (mo_inN (by omega) (by decide)), if_pos (nI_le (by omega) (by omega)), if_neg (fun q => by rw [w1] at q; exact absurd q.2 (by decide))]
      · rw [if_neg (fun q => c1 (h3.mp q)), if_neg (fun q => c1 q.1)]
    rw [body]
    constructor
    · intro hall
      rw [if_neg (fun q => by have := hall j (Nat.le_refl _) (by omega) q.1; rw [q.2] at this; exact absurd this (by decide))]
      exact i1 (fun q h1 h2 => hall q (by omega) h2)
    · intro q h1 h2 h3 h4
      by_cases c1 : A.testBit j = true ∧ Wn.testBit j = false
      · rw [if_pos c1]
      · rw [if_neg c1]
        refine i2 q ?_ h2 h3 h4
        rcases Nat.lt_or_ge j q with z | z
        · exact z
        · exact absurd ⟨by rw [show j = q by omega]; exact h3, by rw [show j = q by omega]; exact h4⟩ c1
