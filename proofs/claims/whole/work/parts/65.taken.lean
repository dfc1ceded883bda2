/-! items taken in both -/
def cT (a : Nat) (I K : zx_I) : Prop := (∀ b, b ≠ 2 → b ≠ 3 → b ≠ a → b ≠ a + 1 → b ≠ a + 2 → (b < a + 4 ∨ a + 10 ≤ b) → K b = I b) ∧ ∀ i, i < 6 → K (a + 4 + i) 0 = I (a + 4 + i) 0
def fr3 (J J' : zx_I) : Prop := (∀ b, b ≠ 0 → b ≠ 2 → J' b = J b) ∧ ∀ y, y ≠ 2 → y ≠ 3 → y ≠ 4 → J' 0 y = J 0 y
theorem fr3_rf {J : zx_I} : fr3 J J := ⟨fun _ _ _ => rfl, fun _ _ _ _ => rfl⟩
theorem fr3_tr {J K M : zx_I} (h1 : fr3 J K) (h2 : fr3 K M) : fr3 J M := ⟨fun b z0 z2 => (h2.1 b z0 z2).trans (h1.1 b z0 z2), fun y y2 y3 y4 => (h2.2 y y2 y3 y4).trans (h1.2 y y2 y3 y4)⟩
theorem fr3_of {J K : zx_I} (h : fr2 J K) : fr3 J K := ⟨h.1, fun y y2 _ y4 => h.2 y y2 y4⟩
def PS (a l : Nat) (T : Nat → Nat) (fst : Bool) (I J : zx_I) (m p c f ct pos : Nat) : Prop :=
  tx l T I J ∧ I a 0 = (if fst = true then 0 else 1) ∧ (hvt I a m p c f ∧ hvr I a) ∧ (∀ s, 1 ≤ s → s ≤ 3 → rg (I (a + 1) s) 0 9999) ∧ (I a 13 = nI ct ∧ ct ≤ 6 ∧ ∀ i, i < ct → hvb (I (a + 4 + i)) ct) ∧ (∀ k, k < 17 + 8 * ct → J 2 k = ho I a k) ∧ J 0 2 = nI pos ∧ pos ≤ l
def VI (I I' : zx_I) (p : Nat) (vs : List Nat) : Prop := I' 2 2 = nI vs.length ∧ I' 2 1 = I 1 p ∧ (∀ t, t < vs.length → I' 3 t = nI (vs.getD t 0) ∧ vs.getD t 0 < 10000) ∧ (∀ b, b ≠ 2 → b ≠ 3 → I' b = I b) ∧ 1 ≤ vs.length ∧ vs.length ≤ 6
theorem num_at {I I' : zx_I} {p t : Nat} {vs : List Nat} (h : VI I I' p vs) (ht : t < vs.length) : fi_num I' (nI t) = nI (vs.getD t 0) := by
  obtain ⟨h1, h2, h3, h4, h5, h6⟩ := h
  unfold fi_num
  rw [if_neg (nI_pos (by omega)), h1, if_neg (show ¬ nI t ≥ nI vs.length from nI_ge ht (by omega)), if_pos (show nI t < 6 from nI_lt (b := 6) (by omega) (by decide)), nI_clamp (by omega)]
  exact (h3 t ht).1
theorem fin_at {I I' : zx_I} {p t : Nat} {vs : List Nat} {lo hi : Int32} (h : VI I I' p vs) (ht : t < vs.length) : fi_in I' (nI t) lo hi = mf_in (nI (vs.getD t 0)) lo hi := by
  rw [← num_at h ht]
  rfl
theorem in_rg {v lo hi : Nat} (hv : v < 10000) (hl : lo < 2 ^ 31) (hh : hi < 2 ^ 31) (h : mf_in (nI v) (nI lo) (nI hi) = 1) : lo ≤ v ∧ v ≤ hi := by
  rcases in_cs (x := nI v) (a := nI lo) (b := nI hi) with ⟨z, -⟩ | ⟨-, z1, z2⟩
  · rw [z] at h
    exact absurd h (by decide)
  · exact ⟨Nat.le_of_not_lt (fun w => z1 (nI_lt w hl)), Nat.le_of_not_lt (fun w => z2 (nI_lt w (by omega)))⟩
theorem len1 {vs : List Nat} (h : vs.length = 1) : ∃ a, vs = [a] := by
  match vs, h with
  | [a], _ => exact ⟨a, rfl⟩
theorem len2 {vs : List Nat} (h : vs.length = 2) : ∃ a b, vs = [a, b] := by
  match vs, h with
  | [a, b], _ => exact ⟨a, b, rfl⟩
theorem len3 {vs : List Nat} (h : vs.length = 3) : ∃ a b c, vs = [a, b, c] := by
  match vs, h with
  | [a, b, c], _ => exact ⟨a, b, c, rfl⟩
theorem len5 {vs : List Nat} (h : vs.length = 5) : ∃ a b c d e, vs = [a, b, c, d, e] := by
  match vs, h with
  | [a, b, c, d, e], _ => exact ⟨a, b, c, d, e, rfl⟩
theorem len6 {vs : List Nat} (h : vs.length = 6) : ∃ a b c d e f, vs = [a, b, c, d, e, f] := by
  match vs, h with
  | [a, b, c, d, e, f], _ => exact ⟨a, b, c, d, e, f, rfl⟩
theorem ns_44 {l k i v i' : Nat} {T : Nat → Nat} (h : nb l T i 44 = some (v, i')) : ns l T (k + 1) i = match ns l T k i' with
    | some (vs, e) => some (v :: vs, e)
    | none => none := by
  rw [ns, h]
  rfl
theorem ns_two {l k i : Nat} {T : Nat → Nat} {vs : List Nat} {e : Nat} (h : ns l T (k + 1) i = some (vs, e)) (hl : 2 ≤ vs.length) : ∃ v i' vs', nb l T i 44 = some (v, i') ∧ ns l T k i' = some (vs', e) ∧ vs = v :: vs' := by
  rw [ns] at h
  cases h44 : nb l T i 44 with
  | some q =>
    rw [h44] at h
    dsimp only at h
    cases hn : ns l T k q.2 with
    | some q2 =>
      rw [hn] at h
      cases h
      exact ⟨q.1, q.2, q2.1, rfl, hn, rfl⟩
    | none =>
      rw [hn] at h
      cases h
  | none =>
    rw [h44] at h
    dsimp only at h
    cases h59 : nb l T i 59 with
    | some q =>
      rw [h59] at h
      cases h
      rw [List.length_singleton] at hl
      omega
    | none =>
      rw [h59] at h
      cases h
theorem ns_one {l k i : Nat} {T : Nat → Nat} {v e : Nat} (h : ns l T (k + 1) i = some ([v], e)) : nb l T i 59 = some (v, e) := by
  rw [ns] at h
  cases h44 : nb l T i 44 with
  | some q =>
    rw [h44] at h
    dsimp only at h
    cases hn : ns l T k q.2 with
    | some q2 =>
      rw [hn] at h
      have h1 := ns_len k q.2 q2.1 q2.2 hn
      dsimp only at h
      have h2 : q2.1 = [] := by
        have := congrArg (fun o : Option (List Nat × Nat) => (o.getD ([], 0)).1.length) h
        have h3 : (q.1 :: q2.1).length = ([v] : List Nat).length := this
        rw [List.length_cons, List.length_singleton] at h3
        exact List.length_eq_zero_iff.mp (by omega)
      rw [h2] at h1
      exact absurd h1 (by decide)
    | none =>
      rw [hn] at h
      cases h
  | none =>
    rw [h44] at h
    dsimp only at h
    cases h59 : nb l T i 59 with
    | some q =>
      rw [h59] at h
      cases h
      rfl
    | none =>
      rw [h59] at h
      cases h
/-- an item of one kind, in the model and in the class -/
def IT (a l : Nat) (T : Nat → Nat) (I J : zx_I) (p : Nat) (mres : Option (Int32 × zx_I)) (tk' : zx_I → Option zx_I) : Prop :=
  ∃ b J', mres = some (b, J') ∧ fr3 J J' ∧ J' 0 3 = J 0 3 ∧ ((b = 0 ∧ ∀ vs e I', ns l T 6 (p + 1) = some (vs, e) → VI I I' p vs → tk' I' = none) ∨ (b = 1 ∧ ∃ vs e, ns l T 6 (p + 1) = some (vs, e) ∧ ∀ I', VI I I' p vs → ∃ K, tk' I' = some K ∧ cT a I K ∧ ∃ m p' c f ct, PS a l T false K J' m p' c f ct e))
theorem tx_cg {l : Nat} {T : Nat → Nat} {I J K J' : zx_I} (h : tx l T I J) (k0 : K 0 = I 0) (k1 : K 1 = I 1) (j0 : J' 0 0 = J 0 0) (j1 : J' 1 = J 1) : tx l T K J' := by
  obtain ⟨h1, h2, h3, h4⟩ := h
  exact ⟨h1, by rw [k0]; exact h2, j0.trans h3, fun k hk => by rw [k1, j1]; exact h4 k hk⟩
theorem PS_a {a l : Nat} {T : Nat → Nat} {fst : Bool} {I J K J' : zx_I} {m p c f ct pos m' p' c' f' pos' : Nat} (ha : a = 4 ∨ a = 14) (q : PS a l T fst I J m p c f ct pos) (e : ∀ b, b ≠ 2 → b ≠ 3 → b ≠ a → K b = I b) (h13 : K a 13 = I a 13) (h0 : K a 0 = 1) (ht : hvt K a m' p' c' f') (r5 : rg (K a 5) 0 999) (r8 : rg (K a 8) 0 9) (r9 : rg (K a 9) 0 30) (r10 : rg (K a 10) 1 30) (r11 : rg (K a 11) 0 9) (r12 : rg (K a 12) 1 60) (hJ : ∀ k, k < 17 → J' 2 k = ho K a k) (hJ2 : ∀ k, 17 ≤ k → J' 2 k = J 2 k) (hf : fr3 J J') (hp : J' 0 2 = nI pos') (hpl : pos' ≤ l) : PS a l T false K J' m' p' c' f' ct pos' := by
  obtain ⟨q1, q2, ⟨q3, q4⟩, q5, ⟨q6, q7, q8⟩, q9, q10, q11⟩ := q
  obtain ⟨d1, d2, d3, d4, d5, d6, d7, ⟨ct', d8, d9, d10⟩, d11⟩ := q4
  have e1 := e (a + 1) (by omega) (by omega) (by omega)
  have e2 := e (a + 2) (by omega) (by omega) (by omega)
  have eb : ∀ i, K (a + 4 + i) = I (a + 4 + i) := fun i => e _ (by omega) (by omega) (by omega)
  refine ⟨tx_cg q1 (e 0 (by decide) (by decide) (by omega)) (e 1 (by decide) (by decide) (by omega)) (hf.2 0 (by decide) (by decide) (by decide)) (hf.1 1 (by decide) (by decide)), h0, ⟨ht, r5, by rw [e1, e2]; exact d2, r8, r9, r10, r11, r12, ⟨ct', d8, by rw [h13]; exact d9, fun i hi => by rw [eb]; exact d10 i hi⟩, fun i hi => by rw [eb]; exact d11 i hi⟩, by rw [e1]; exact q5, ⟨by rw [h13]; exact q6, q7, fun i hi => by rw [eb]; exact q8 i hi⟩, fun k hk => ?_, hp, hpl⟩
  by_cases u : k < 17
  · exact hJ k u
  · obtain ⟨i, w, hw, ek⟩ : ∃ i w, w < 8 ∧ k = 17 + 8 * i + w := ⟨(k - 17) / 8, (k - 17) % 8, Nat.mod_lt _ (by decide), by omega⟩
    rw [hJ2 k (by omega), q9 k hk, ek, ho_b hw, ho_b hw, eb]
/-- one number: c, q, n -/
def B1 (lo hi : Int32) : List Nat → Int32 × Int32 := fun _ => (lo, hi)
theorem it_one {a l n9 y mc : Nat} {T : Nat → Nat} {I J : zx_I} {m p c f ct pos p0 lo hi : Nat} (ha : a = 4 ∨ a = 14) (hn : 200 ≤ n9) (q : PS a l T false I J m p c f ct pos) (hp0 : p0 + 1 ≤ l) {J1 : zx_I} (hf1 : fr3 J J1) (hf2 : ∀ z, J1 2 z = J 2 z) (h2 : J1 0 2 = nI (p0 + 1)) (hlo : lo ≤ hi) (hhi : hi ≤ 60) (tk' : zx_I → Option zx_I) (hty : y = 8 ∧ mc = 11 ∧ hi ≤ 9 ∨ y = 11 ∧ mc = 12 ∧ hi ≤ 9 ∨ y = 12 ∧ mc = 15 ∧ 1 ≤ lo) (htk : ∀ I', (¬ fi_one I' (nI lo) (nI hi) = 0 → tk' I' = some (zx_uI I' a y (fi_num I' 0))) ∧ (fi_one I' (nI lo) (nI hi) = 0 → tk' I' = none)) : IT a l T I J1 p0 ((mf_isPut n9 (nI mc) (nI lo) (nI hi) 59 J1).bind fun p => some (p.1, p.2)) tk' := by
  have htx : tx l T I J1 := tx_cg q.1 rfl rfl (hf1.2 0 (by decide) (by decide) (by decide)) (hf1.1 1 (by decide) (by decide))
  obtain ⟨b, J2, r1, r2, r3, r4⟩ := isPut (lo := nI lo) (hi := nI hi) (bh := 59) (at' := mc) htx hn (by omega) hp0 (by decide) fr2_rf h2
  refine ⟨b, J2, ?_, fr3_of r2, r2.2 3 (by decide) (by decide), ?_⟩
  · show (mf_isPut n9 (nI mc) (nI lo) (nI hi) (nI 59) J1).bind _ = _
    rw [r1, Option.bind_some]
  · have one : ∀ (I' : zx_I) (vs : List Nat), VI I I' p0 vs → (¬ fi_one I' (nI lo) (nI hi) = 0 ↔ vs.length = 1 ∧ ¬ mf_in (nI (vs.getD 0 0)) (nI lo) (nI hi) = 0) := fun I' vs hV => by
      unfold fi_one
      rw [hV.1]
      by_cases u : vs.length = 1
      · rw [if_neg (show ¬ nI vs.length ≠ 1 from fun w => w (by rw [u]; rfl)), show fi_in I' 0 (nI lo) (nI hi) = mf_in (nI (vs.getD 0 0)) (nI lo) (nI hi) from fin_at hV (t := 0) (by omega)]
        by_cases w : mf_in (nI (vs.getD 0 0)) (nI lo) (nI hi) = 0
        · rw [if_pos w]
          exact ⟨fun z => absurd rfl z, fun z => absurd w z.2⟩
        · rw [if_neg w]
          exact ⟨fun _ => ⟨u, w⟩, fun _ => by decide⟩
      · rw [if_pos (show nI vs.length ≠ 1 from fun w => u ((nI_eq (b := 1) (by have := hV.2.2.2.2.2; omega) (by decide)).mp w))]
        exact ⟨fun z => absurd rfl z, fun z => absurd z.1 u⟩
    rcases r4 with ⟨s1, s2⟩ | ⟨s1, v, e, s2, s3, s4, s5⟩
    · refine Or.inl ⟨s1, fun vs e I' hns hV => (htk I').2 ?_⟩
      refine Classical.byContradiction (fun w => ?_)
      obtain ⟨w1, w2⟩ := (one I' vs hV).mp w
      obtain ⟨v, rfl⟩ := len1 w1
      exact w2 (s2 v e (ns_one hns))
    · have h44 : nb l T (p0 + 1) 44 = none := by
        cases h44 : nb l T (p0 + 1) 44 with
        | none => rfl
        | some q9 => exact (nb_un h44 s2).elim
      have hns : ns l T 6 (p0 + 1) = some ([v], e) := by
        rw [ns, h44]
        dsimp only
        rw [s2]
      obtain ⟨n1, n2, n3, -⟩ := nb_is hp0 s2
      obtain ⟨g1, g2⟩ := in_rg n3 (by omega) (by omega) s3
      refine Or.inr ⟨s1, [v], e, hns, fun I' hV => ⟨_, (htk I').1 ((one I' [v] hV).mpr ⟨rfl, by rw [show ([v] : List Nat).getD 0 0 = v from rfl, s3]; decide⟩), ?_, m, p, c, f, ct, ?_⟩⟩
      · exact ⟨fun b z2 z3 za _ _ _ => by rw [zx_uI_ne za, hV.2.2.2.1 b z2 z3], fun i hi => by rw [zx_uI_ne (by omega), hV.2.2.2.1 _ (by omega) (by omega)]⟩
      · have ev : fi_num I' 0 = nI v := num_at hV (t := 0) (Nat.le_of_ble_eq_true rfl)
        have ea : ∀ z, zx_uI I' a y (fi_num I' 0) a z = if z = y then nI v else I a z := fun z => by
          rw [ev]
          simp only [zx_uI, if_pos]
          rw [hV.2.2.2.1 a (by omega) (by omega)]
        obtain ⟨q1, q2, ⟨q3, q4⟩, q5, ⟨q6, q7, q8⟩, q9, q10, q11⟩ := id q
        obtain ⟨d1, d2, d3, d4, d5, d6, d7, -⟩ := q4
        have ne : ∀ z, z ≠ y → zx_uI I' a y (fi_num I' 0) a z = I a z := fun z hz => by rw [ea, if_neg hz]
        have jz : ∀ z, z ≠ mc → J2 2 z = J 2 z := fun z hz => by rw [r3 z hz, hf2]
        refine PS_a ha q (fun b z2 z3 za => by rw [zx_uI_ne za, hV.2.2.2.1 b z2 z3]) (ne 13 (by omega)) (by rw [ne 0 (by omega)]; exact q2) ?_ (by rw [ne 5 (by omega)]; exact d1) ?_ (by rw [ne 9 (by omega)]; exact d4) (by rw [ne 10 (by omega)]; exact d5) ?_ ?_ (fun z hz => ?_) (fun z hz => jz z (by omega)) (fr3_tr hf1 (fr3_of r2)) s4 n2
        · unfold hvt
          rw [ne 1 (by omega), ne 2 (by omega), ne 3 (by omega), ne 4 (by omega)]
          exact q3
        · rw [ea]
          by_cases u : 8 = y
          · rw [if_pos u]
            exact ⟨v, rfl, Nat.zero_le _, by omega⟩
          · rw [if_neg u]
            exact d3
        · rw [ea]
          by_cases u : 11 = y
          · rw [if_pos u]
            exact ⟨v, rfl, Nat.zero_le _, by omega⟩
          · rw [if_neg u]
            exact d6
        · rw [ea]
          by_cases u : 12 = y
          · rw [if_pos u]
            exact ⟨v, rfl, by omega, by omega⟩
          · rw [if_neg u]
            exact d7
        · have eh : ∀ z, z < 17 → z ≠ mc → ho (zx_uI I' a y (fi_num I' 0)) a z = ho I a z := fun z hz hmc => by
            have o1 : zx_uI I' a y (fi_num I' 0) (a + 1) = I (a + 1) := by rw [zx_uI_ne (by omega), hV.2.2.2.1 _ (by omega) (by omega)]
            have o2 : zx_uI I' a y (fi_num I' 0) (a + 2) = I (a + 2) := by rw [zx_uI_ne (by omega), hV.2.2.2.1 _ (by omega) (by omega)]
            rcases (show z = 0 ∨ z = 1 ∨ z = 2 ∨ z = 3 ∨ z = 4 ∨ z = 5 ∨ z = 6 ∨ z = 7 ∨ z = 8 ∨ z = 9 ∨ z = 10 ∨ z = 11 ∨ z = 12 ∨ z = 13 ∨ z = 14 ∨ z = 15 ∨ z = 16 by omega) with rfl | rfl | rfl | rfl | rfl | rfl | rfl | rfl | rfl | rfl | rfl | rfl | rfl | rfl | rfl | rfl | rfl <;> simp only [ho, o1, o2] <;> exact ne _ (by omega)
          by_cases u : z = mc
          · rw [u, s5]
            rcases hty with ⟨u1, u2, -⟩ | ⟨u1, u2, -⟩ | ⟨u1, u2, -⟩
            · rw [u2]
              show nI v = zx_uI I' a y (fi_num I' 0) a 8
              rw [ea, if_pos u1.symm]
            · rw [u2]
              show nI v = zx_uI I' a y (fi_num I' 0) a 11
              rw [ea, if_pos u1.symm]
            · rw [u2]
              show nI v = zx_uI I' a y (fi_num I' 0) a 12
              rw [ea, if_pos u1.symm]
          · rw [jz z u, eh z hz u]
            exact q9 z (by omega)
