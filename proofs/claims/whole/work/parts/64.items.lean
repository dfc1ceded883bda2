/-! the numbers of an item, in their bounds -/
def run9 (l : Nat) (T : Nat → Nat) (B : List Nat → Int32 × Int32) : Nat → List Nat → Nat → Option (List Nat × Nat)
  | 0, _, _ => none
  | 1, acc, i => match nb l T i 59 with
    | some (v, e) => if mf_in (nI v) (B acc).1 (B acc).2 = 0 then none else some (acc ++ [v], e)
    | none => none
  | r + 2, acc, i => match nb l T i 44 with
    | some (v, i') => if mf_in (nI v) (B acc).1 (B acc).2 = 0 then none else run9 l T B (r + 1) (acc ++ [v]) i'
    | none => none
theorem nb_un {l : Nat} {T : Nat → Nat} {i v v' e e' : Nat} (h : nb l T i 44 = some (v, e)) (h2 : nb l T i 59 = some (v', e')) : False := by
  unfold nb at h h2
  cases ht : tk l T 5 i 0 0 with
  | none =>
    rw [ht] at h
    cases h
  | some q =>
    rw [ht] at h h2
    dsimp only at h h2
    by_cases u : q.2 < l ∧ T q.2 = 44
    · rw [if_neg (by omega)] at h2
      cases h2
    · rw [if_neg u] at h
      cases h
theorem ns_len {l : Nat} {T : Nat → Nat} : ∀ (k i : Nat) (vs : List Nat) (e : Nat), ns l T k i = some (vs, e) → 1 ≤ vs.length := by
  intro k
  cases k with
  | zero =>
    intro i vs e h
    cases h
  | succ k =>
    intro i vs e h
    rw [ns] at h
    cases h44 : nb l T i 44 with
    | some q =>
      obtain ⟨v, i'⟩ := q
      rw [h44] at h
      dsimp only at h
      cases hn : ns l T k i' with
      | some q2 =>
        obtain ⟨vs', e'⟩ := q2
        rw [hn] at h
        cases h
        rw [List.length_cons]
        omega
      | none =>
        rw [hn] at h
        cases h
    | none =>
      rw [h44] at h
      dsimp only at h
      cases h59 : nb l T i 59 with
      | some q =>
        rw [h59] at h
        cases h
        exact Nat.le_refl _
      | none =>
        rw [h59] at h
        cases h
theorem run_is {l : Nat} {T : Nat → Nat} {B : List Nat → Int32 × Int32} : ∀ (r k : Nat) (acc : List Nat) (i : Nat), r + 1 ≤ k → (∀ ws e, run9 l T B (r + 1) acc i = some (ws, e) → ∃ vs, ns l T k i = some (vs, e) ∧ vs.length = r + 1 ∧ ws = acc ++ vs ∧ ∀ t, t < r + 1 → mf_in (nI (vs.getD t 0)) (B (acc ++ vs.take t)).1 (B (acc ++ vs.take t)).2 = 1) ∧ (run9 l T B (r + 1) acc i = none → ∀ vs e, ns l T k i = some (vs, e) → vs.length = r + 1 → ∃ t, t < r + 1 ∧ mf_in (nI (vs.getD t 0)) (B (acc ++ vs.take t)).1 (B (acc ++ vs.take t)).2 = 0) := by
  have one : ∀ {x : Int32} {a b : Int32}, ¬ mf_in x a b = 0 → mf_in x a b = 1 := fun {x a b} h => by
    rcases in_cs (x := x) (a := a) (b := b) with ⟨z, -⟩ | ⟨z, -⟩
    · exact absurd z h
    · exact z
  intro r
  induction r with
  | zero =>
    intro k acc i hk
    obtain ⟨k, rfl⟩ : ∃ k9, k = k9 + 1 := ⟨k - 1, by omega⟩
    cases h59 : nb l T i 59 with
    | some q =>
      obtain ⟨v, e⟩ := q
      have h44 : nb l T i 44 = none := by
        cases h44 : nb l T i 44 with
        | none => rfl
        | some q => exact (nb_un h44 h59).elim
      have en : ns l T (k + 1) i = some ([v], e) := by
        rw [ns, h44]
        dsimp only
        rw [h59]
      have er : run9 l T B (0 + 1) acc i = if mf_in (nI v) (B acc).1 (B acc).2 = 0 then none else some (acc ++ [v], e) := by
        rw [run9, h59]
      rw [er, en]
      by_cases u : mf_in (nI v) (B acc).1 (B acc).2 = 0
      · rw [if_pos u]
        refine ⟨fun ws e w => (by cases w), fun _ vs e' w _ => ?_⟩
        cases w
        exact ⟨0, by decide, by rw [List.take_zero, List.append_nil]; exact u⟩
      · rw [if_neg u]
        refine ⟨fun ws e' w => ?_, fun w => by cases w⟩
        cases w
        refine ⟨[v], rfl, rfl, rfl, fun t ht => ?_⟩
        have : t = 0 := by omega
        subst this
        rw [List.take_zero, List.append_nil]
        exact one u
    | none =>
      have er : run9 l T B (0 + 1) acc i = none := by rw [run9, h59]
      rw [er]
      refine ⟨fun ws e w => (by cases w), fun _ vs e w hl => ?_⟩
      rw [ns] at w
      cases h44 : nb l T i 44 with
      | none =>
        rw [h44] at w
        dsimp only at w
        rw [h59] at w
        cases w
      | some q =>
        obtain ⟨v, i'⟩ := q
        rw [h44] at w
        dsimp only at w
        cases hn : ns l T k i' with
        | none =>
          rw [hn] at w
          cases w
        | some q2 =>
          obtain ⟨vs', e'⟩ := q2
          rw [hn] at w
          cases w
          have := ns_len k i' vs' _ hn
          rw [List.length_cons] at hl
          omega
  | succ r ih =>
    intro k acc i hk
    obtain ⟨k, rfl⟩ : ∃ k9, k = k9 + 1 := ⟨k - 1, by omega⟩
    cases h44 : nb l T i 44 with
    | some q =>
      obtain ⟨v, i'⟩ := q
      obtain ⟨i1, i2⟩ := ih k (acc ++ [v]) i' (by omega)
      have er : run9 l T B (r + 1 + 1) acc i = if mf_in (nI v) (B acc).1 (B acc).2 = 0 then none else run9 l T B (r + 1) (acc ++ [v]) i' := by
        rw [run9, h44]
      have en : ns l T (k + 1) i = match ns l T k i' with
          | some (vs, e) => some (v :: vs, e)
          | none => none := by
        rw [ns, h44]
        rfl
      rw [er, en]
      have tk0 : ∀ vs : List Nat, mf_in (nI ((v :: vs).getD 0 0)) (B (acc ++ (v :: vs).take 0)).1 (B (acc ++ (v :: vs).take 0)).2 = mf_in (nI v) (B acc).1 (B acc).2 := fun vs => by
        rw [List.take_zero, List.append_nil]
        rfl
      have tks : ∀ (vs : List Nat) (t : Nat), mf_in (nI ((v :: vs).getD (t + 1) 0)) (B (acc ++ (v :: vs).take (t + 1))).1 (B (acc ++ (v :: vs).take (t + 1))).2 = mf_in (nI (vs.getD t 0)) (B (acc ++ [v] ++ vs.take t)).1 (B (acc ++ [v] ++ vs.take t)).2 := fun vs t => by
        rw [List.getD_cons_succ, List.take_succ_cons, List.append_assoc]
        rfl
      by_cases u : mf_in (nI v) (B acc).1 (B acc).2 = 0
      · rw [if_pos u]
        refine ⟨fun ws e w => (by cases w), fun _ vs e w hl => ?_⟩
        cases hn : ns l T k i' with
        | none =>
          rw [hn] at w
          cases w
        | some q2 =>
          obtain ⟨vs', e'⟩ := q2
          rw [hn] at w
          cases w
          exact ⟨0, by omega, by rw [tk0]; exact u⟩
      · rw [if_neg u]
        refine ⟨fun ws e w => ?_, fun w0 vs e w hl => ?_⟩
        · obtain ⟨vs, a1, a2, a3, a4⟩ := i1 ws e w
          rw [a1]
          refine ⟨v :: vs, rfl, by rw [List.length_cons, a2], by rw [a3, List.append_assoc]; rfl, fun t ht => ?_⟩
          cases t with
          | zero =>
            rw [tk0]
            exact one u
          | succ t =>
            rw [tks]
            exact a4 t (by omega)
        · cases hn : ns l T k i' with
          | none =>
            rw [hn] at w
            cases w
          | some q2 =>
            obtain ⟨vs', e'⟩ := q2
            rw [hn] at w
            cases w
            rw [List.length_cons] at hl
            obtain ⟨t, t1, t2⟩ := i2 w0 vs' _ hn (by omega)
            exact ⟨t + 1, by omega, by rw [tks]; exact t2⟩
    | none =>
      have er : run9 l T B (r + 1 + 1) acc i = none := by rw [run9, h44]
      rw [er]
      refine ⟨fun ws e w => (by cases w), fun _ vs e w hl => ?_⟩
      rw [ns, h44] at w
      dsimp only at w
      cases h59 : nb l T i 59 with
      | none =>
        rw [h59] at w
        cases w
      | some q =>
        rw [h59] at w
        cases w
        rw [List.length_singleton] at hl
        omega
/-! the model's sequences -/
def fr2 (J J' : zx_I) : Prop := (∀ b, b ≠ 0 → b ≠ 2 → J' b = J b) ∧ ∀ y, y ≠ 2 → y ≠ 4 → J' 0 y = J 0 y
theorem fr2_rf {J : zx_I} : fr2 J J := ⟨fun _ _ _ => rfl, fun _ _ _ => rfl⟩
theorem fr2_tr {J K M : zx_I} (h1 : fr2 J K) (h2 : fr2 K M) : fr2 J M := ⟨fun b z0 z2 => (h2.1 b z0 z2).trans (h1.1 b z0 z2), fun y y2 y4 => (h2.2 y y2 y4).trans (h1.2 y y2 y4)⟩
theorem isPut {l n9 i bh at' : Nat} {T : Nat → Nat} {X J0 J : zx_I} {lo hi : Int32} (h : tx l T X J0) (hn : 200 ≤ n9) (hat : at' < 65) (hil : i ≤ l) (hbh : bh < 256) (hf : fr2 J0 J) (h2 : J 0 2 = nI i) : ∃ b J', mf_isPut n9 (nI at') lo hi (nI bh) J = some (b, J') ∧ fr2 J J' ∧ (∀ y, y ≠ at' → J' 2 y = J 2 y) ∧ ((b = 0 ∧ ∀ v e, nb l T i bh = some (v, e) → mf_in (nI v) lo hi = 0) ∨ (b = 1 ∧ ∃ v e, nb l T i bh = some (v, e) ∧ mf_in (nI v) lo hi = 1 ∧ J' 0 2 = nI e ∧ J' 2 at' = nI v)) := by
  obtain ⟨b, J1, r1, r2, r3, r4⟩ := isNum (lo := lo) (hi := hi) h hn hil hbh ((hf.2 0 (by decide) (by decide)).trans h.2.2.1) (hf.1 1 (by decide) (by decide)) h2
  refine ⟨b, zx_uI J1 2 at' (J1 0 4), ?_, ⟨fun x x0 x2 => by rw [zx_uI_ne x2, r2 x x0], fun y y2 y4 => by rw [zx_uI_ne (by decide), r3 y y2 y4]⟩, fun y hy => ?_, ?_⟩
  · unfold mf_isPut
    rw [r1, Option.bind_some, mo_g1 (mo_inN hat (by decide)), nI_clamp (by omega)]
  · rw [show zx_uI J1 2 at' (J1 0 4) 2 y = J1 2 y by simp [zx_uI, hy], r2 2 (by decide)]
  · rcases r4 with q | ⟨q1, v, e, q2, q3, q4, q5⟩
    · exact Or.inl q
    · exact Or.inr ⟨q1, v, e, q2, q3, by rw [zx_uI_ne (by decide)]; exact q4, by rw [← q5]; simp [zx_uI]⟩
def seq9 (n : Nat) : Nat → List ((zx_I → Int32) × Int32) → zx_I → Option (Int32 × zx_I)
  | _, [], J => some (1, J)
  | A, [x], J => (mf_isPut n (nI A) (x.1 J) x.2 59 J).bind fun p => if p.1 = 0 then some (0, p.2) else some (1, p.2)
  | A, x :: y :: r, J => (mf_isPut n (nI A) (x.1 J) x.2 44 J).bind fun p => if p.1 = 0 then some (0, p.2) else seq9 n (A + 1) (y :: r) p.2
def Bok (A0 : Nat) (B : List Nat → Int32 × Int32) : Nat → List ((zx_I → Int32) × Int32) → Prop
  | _, [] => True
  | t, x :: r => (∀ (acc : List Nat) (J : zx_I), acc.length = t → (∀ s, s < t → J 2 (A0 + s) = nI (acc.getD s 0)) → x.1 J = (B acc).1 ∧ x.2 = (B acc).2) ∧ Bok A0 B (t + 1) r
theorem getD_app {acc : List Nat} {v s : Nat} : (acc ++ [v]).getD s 0 = if s < acc.length then acc.getD s 0 else if s = acc.length then v else 0 := by
  rw [List.getD_eq_getElem?_getD, List.getElem?_append]
  by_cases u : s < acc.length
  · rw [if_pos u, if_pos u, List.getD_eq_getElem?_getD]
  · rw [if_neg u, if_neg u]
    by_cases w : s = acc.length
    · rw [if_pos w, w, Nat.sub_self]
      rfl
    · rw [if_neg w]
      obtain ⟨d, hd⟩ : ∃ d, s - acc.length = d + 1 := ⟨s - acc.length - 1, by omega⟩
      rw [hd]
      rfl
theorem seq_spec {l n9 A0 : Nat} {T : Nat → Nat} {X J0 : zx_I} {B : List Nat → Int32 × Int32} (h : tx l T X J0) (hn : 200 ≤ n9) : ∀ (xs : List ((zx_I → Int32) × Int32)) (x : (zx_I → Int32) × Int32) (t i : Nat) (acc : List Nat) (J : zx_I), acc.length = t → (∀ s, s < t → J 2 (A0 + s) = nI (acc.getD s 0)) → Bok A0 B t (x :: xs) → A0 + t + xs.length + 1 ≤ 65 → i ≤ l → fr2 J0 J → J 0 2 = nI i → ∃ b J', seq9 n9 (A0 + t) (x :: xs) J = some (b, J') ∧ fr2 J J' ∧ ((b = 0 ∧ run9 l T B (xs.length + 1) acc i = none) ∨ (b = 1 ∧ ∃ ws e, run9 l T B (xs.length + 1) acc i = some (ws, e) ∧ J' 0 2 = nI e ∧ (∀ s, s < t + xs.length + 1 → J' 2 (A0 + s) = nI (ws.getD s 0)) ∧ ∀ y, (y < A0 + t ∨ A0 + t + xs.length + 1 ≤ y) → J' 2 y = J 2 y)) := by
  intro xs
  induction xs with
  | nil =>
    intro x t i acc J hacc hJ hB h65 hi hf h2
    obtain ⟨b1, b2⟩ := hB.1 acc J hacc hJ
    obtain ⟨b, J', r1, r2, r3, r4⟩ := isPut (lo := x.1 J) (hi := x.2) (bh := 59) (at' := A0 + t) h hn (by rw [List.length_nil] at h65; omega) hi (by decide) hf h2
    have es : seq9 n9 (A0 + t) [x] J = some (if b = 0 then 0 else 1, J') := by
      rw [seq9]
      show (mf_isPut n9 (nI (A0 + t)) (x.1 J) x.2 (nI 59) J).bind _ = _
      rw [r1, Option.bind_some]
      by_cases u : b = 0
      · rw [if_pos u, if_pos u]
      · rw [if_neg u, if_neg u]
    rw [b1, b2] at r4
    rcases r4 with ⟨q1, q2⟩ | ⟨q1, v, e, q2, q3, q4, q5⟩
    · refine ⟨0, J', by rw [es, if_pos q1], r2, Or.inl ⟨rfl, ?_⟩⟩
      show run9 l T B 1 acc i = none
      rw [run9]
      cases h59 : nb l T i 59 with
      | none => rfl
      | some q =>
        obtain ⟨v, e⟩ := q
        dsimp only
        rw [if_pos (q2 v e h59)]
    · refine ⟨1, J', by rw [es, q1, if_neg (by decide)], r2, Or.inr ⟨rfl, acc ++ [v], e, ?_, q4, fun s hs => ?_, fun y hy => r3 y (by rw [List.length_nil] at hy; omega)⟩⟩
      · show run9 l T B 1 acc i = _
        rw [run9, q2]
        dsimp only
        rw [if_neg (by rw [q3]; decide)]
      · rw [List.length_nil] at hs
        rw [getD_app, hacc]
        by_cases u : s < t
        · rw [if_pos u, r3 _ (by omega)]
          exact hJ s u
        · have : s = t := by omega
          rw [if_neg u, if_pos this, this]
          exact q5
  | cons y ys ih =>
    intro x t i acc J hacc hJ hB h65 hi hf h2
    rw [List.length_cons] at h65
    obtain ⟨b1, b2⟩ := hB.1 acc J hacc hJ
    obtain ⟨b, J', r1, r2, r3, r4⟩ := isPut (lo := x.1 J) (hi := x.2) (bh := 44) (at' := A0 + t) h hn (by omega) hi (by decide) hf h2
    have es : seq9 n9 (A0 + t) (x :: y :: ys) J = if b = 0 then some (0, J') else seq9 n9 (A0 + t + 1) (y :: ys) J' := by
      rw [seq9]
      show (mf_isPut n9 (nI (A0 + t)) (x.1 J) x.2 (nI 44) J).bind _ = _
      rw [r1, Option.bind_some]
    rw [b1, b2] at r4
    rcases r4 with ⟨q1, q2⟩ | ⟨q1, v, e, q2, q3, q4, q5⟩
    · refine ⟨0, J', by rw [es, if_pos q1], r2, Or.inl ⟨rfl, ?_⟩⟩
      show run9 l T B (ys.length + 2) acc i = none
      rw [run9]
      cases h44 : nb l T i 44 with
      | none => rfl
      | some q =>
        obtain ⟨v, e⟩ := q
        dsimp only
        rw [if_pos (q2 v e h44)]
    · obtain ⟨n1, n2, -, -⟩ := nb_is hi q2
      obtain ⟨b', J2, s1, s2, s3⟩ := ih y (t + 1) e (acc ++ [v]) J' (by rw [List.length_append, hacc]; rfl) (fun s hs => by
        rw [getD_app, hacc]
        by_cases u : s < t
        · rw [if_pos u, r3 _ (by omega)]
          exact hJ s u
        · have : s = t := by omega
          rw [if_neg u, if_pos this, this]
          exact q5) hB.2 (by omega) n2 (fr2_tr hf r2) q4
      have er : run9 l T B (ys.length + 2) acc i = run9 l T B (ys.length + 1) (acc ++ [v]) e := by
        rw [run9, q2]
        dsimp only
        rw [if_neg (by rw [q3]; decide)]
      refine ⟨b', J2, ?_, fr2_tr r2 s2, ?_⟩
      · rw [es, q1, if_neg (by decide)]
        exact s1
      · show (b' = 0 ∧ run9 l T B (ys.length + 2) acc i = none) ∨ (b' = 1 ∧ ∃ ws e, run9 l T B (ys.length + 2) acc i = some (ws, e) ∧ _)
        rw [er]
        rcases s3 with q | ⟨z1, ws, e', z2, z3, z4, z5⟩
        · exact Or.inl q
        · refine Or.inr ⟨z1, ws, e', z2, z3, fun s hs => z4 s (by rw [List.length_cons] at hs; omega), fun y hy => ?_⟩
          rw [List.length_cons] at hy
          rw [z5 y (by omega), r3 y (by omega)]
