/-! the model's methods: partial functions that mirror the bytecode; helpers -/
def zw_MT : List (List (Option Nat)) := [[none, some 1, none, none, none, some 2, some 3, some 4, none, none, some 5, none, some 6, some 7, some 8, some 9, some 10, some 11, some 12, some 13, some 14, some 15, some 16, some 17, none, none, none, none, none, none, none, none, none, none, some 18, some 19]]
def zw_RM : zx_R := fun a k => (zw_MT.getD a []).getD k none
def mo_in (i : Int32) (n : Nat) : Bool := decide (0 ≤ i.toInt ∧ i.toInt < (n : Int))
def mo_nz (y : Int32) : Bool := decide (¬ y = 0)
theorem mo_in_vp {i : Int32} {n : Nat} (h : mo_in i n = true) : vp_in i n := vp_in_iff.mpr (of_decide_eq_true h)
theorem mo_nz_ne {y : Int32} (h : mo_nz y = true) : ¬ y = 0 := of_decide_eq_true h
def mo_g {α : Type} (b : Bool) (a : Option α) : Option α := match b with
  | true => a
  | false => none
theorem mo_gs {α : Type} {b : Bool} {a : Option α} {r : α} (h : mo_g b a = some r) : b = true ∧ a = some r := by
  cases b with
  | true => exact ⟨rfl, h⟩
  | false => exact absurd (show (none : Option α) = some r from h) (by intro q; cases q)
theorem mo_t {α : Type} {c : Prop} {i : Decidable c} {a b r : α} (h : @ite α c i a b = r) (hc : c) : a = r := by rw [← h, if_pos hc]
theorem mo_f {α : Type} {c : Prop} {i : Decidable c} {a b r : α} (h : @ite α c i a b = r) (hc : ¬ c) : b = r := by rw [← h, if_neg hc]
theorem mo_b {α β : Type} {e : Option α} {f : α → Option β} {r : β} (h : e.bind f = some r) : ∃ p, e = some p ∧ f p = some r := by
  cases e with
  | none => cases h
  | some p => exact ⟨p, rfl, h⟩
/-- ends in just this state, with a truth value -/
def zw_rz (v : Int32) (S : zx_S) (I : zx_I) (L : zx_L) (R : zx_R) : zx_Qt := fun r' S' I' L' R' => zw_ret (some (.int v)) S I L R r' S' I' L' R' ∧ (v = 0 ∨ v = 1)
section
variable {M : zx_M} {d : Nat} {b : zx_B} {Q : zx_Qt} {S : zx_S} {pc : Nat} {lo : List (Option Value)} {st : List Value} {I I' : zx_I} {L L' : zx_L} {R R' : zx_R}
theorem zv_cVz {M' : zx_M} {idx np a ci n N : Nat} {T : u_T} {av : List Value} {v : Int32} (hd : (zs_from M.2.2.2.2.2 pc).head? = some (pc, .invokevirtual idx, 3)) (hl : zcV M.2.2.2.2.1 idx M'.1 np) (hg' : zx_good M') (hs : S[a]? = some (ci, n)) (hcn : vwCl[ci]? = some (M'.1.cls, T, N)) (hnp : av.length = np)
    (hw : (st.map fun v => v.category).sum ≤ 8) (hc : zx_M0 M' d 0 0 (.ref a :: av) S I L R (zw_rz v S I' L' R')) (hb : b.1 ≤ b.2.2.1 ∧ b.2.1 ≤ b.2.2.2) (kk : v = 0 ∨ v = 1 → zx_V M (d + 1) b Q S (pc + 3) lo (.int v :: st) I' L' R') : zx_V M (d + 1) b Q S pc lo (av.reverse ++ .ref a :: st) I L R :=
  zv_callV (zs_at hd) hl hg' hs hcn hnp hc hb hw (fun r1 S1 I1 L1 R1 hq => by obtain ⟨⟨rfl, rfl, rfl, rfl, rfl⟩, hz⟩ := hq; exact kk hz)
theorem zv_cSz {M' : zx_M} {idx np : Nat} {av : List Value} {v : Int32} (hd : (zs_from M.2.2.2.2.2 pc).head? = some (pc, .invokestatic idx, 3)) (hl : zcS M.2.2.2.2.1 idx M'.1 np) (hg' : zx_good M') (hnp : av.length = np)
    (hw : (st.map fun v => v.category).sum ≤ 8) (hc : zx_M0 M' d 0 0 av S I L R (zw_rz v S I' L' R')) (hb : b.1 ≤ b.2.2.1 ∧ b.2.1 ≤ b.2.2.2) (kk : v = 0 ∨ v = 1 → zx_V M (d + 1) b Q S (pc + 3) lo (.int v :: st) I' L' R') : zx_V M (d + 1) b Q S pc lo (av.reverse ++ st) I L R :=
  zv_callS (zs_at hd) hl hg' hnp hc hb hw (fun r1 S1 I1 L1 R1 hq => by obtain ⟨⟨rfl, rfl, rfl, rfl, rfl⟩, hz⟩ := hq; exact kk hz)
def zx_fg : List (Option Value) → List (Option Value) → Prop
  | [], b => b = []
  | a :: as, b => match b with
    | [] => False
    | o :: bs => (match a with
      | none => True
      | some v => o = some v) ∧ zx_fg as bs
theorem zx_fg_len : ∀ {a b : List (Option Value)}, zx_fg a b → a.length = b.length
  | [], b, h => by rw [show b = [] from h]
  | a :: as, [], h => h.elim
  | a :: as, o :: bs, h => by rw [List.length_cons, List.length_cons, zx_fg_len h.2]
theorem zx_fg_get : ∀ {a b : List (Option Value)}, zx_fg a b → ∀ (i : Nat) (v : Value), a[i]? = some (some v) → b[i]? = some (some v)
  | [], b, h, i, v, hv => by simp at hv
  | a :: as, [], h, i, v, hv => h.elim
  | a :: as, o :: bs, h, 0, v, hv => by
    simp only [List.getElem?_cons_zero, Option.some.injEq] at hv
    subst hv
    rw [List.getElem?_cons_zero]
    exact congrArg some h.1
  | a :: as, o :: bs, h, i + 1, v, hv => by
    rw [List.getElem?_cons_succ] at hv ⊢
    exact zx_fg_get h.2 i v hv
/-- what is known of locals may be forgotten -/
theorem zv_fg {lo' : List (Option Value)} (h : zx_fg lo' lo) (k : zx_V M d b Q S pc lo' st I L R) : zx_V M d b Q S pc lo st I L R := by
  intro p l e s m args below meth c D cA A ad0 ad n0 H locs ls hg hC hX hS hA hl hol hos hn0 had
  exact k p l e s m args below meth c D cA A ad0 ad n0 H locs ls hg hC hX hS hA ⟨hl.1, hl.2.1, (zx_fg_len h).trans hl.2.2.1, fun i v q => hl.2.2.2 i v (zx_fg_get h i v q)⟩ (fun i v q => hol i v (zx_fg_get h i v q)) hos hn0 had
end
