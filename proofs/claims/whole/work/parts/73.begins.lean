/-! the model's constructor; the references of both -/
def kT (n : Nat) : zx_S := zw_SM.take n
def kmi_0 : zx_I := fun _ _ => 0
def kml_0 : zx_L := fun _ _ => 0
def kmr_0 : zx_R := fun _ _ => none
def kmr_1 : zx_R := zx_uR kmr_0 0 1 (some 1)
def kmr_2 : zx_R := zx_uR kmr_1 0 5 (some 2)
def kmr_3 : zx_R := zx_uR kmr_2 0 6 (some 3)
def kmr_4 : zx_R := zx_uR kmr_3 0 7 (some 4)
def kmr_5 : zx_R := zx_uR kmr_4 0 10 (some 5)
def kmr_6 : zx_R := zx_uR kmr_5 0 12 (some 6)
def kmr_7 : zx_R := zx_uR kmr_6 0 13 (some 7)
def kmr_8 : zx_R := zx_uR kmr_7 0 14 (some 8)
def kmr_9 : zx_R := zx_uR kmr_8 0 15 (some 9)
def kmr_10 : zx_R := zx_uR kmr_9 0 16 (some 10)
def kmr_11 : zx_R := zx_uR kmr_10 0 17 (some 11)
def kmr_12 : zx_R := zx_uR kmr_11 0 18 (some 12)
def kmr_13 : zx_R := zx_uR kmr_12 0 19 (some 13)
def kmr_14 : zx_R := zx_uR kmr_13 0 20 (some 14)
def kmr_15 : zx_R := zx_uR kmr_14 0 21 (some 15)
def kmr_16 : zx_R := zx_uR kmr_15 0 22 (some 16)
def kmr_17 : zx_R := zx_uR kmr_16 0 23 (some 17)
def kmr_18 : zx_R := zx_uR kmr_17 0 34 (some 18)
def kmr_19 : zx_R := zx_uR kmr_18 0 35 (some 19)
def ru : List (Nat × Nat × Nat) → zx_R
  | [] => fun _ _ => none
  | e :: l => zx_uR (ru l) e.1 e.2.1 (some e.2.2)
theorem ru_out {A K : Nat} : ∀ (l : List (Nat × Nat × Nat)), (∀ e ∈ l, e.1 < A ∧ e.2.1 < K) → ∀ a k, (A ≤ a ∨ K ≤ k) → ru l a k = none := by
  intro l
  induction l with
  | nil => intro _ a k _; rfl
  | cons e l ih =>
    intro h a k hak
    have he := h e List.mem_cons_self
    show zx_uR (ru l) e.1 e.2.1 (some e.2.2) a k = none
    unfold zx_uR
    by_cases h1 : a = e.1
    · rw [if_pos h1, if_neg (by omega)]
      exact ih (fun x hx => h x (List.mem_cons_of_mem _ hx)) a k hak
    · rw [if_neg h1]
      exact ih (fun x hx => h x (List.mem_cons_of_mem _ hx)) a k hak
theorem ru_eq {A K : Nat} {T : List (List (Option Nat))} {l : List (Nat × Nat × Nat)} (hA : T.length ≤ A) (hK : ∀ r ∈ T, r.length ≤ K) (hl : ∀ e ∈ l, e.1 < A ∧ e.2.1 < K) (h : ∀ a, a < A → ∀ k, k < K → ru l a k = (T.getD a []).getD k none) : ru l = fun a k => (T.getD a []).getD k none := by
  funext a k
  by_cases ha : a < A
  · by_cases hk : k < K
    · exact h a ha k hk
    · rw [ru_out l hl a k (Or.inr (by omega))]
      have hr : (T.getD a []).length ≤ K := by
        rw [List.getD_eq_getElem?_getD]
        cases ht : T[a]? with
        | none => exact Nat.zero_le _
        | some r => exact hK r (List.mem_of_getElem? ht)
      rw [List.getD_eq_getElem?_getD, List.getElem?_eq_none (by omega)]
      rfl
  · have ht : T.getD a [] = [] := by
      rw [List.getD_eq_getElem?_getD, List.getElem?_eq_none (by omega)]
      rfl
    rw [ru_out l hl a k (Or.inl (by omega)), ht]
    rfl
theorem kr_RC : kr_41 = zw_RC 4 14 none := (show kr_41 = ru [(0, 10, 41), (0, 9, 36), (36, 2, 40), (36, 1, 39), (36, 0, 37), (37, 0, 38), (0, 8, 34), (34, 4, 35), (0, 6, 27), (27, 1, 31), (31, 3, 33), (31, 0, 32), (27, 0, 28), (28, 3, 30), (28, 0, 29), (0, 5, 24), (24, 3, 26), (24, 0, 25), (0, 4, 14), (17, 5, 23), (17, 4, 22), (17, 3, 21), (17, 2, 20), (17, 1, 19), (17, 0, 18), (14, 14, 17), (14, 7, 16), (14, 6, 15), (0, 3, 4), (7, 5, 13), (7, 4, 12), (7, 3, 11), (7, 2, 10), (7, 1, 9), (7, 0, 8), (4, 14, 7), (4, 7, 6), (4, 6, 5), (0, 2, 2), (2, 0, 3), (0, 0, 1)] from rfl).trans (ru_eq (A := 42) (K := 16) (T := zw_RT 4 14 none) (by decide +kernel) (by decide +kernel) (by decide +kernel) (by decide +kernel))
theorem kmr_RM : kmr_19 = zw_RM := (show kmr_19 = ru [(0, 35, 19), (0, 34, 18), (0, 23, 17), (0, 22, 16), (0, 21, 15), (0, 20, 14), (0, 19, 13), (0, 18, 12), (0, 17, 11), (0, 16, 10), (0, 15, 9), (0, 14, 8), (0, 13, 7), (0, 12, 6), (0, 10, 5), (0, 7, 4), (0, 6, 3), (0, 5, 2), (0, 1, 1)] from rfl).trans (ru_eq (A := 1) (K := 36) (T := zw_MT) (by decide +kernel) (by decide +kernel) (by decide +kernel) (by decide +kernel))
