/-! rows by numbers; best, swapped -/
def nx_1 (r : Nat → Int32) : Nat → Nat
  | 0 => 0
  | k + 1 => if r k ≤ r (k + 1) then k + 1 else nx_1 r k
def nx_2 (r : Nat → Int32) (k : Nat) : Nat → Nat
  | 0 => 0
  | t + 1 => if t + 1 ≤ k + 1 then t + 1 else if r (t + 1) ≥ r k then t + 1 else nx_2 r k t
def nx_3 : Nat → Nat → Nat → zx_I → zx_I
  | 0, _, _, J => J
  | n + 1, a, b, J => if a < b then nx_3 n (a + 1) (b - 1) (fa_ch J (nI a) (nI b)) else J
/-- the next row by numbers: whether there is one, the memory -/
def fa_next (J : zx_I) (m : Nat) : Bool × zx_I := match nx_1 (J 35) (m - 1) with
  | 0 => (false, J)
  | k + 1 => (true, nx_3 6 (k + 1) (m - 1) (fa_ch J (nI k) (nI (nx_2 (J 35) k (m - 1)))))
theorem nx_1_le (r : Nat → Int32) : ∀ k, nx_1 r k ≤ k := by
  intro k
  induction k with
  | zero => exact Nat.le_refl 0
  | succ k ih =>
    rw [nx_1]
    split
    · omega
    · omega
theorem nx_2_le (r : Nat → Int32) (k : Nat) : ∀ t, nx_2 r k t ≤ t := by
  intro t
  induction t with
  | zero => exact Nat.le_refl 0
  | succ t ih =>
    rw [nx_2]
    split
    · omega
    · split <;> omega
def zb (b : Bool) : Int32 := if b then 1 else 0
theorem min6 {m : Nat} (h : m ≤ 6) : (if (6 : Int32) < nI m then (6 : Int32) else nI m) = nI m := if_neg (nI_nlt (a := 6) (b := m) h (by decide))
theorem lp1_X0_next {d : Nat} {L : zx_L} {h sp : Nat} {la : Option Nat} {Q : zx_Qt} {n : Int32} {e : Int32} {J : zx_I} {x4 x5 x6 : Option Value} : ∀ (k : Nat), k ≤ 5 → (zx_V mm_X0_nextRow (d + 1) z0 Q zw_SC 43 [some (.ref 34), some (.int n), some (.int (e)), some (.int (nI (nx_1 (J 35) k) - 1)), x4, x5, x6] [] J L (zw_RC h sp la)) → zx_V mm_X0_nextRow (d + 1) z0 Q zw_SC 16 [some (.ref 34), some (.int n), some (.int (e)), some (.int (nI k - 1)), x4, x5, x6] [] J L (zw_RC h sp la) := by
  intro k
  induction k with
  | zero =>
    intro h6 hk
    refine zv_run 1 (pc' := 17) (lo' := [some (.ref 34), some (.int n), some (.int e), some (.int (nI 0 - 1)), x4, x5, x6]) (st' := [.int (nI 0 - 1)]) (I' := J) (L' := L) (R' := zw_RC h sp la) rfl ?_
    refine zv_if_lt (tgt := 43) (zs_at rfl) (by decide) (fun c17 => ?_) (fun c17 => ?_)
    · have _c := c17
      exact hk
    · exact absurd (by decide) c17
  | succ k ih =>
    intro h6 hk
    rw [nI_pred]
    refine zv_run 1 (pc' := 17) (lo' := [some (.ref 34), some (.int n), some (.int e), some (.int (nI k)), x4, x5, x6]) (st' := [.int (nI k)]) (I' := J) (L' := L) (R' := zw_RC h sp la) rfl ?_
    refine zv_if_lt (tgt := 43) (zs_at rfl) (by decide) (fun c17 => ?_) (fun c17 => ?_)
    · exact absurd c17 (nI_pos (by omega))
    · have _c := c17
      refine zv_run 3 (pc' := 25) (lo' := [some (.ref 34), some (.int n), some (.int e), some (.int (nI k)), x4, x5, x6]) (st' := [.int (nI k), .ref 35]) (I' := J) (L' := L) (R' := zw_RC h sp la) rfl ?_
      refine zv_iald (zs_at rfl) rfl (vp_in_nI (by omega) (by decide)) ?_
      refine zv_run 5 (pc' := 33) (lo' := [some (.ref 34), some (.int n), some (.int e), some (.int (nI k)), x4, x5, x6]) (st' := [.int ((nI k) + 1), .ref 35, .int (J 35 ((nI k).toNatClampNeg))]) (I' := J) (L' := L) (R' := zw_RC h sp la) rfl ?_
      refine zv_iald (zs_at rfl) rfl (by rw [← nI_succ]; exact vp_in_nI (by omega) (by decide)) ?_
      refine zv_icmp_le (tgt := 43) (zs_at rfl) (by decide) (fun c34 => ?_) (fun c34 => ?_)
      · have _c := c34
        have e1 : nx_1 (J 35) (k + 1) = k + 1 := by rw [nx_1, if_pos (by rw [nI_clamp (by omega), ← nI_succ, nI_clamp (by omega)] at c34; exact c34)]
        rw [e1, nI_pred] at hk
        exact hk
      · have _c := c34
        refine zv_run 2 (pc' := 16) (lo' := [some (.ref 34), some (.int n), some (.int e), some (.int ((nI k) + (-1))), x4, x5, x6]) (st' := []) (I' := J) (L' := L) (R' := zw_RC h sp la) rfl ?_
        have e1 : nx_1 (J 35) (k + 1) = nx_1 (J 35) k := by rw [nx_1, if_neg (by rw [nI_clamp (by omega), ← nI_succ, nI_clamp (by omega)] at c34; exact c34)]
        rw [e1] at hk
        rw [show nI k + -1 = nI k - 1 from by rw [Int32.sub_eq_add_neg]]
        exact ih (by omega) hk
theorem nI_le_of {a b : Nat} (h : nI a ≤ nI b) (ha : a < 2 ^ 31) (hb : b < 2 ^ 31) : a ≤ b := by
  rw [Int32.le_iff_toInt_le, nI_toInt ha, nI_toInt hb] at h
  omega
theorem lp2_X0_next {d : Nat} {L : zx_L} {h sp : Nat} {la : Option Nat} {Q : zx_Qt} {n e : Int32} {J : zx_I} {k : Nat} {x5 x6 : Option Value} (hk4 : k ≤ 4) : ∀ (t : Nat), t ≤ 5 → (zx_V mm_X0_nextRow (d + 1) z0 Q zw_SC 82 [some (.ref 34), some (.int n), some (.int (e)), some (.int (nI k)), some (.int (nI (nx_2 (J 35) k t))), x5, x6] [] J L (zw_RC h sp la)) → zx_V mm_X0_nextRow (d + 1) z0 Q zw_SC 52 [some (.ref 34), some (.int n), some (.int (e)), some (.int (nI k)), some (.int (nI t)), x5, x6] [] J L (zw_RC h sp la) := by
  intro t
  induction t with
  | zero =>
    intro h6 hk
    refine zv_run 4 (pc' := 57) (lo' := [some (.ref 34), some (.int n), some (.int e), some (.int (nI k)), some (.int (nI 0)), x5, x6]) (st' := [.int ((nI k) + 1), .int (nI 0)]) (I' := J) (L' := L) (R' := zw_RC h sp la) rfl ?_
    refine zv_icmp_le (tgt := 82) (zs_at rfl) (by decide) (fun c57 => ?_) (fun c57 => ?_)
    · have _c := c57
      exact hk
    · exact absurd (by rw [← nI_succ]; exact nI_le (by omega) (by omega)) c57
  | succ t ih =>
    intro h6 hk
    refine zv_run 4 (pc' := 57) (lo' := [some (.ref 34), some (.int n), some (.int e), some (.int (nI k)), some (.int (nI (t + 1))), x5, x6]) (st' := [.int ((nI k) + 1), .int (nI (t + 1))]) (I' := J) (L' := L) (R' := zw_RC h sp la) rfl ?_
    refine zv_icmp_le (tgt := 82) (zs_at rfl) (by decide) (fun c57 => ?_) (fun c57 => ?_)
    · have _c := c57
      rw [← nI_succ] at c57
      have e1 : nx_2 (J 35) k (t + 1) = t + 1 := by rw [nx_2, if_pos (nI_le_of c57 (by omega) (by omega))]
      rw [e1] at hk
      exact hk
    · have _c := c57
      refine zv_run 3 (pc' := 66) (lo' := [some (.ref 34), some (.int n), some (.int e), some (.int (nI k)), some (.int (nI (t + 1))), x5, x6]) (st' := [.int (nI (t + 1)), .ref 35]) (I' := J) (L' := L) (R' := zw_RC h sp la) rfl ?_
      refine zv_iald (zs_at rfl) rfl (vp_in_nI (by omega) (by decide)) ?_
      refine zv_run 3 (pc' := 72) (lo' := [some (.ref 34), some (.int n), some (.int e), some (.int (nI k)), some (.int (nI (t + 1))), x5, x6]) (st' := [.int (nI k), .ref 35, .int (J 35 ((nI (t + 1)).toNatClampNeg))]) (I' := J) (L' := L) (R' := zw_RC h sp la) rfl ?_
      refine zv_iald (zs_at rfl) rfl (vp_in_nI (by omega) (by decide)) ?_
      refine zv_icmp_ge (tgt := 82) (zs_at rfl) (by decide) (fun c73 => ?_) (fun c73 => ?_)
      · have _c := c73
        rw [nI_clamp (by omega), nI_clamp (by omega)] at c73
        have e1 : nx_2 (J 35) k (t + 1) = t + 1 := by
          rw [nx_2]
          split
          · rfl
          · first | rfl | rw [if_pos c73]
        rw [e1] at hk
        exact hk
      · have _c := c73
        refine zv_run 2 (pc' := 52) (lo' := [some (.ref 34), some (.int n), some (.int e), some (.int (nI k)), some (.int ((nI (t + 1)) + (-1))), x5, x6]) (st' := []) (I' := J) (L' := L) (R' := zw_RC h sp la) rfl ?_
        rw [nI_clamp (by omega), nI_clamp (by omega)] at c73
        rw [← nI_succ] at c57
        have e1 : nx_2 (J 35) k (t + 1) = nx_2 (J 35) k t := by rw [nx_2, if_neg (fun q => c57 (nI_le (by omega) (by omega))), if_neg c73]
        rw [e1] at hk
        rw [show nI (t + 1) + -1 = nI t from by rw [← nI_pred t, Int32.sub_eq_add_neg]]
        exact ih (by omega) hk
theorem lp3_X0_next {d : Nat} {L : zx_L} {h sp : Nat} {la : Option Nat} {n e k x4 : Int32} : ∀ (n9 a b : Nat) (J : zx_I), b ≤ a + n9 → a ≤ 6 → b ≤ 5 → zx_V mm_X0_nextRow (d + 1) z0 (zw_ret (some (.int 1)) zw_SC (nx_3 n9 a b J) L (zw_RC h sp la)) zw_SC 97 [some (.ref 34), some (.int n), some (.int e), some (.int k), some (.int x4), some (.int (nI a)), some (.int (nI b))] [] J L (zw_RC h sp la) := by
  intro n9
  induction n9 with
  | zero =>
    intro a b J h1 h6 h5
    refine zv_run 2 (pc' := 101) (lo' := [some (.ref 34), some (.int n), some (.int e), some (.int k), some (.int x4), some (.int (nI a)), some (.int (nI b))]) (st' := [.int (nI b), .int (nI a)]) (I' := J) (L' := L) (R' := zw_RC h sp la) rfl ?_
    refine zv_icmp_ge (tgt := 121) (zs_at rfl) (by decide) (fun c101 => ?_) (fun c101 => ?_)
    · have _c := c101
      refine zv_run 1 (pc' := 122) (lo' := [some (.ref 34), some (.int n), some (.int e), some (.int k), some (.int x4), some (.int (nI a)), some (.int (nI b))]) (st' := [.int 1]) (I' := J) (L' := L) (R' := zw_RC h sp la) rfl ?_
      exact zv_zret (zs_at rfl) rfl (Or.inr rfl) ⟨Nat.le_refl _, Nat.le_refl _⟩ (zw_to rfl rfl rfl rfl)
    · exact absurd (nI_le (by omega) (by omega)) c101
  | succ n9 ih =>
    intro a b J h1 h6 h5
    refine zv_run 2 (pc' := 101) (lo' := [some (.ref 34), some (.int n), some (.int e), some (.int k), some (.int x4), some (.int (nI a)), some (.int (nI b))]) (st' := [.int (nI b), .int (nI a)]) (I' := J) (L' := L) (R' := zw_RC h sp la) rfl ?_
    refine zv_icmp_ge (tgt := 121) (zs_at rfl) (by decide) (fun c101 => ?_) (fun c101 => ?_)
    · have _c := c101
      refine zv_run 1 (pc' := 122) (lo' := [some (.ref 34), some (.int n), some (.int e), some (.int k), some (.int x4), some (.int (nI a)), some (.int (nI b))]) (st' := [.int 1]) (I' := J) (L' := L) (R' := zw_RC h sp la) rfl ?_
      exact zv_zret (zs_at rfl) rfl (Or.inr rfl) ⟨Nat.le_refl _, Nat.le_refl _⟩ (zw_to rfl (by rw [nx_3, if_neg (fun q => absurd c101 (nI_ge q (by omega)))]) rfl rfl)
    · have _c := c101
      have hab : a < b := (by rcases Nat.lt_or_ge a b with q | q; exact q; exact absurd (nI_le q (by omega)) c101)
      refine zv_run 3 (pc' := 109) (lo' := [some (.ref 34), some (.int n), some (.int e), some (.int k), some (.int x4), some (.int (nI a)), some (.int (nI b))]) (st' := [.int (nI b), .int (nI a), .ref 34]) (I' := J) (L' := L) (R' := zw_RC h sp la) rfl ?_
      refine zv_cV (M' := mm_X0_changePlaces) (ci := 0) (a := 34) (av := [.int (nI a), .int (nI b)]) (st := []) (r := none) (I' := (fa_ch J (nI a) (nI b))) (L' := L) (R' := zw_RC h sp la) rfl zc_0_55 gd_X0_changePlaces rfl rfl rfl (Nat.le_of_ble_eq_true rfl) (ct_X0_changePlaces (d := _)) ⟨Nat.le_refl _, Nat.le_refl _⟩ ?_
      refine zv_run 0 (pc' := 112) (lo' := [some (.ref 34), some (.int n), some (.int e), some (.int k), some (.int x4), some (.int (nI a)), some (.int (nI b))]) (st' := []) (I' := (fa_ch J (nI a) (nI b))) (L' := L) (R' := zw_RC h sp la) rfl ?_
      refine zv_run 3 (pc' := 97) (lo' := [some (.ref 34), some (.int n), some (.int e), some (.int k), some (.int x4), some (.int ((nI a) + 1)), some (.int ((nI b) + (-1)))]) (st' := []) (I' := (fa_ch J (nI a) (nI b))) (L' := L) (R' := zw_RC h sp la) rfl ?_
      have e1 : nx_3 (n9 + 1) a b J = nx_3 n9 (a + 1) (b - 1) (fa_ch J (nI a) (nI b)) := by rw [nx_3, if_pos hab]
      rw [e1, ← nI_succ, show nI b + -1 = nI (b - 1) from by rw [← Int32.sub_eq_add_neg]; obtain ⟨b9, rfl⟩ : ∃ b9, b = b9 + 1 := ⟨b - 1, by omega⟩; exact nI_pred b9]
      exact ih (a + 1) (b - 1) _ (by omega) (by omega) (by omega)
theorem ct_X0_nextRow {d : Nat} {I : zx_I} {L : zx_L} {h sp : Nat} {la : Option Nat} {m : Nat} (hm : m ≤ 6) : zx_M0 mm_X0_nextRow (d + 1) 0 0 [.ref 34, .int (nI m)] zw_SC I L (zw_RC h sp la) (zw_ret (some (.int (zb (fa_next I m).1))) zw_SC (fa_next I m).2 L (zw_RC h sp la)) := by
  refine zv_entry gd_X0_nextRow (Nat.le_of_ble_eq_true rfl) ?_
  refine zv_run 4 (pc' := 6) (lo' := [some (.ref 34), some (.int (nI m)), none, none, none, none, none]) (st' := [.int 6, .int (nI m)]) (I' := I) (L' := L) (R' := zw_RC h sp la) rfl ?_
  refine zv_min rfl zm_0_49 (Nat.le_of_ble_eq_true rfl) ⟨Nat.le_refl _, Nat.le_refl _⟩ ?_
  rw [min6 hm]
  rcases m with _ | m
  · skip
    refine zv_run 8 (pc' := 17) (lo' := [some (.ref 34), some (.int (nI 0)), some (.int ((nI 0) - 1)), some (.int (((nI 0) - 1) - 1)), none, none, none]) (st' := [.int (((nI 0) - 1) - 1)]) (I' := I) (L' := L) (R' := zw_RC h sp la) rfl ?_
    refine zv_if_lt (tgt := 43) (zs_at rfl) (by decide) (fun c17 => ?_) (fun c17 => ?_)
    · have _c := c17
      refine zv_run 1 (pc' := 44) (lo' := [some (.ref 34), some (.int (nI 0)), some (.int ((nI 0) - 1)), some (.int (((nI 0) - 1) - 1)), none, none, none]) (st' := [.int (((nI 0) - 1) - 1)]) (I' := I) (L' := L) (R' := zw_RC h sp la) rfl ?_
      refine zv_if_ge (tgt := 49) (zs_at rfl) (by decide) (fun c44 => ?_) (fun c44 => ?_)
      · exact absurd c44 (by decide)
      · have _c := c44
        refine zv_run 1 (pc' := 48) (lo' := [some (.ref 34), some (.int (nI 0)), some (.int ((nI 0) - 1)), some (.int (((nI 0) - 1) - 1)), none, none, none]) (st' := [.int 0]) (I' := I) (L' := L) (R' := zw_RC h sp la) rfl ?_
        exact zv_zret (zs_at rfl) rfl (Or.inl rfl) ⟨Nat.le_refl _, Nat.le_refl _⟩ (by have e : fa_next I 0 = (false, I) := (by unfold fa_next; rfl); rw [e]; exact zw_to rfl rfl rfl rfl)
    · exact absurd (by decide) c17
  · skip
    refine zv_run 7 (pc' := 16) (lo' := [some (.ref 34), some (.int (nI (m + 1))), some (.int ((nI (m + 1)) - 1)), some (.int (((nI (m + 1)) - 1) - 1)), none, none, none]) (st' := []) (I' := I) (L' := L) (R' := zw_RC h sp la) rfl ?_
    rw [nI_pred]
    refine lp1_X0_next m (by omega) ?_
    have hle := nx_1_le (I 35) m
    rcases e1 : nx_1 (I 35) m with _ | k
    · skip
      refine zv_run 1 (pc' := 44) (lo' := [some (.ref 34), some (.int (nI (m + 1))), some (.int (nI m)), some (.int (nI 0 - 1)), none, none, none]) (st' := [.int (nI 0 - 1)]) (I' := I) (L' := L) (R' := zw_RC h sp la) rfl ?_
      refine zv_if_ge (tgt := 49) (zs_at rfl) (by decide) (fun c44 => ?_) (fun c44 => ?_)
      · exact absurd c44 (by decide)
      · have _c := c44
        refine zv_run 1 (pc' := 48) (lo' := [some (.ref 34), some (.int (nI (m + 1))), some (.int (nI m)), some (.int (nI 0 - 1)), none, none, none]) (st' := [.int 0]) (I' := I) (L' := L) (R' := zw_RC h sp la) rfl ?_
        exact zv_zret (zs_at rfl) rfl (Or.inl rfl) ⟨Nat.le_refl _, Nat.le_refl _⟩ (by have e : fa_next I (m + 1) = (false, I) := (by unfold fa_next; rw [show m + 1 - 1 = m from rfl, e1]); rw [e]; exact zw_to rfl rfl rfl rfl)
    · rw [nI_pred]
      rw [e1] at hle
      refine zv_run 1 (pc' := 44) (lo' := [some (.ref 34), some (.int (nI (m + 1))), some (.int (nI m)), some (.int (nI k)), none, none, none]) (st' := [.int (nI k)]) (I' := I) (L' := L) (R' := zw_RC h sp la) rfl ?_
      refine zv_if_ge (tgt := 49) (zs_at rfl) (by decide) (fun c44 => ?_) (fun c44 => ?_)
      · have _c := c44
        refine zv_run 2 (pc' := 52) (lo' := [some (.ref 34), some (.int (nI (m + 1))), some (.int (nI m)), some (.int (nI k)), some (.int (nI m)), none, none]) (st' := []) (I' := I) (L' := L) (R' := zw_RC h sp la) rfl ?_
        refine lp2_X0_next (by omega) m (by omega) ?_
        refine zv_run 3 (pc' := 86) (lo' := [some (.ref 34), some (.int (nI (m + 1))), some (.int (nI m)), some (.int (nI k)), some (.int (nI (nx_2 (I 35) k m))), none, none]) (st' := [.int (nI (nx_2 (I 35) k m)), .int (nI k), .ref 34]) (I' := I) (L' := L) (R' := zw_RC h sp la) rfl ?_
        refine zv_cV (M' := mm_X0_changePlaces) (ci := 0) (a := 34) (av := [.int (nI k), .int (nI (nx_2 (I 35) k m))]) (st := []) (r := none) (I' := (fa_ch I (nI k) (nI (nx_2 (I 35) k m)))) (L' := L) (R' := zw_RC h sp la) rfl zc_0_55 gd_X0_changePlaces rfl rfl rfl (Nat.le_of_ble_eq_true rfl) (ct_X0_changePlaces (d := _)) ⟨Nat.le_refl _, Nat.le_refl _⟩ ?_
        refine zv_run 0 (pc' := 89) (lo' := [some (.ref 34), some (.int (nI (m + 1))), some (.int (nI m)), some (.int (nI k)), some (.int (nI (nx_2 (I 35) k m))), none, none]) (st' := []) (I' := (fa_ch I (nI k) (nI (nx_2 (I 35) k m)))) (L' := L) (R' := zw_RC h sp la) rfl ?_
        refine zv_run 6 (pc' := 97) (lo' := [some (.ref 34), some (.int (nI (m + 1))), some (.int (nI m)), some (.int (nI k)), some (.int (nI (nx_2 (I 35) k m))), some (.int ((nI k) + 1)), some (.int (nI m))]) (st' := []) (I' := (fa_ch I (nI k) (nI (nx_2 (I 35) k m)))) (L' := L) (R' := zw_RC h sp la) rfl ?_
        have e : fa_next I (m + 1) = (true, nx_3 6 (k + 1) m (fa_ch I (nI k) (nI (nx_2 (I 35) k m)))) := by unfold fa_next; rw [show m + 1 - 1 = m from rfl, e1]
        rw [e, ← nI_succ]
        exact lp3_X0_next 6 (k + 1) m _ (by omega) (by omega) (by omega)
      · exact absurd (nI_pos' (by omega)) c44
