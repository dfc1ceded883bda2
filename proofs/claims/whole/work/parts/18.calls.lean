/-! the class's own methods -/
/-- the run is without harm: some property of the states says so -/
def rn_ok (I : zx_I) (L : zx_L) (a : Nat) : Prop := ∃ (N : Nat) (P : Nat → zx_I → Option Nat → Prop), (I a 12).toInt.toNat = N ∧ N ≤ 60 ∧ (∀ k J la, P k J la → ok_in J la a) ∧ (∀ k J la, P k J la → tk_ok (fe_mid (fe_up J L (nI k)) la a (nI k))) ∧ (∀ k J la, k < N → P k J la → P (k + 1) (fe_step L J la a (nI k)) (fe_next L J la a (nI k))) ∧ (∀ k J la, P k J la → J a 12 = nI N) ∧ hs_tk I a ∧ P 0 (fe_begin I a (I 34 2)) none
def fr_end (I : zx_I) (L : zx_L) (a : Nat) : zx_I × Option Nat := fe_loop L a (I a 12).toInt.toNat 0 (fe_begin I a (I 34 2)) none
def fr_score (I : zx_I) (L : zx_L) (a : Nat) : Int32 := fh_score (fr_end I L a).1 a
theorem ct_X3_run {d : Nat} {I : zx_I} {L : zx_L} {h sp : Nat} {la : Option Nat} {a : Nat} (ha : a = 4 ∨ a = 14) (hr : rn_ok I L a) : zx_M0 mm_X3_run (d + 4) 0 0 [.ref 36, .ref a, .ref 34] zw_SC I L (zw_RC h sp la) (zw_ret (some (.int (fr_score I L a))) zw_SC (fr_end I L a).1 L (zw_RC h sp (fr_end I L a).2)) := by
  obtain ⟨N, P, hNe, hN, hP, hT, hS, hst, hH, h0⟩ := hr
  unfold fr_score fr_end
  rw [hNe]
  rcases ha with rfl | rfl
  · exact ct_X3_run_4 hN P hP hT hS hst hH h0
  · exact ct_X3_run_14 hN P hP hT hS hst hH h0
def hsp (h sp : Nat) : Prop := h = 4 ∧ sp = 14 ∨ h = 14 ∧ sp = 4
def q_ask (I : zx_I) (h : Nat) (rule : Int32) : zx_I := fh_told (fa_become I rule (I h 8)) h
def q_L (L : zx_L) : zx_L := zx_uL L 34 3 (L 24 2)
def q_rule (rule : Int32) : Int32 := if rule < 0 then 0 else if rule > 3 then 0 else 1
theorem ct_X9_isRule {d : Nat} {I : zx_I} {L : zx_L} {h sp : Nat} {la : Option Nat} {rule : Int32} : zx_M0 mm_X9_isRule (d + 0) 0 0 [.int rule] zw_SC I L (zw_RC h sp la) (zw_ret (some (.int (q_rule rule))) zw_SC I L (zw_RC h sp la)) := by
  refine zv_entry gd_X9_isRule (Nat.le_of_ble_eq_true rfl) ?_
  refine zv_run 1 (pc' := 1) (lo' := [some (.int rule)]) (st' := [.int rule]) (I' := I) (L' := L) (R' := zw_RC h sp la) rfl ?_
  refine zv_if_lt (tgt := 13) (zs_at rfl) (by decide) (fun c1 => ?_) (fun c1 => ?_)
  · have _c := c1
    refine zv_run 1 (pc' := 14) (lo' := [some (.int rule)]) (st' := [.int 0]) (I' := I) (L' := L) (R' := zw_RC h sp la) rfl ?_
    exact zv_zret (zs_at rfl) rfl (Or.inl rfl) ⟨Nat.le_refl _, Nat.le_refl _⟩ (zw_to (by simp [q_rule, *]) rfl rfl rfl)
  · have _c := c1
    refine zv_run 2 (pc' := 6) (lo' := [some (.int rule)]) (st' := [.int 3, .int rule]) (I' := I) (L' := L) (R' := zw_RC h sp la) rfl ?_
    refine zv_icmp_gt (tgt := 13) (zs_at rfl) (by decide) (fun c6 => ?_) (fun c6 => ?_)
    · have _c := c6
      refine zv_run 1 (pc' := 14) (lo' := [some (.int rule)]) (st' := [.int 0]) (I' := I) (L' := L) (R' := zw_RC h sp la) rfl ?_
      exact zv_zret (zs_at rfl) rfl (Or.inl rfl) ⟨Nat.le_refl _, Nat.le_refl _⟩ (zw_to (by simp [q_rule, *]) rfl rfl rfl)
    · have _c := c6
      refine zv_run 2 (pc' := 14) (lo' := [some (.int rule)]) (st' := [.int 1]) (I' := I) (L' := L) (R' := zw_RC h sp la) rfl ?_
      exact zv_zret (zs_at rfl) rfl (Or.inr rfl) ⟨Nat.le_refl _, Nat.le_refl _⟩ (zw_to (by simp [q_rule, *]) rfl rfl rfl)
theorem ct_X9_wipe {d : Nat} {I : zx_I} {L : zx_L} {h sp : Nat} {la : Option Nat}   : zx_M0 mm_X9_wipe (d + 0) 0 0 [.ref 0] zw_SC I L (zw_RC h sp la) (zw_ret (some (.int (I 0 1))) zw_SC (zx_uI I 0 1 0) L (zw_RC h sp la)) := by
  refine zv_entry gd_X9_wipe (Nat.le_of_ble_eq_true rfl) ?_
  refine zv_run 7 (pc' := 11) (lo' := [some (.ref 0), some (.int (I 0 1))]) (st' := [.int (I 0 1)]) (I' := (zx_uI I 0 1 0)) (L' := L) (R' := zw_RC h sp la) rfl ?_
  exact zv_iret (zs_at rfl) rfl ⟨Nat.le_refl _, Nat.le_refl _⟩ (zw_to rfl rfl rfl rfl)
def q_hotm (I : zx_I) (x : Int32) : zx_I := if x < 0 then I else if x ≤ 99 then zx_uI I 24 1 x else I
def q_hot (I : zx_I) (x : Int32) : Int32 := if x < 0 then -1 else if x ≤ 99 then I 24 1 else -1
def q_ten (I : zx_I) (d v : Int32) : Int32 := if d < 0 then -1 else if d ≥ 6 then -1 else if v < 0 then -1 else if v ≤ 10 then I 26 d.toNatClampNeg else -1
def q_tenm (I : zx_I) (d v : Int32) : zx_I := if d < 0 then I else if d ≥ 6 then I else if v < 0 then I else if v ≤ 10 then zx_uI I 26 d.toNatClampNeg v else I
def q_bit (t : Int32) : Int64 := (1 : Int64) <<< (t.toInt64 &&& 63)
def q_plan (L : zx_L) (t : Int32) : Int32 := if t < 0 then -1 else if t < 60 then (if lg_cmp (L 24 2 &&& q_bit t) 0 = 0 then 0 else 1) else -1
def q_planm (L : zx_L) (t is : Int32) : zx_L := if t < 0 then L else if t < 60 then (if is = 0 then zx_uL L 24 2 (L 24 2 &&& (q_bit t ^^^ (-1))) else zx_uL L 24 2 (L 24 2 ||| q_bit t)) else L
theorem ct_X9_hot {d : Nat} {I : zx_I} {L : zx_L} {h sp : Nat} {la : Option Nat} {x : Int32}  : zx_M0 mm_X9_hot (d + 0) 0 0 [.ref 0, .int x] zw_SC I L (zw_RC h sp la) (zw_ret (some (.int (q_hot I x))) zw_SC (q_hotm I x) L (zw_RC h sp la)) := by
  refine zv_entry gd_X9_hot (Nat.le_of_ble_eq_true rfl) ?_
  refine zv_run 1 (pc' := 1) (lo' := [some (.ref 0), some (.int x), none]) (st' := [.int x]) (I' := I) (L' := L) (R' := zw_RC h sp la) rfl ?_
  refine zv_if_lt (tgt := 10) (zs_at rfl) (by decide) (fun c1 => ?_) (fun c1 => ?_)
  · have _c := c1
    refine zv_run 1 (pc' := 11) (lo' := [some (.ref 0), some (.int x), none]) (st' := [.int (-1)]) (I' := I) (L' := L) (R' := zw_RC h sp la) rfl ?_
    exact zv_iret (zs_at rfl) rfl ⟨Nat.le_refl _, Nat.le_refl _⟩ (zw_to (by simp [q_hot, *]) (by simp [q_hotm, *]) rfl rfl)
  · have _c := c1
    refine zv_run 2 (pc' := 7) (lo' := [some (.ref 0), some (.int x), none]) (st' := [.int 99, .int x]) (I' := I) (L' := L) (R' := zw_RC h sp la) rfl ?_
    refine zv_icmp_le (tgt := 12) (zs_at rfl) (by decide) (fun c7 => ?_) (fun c7 => ?_)
    · have _c := c7
      refine zv_run 9 (pc' := 29) (lo' := [some (.ref 0), some (.int x), some (.int (I 24 1))]) (st' := [.int (I 24 1)]) (I' := (zx_uI I 24 1 x)) (L' := L) (R' := zw_RC h sp la) rfl ?_
      exact zv_iret (zs_at rfl) rfl ⟨Nat.le_refl _, Nat.le_refl _⟩ (zw_to (by simp [q_hot, *]) (by simp [q_hotm, *]) rfl rfl)
    · have _c := c7
      refine zv_run 1 (pc' := 11) (lo' := [some (.ref 0), some (.int x), none]) (st' := [.int (-1)]) (I' := I) (L' := L) (R' := zw_RC h sp la) rfl ?_
      exact zv_iret (zs_at rfl) rfl ⟨Nat.le_refl _, Nat.le_refl _⟩ (zw_to (by simp [q_hot, *]) (by simp [q_hotm, *]) rfl rfl)
theorem ct_X9_tenths {d : Nat} {I : zx_I} {L : zx_L} {h sp : Nat} {la : Option Nat} {d0 v : Int32}  : zx_M0 mm_X9_tenths (d + 0) 0 0 [.ref 0, .int d0, .int v] zw_SC I L (zw_RC h sp la) (zw_ret (some (.int (q_ten I d0 v))) zw_SC (q_tenm I d0 v) L (zw_RC h sp la)) := by
  refine zv_entry gd_X9_tenths (Nat.le_of_ble_eq_true rfl) ?_
  refine zv_run 1 (pc' := 1) (lo' := [some (.ref 0), some (.int d0), some (.int v), none]) (st' := [.int d0]) (I' := I) (L' := L) (R' := zw_RC h sp la) rfl ?_
  refine zv_if_lt (tgt := 26) (zs_at rfl) (by decide) (fun c1 => ?_) (fun c1 => ?_)
  · have _c := c1
    refine zv_run 1 (pc' := 27) (lo' := [some (.ref 0), some (.int d0), some (.int v), none]) (st' := [.int (-1)]) (I' := I) (L' := L) (R' := zw_RC h sp la) rfl ?_
    exact zv_iret (zs_at rfl) rfl ⟨Nat.le_refl _, Nat.le_refl _⟩ (zw_to (by simp [q_ten, Int32.not_le, *]) (by simp [q_tenm, Int32.not_le, *]) rfl rfl)
  · have _c := c1
    refine zv_run 5 (pc' := 13) (lo' := [some (.ref 0), some (.int d0), some (.int v), none]) (st' := [.int 6, .int d0]) (I' := I) (L' := L) (R' := zw_RC h sp la) rfl ?_
    refine zv_icmp_ge (tgt := 26) (zs_at rfl) (by decide) (fun c13 => ?_) (fun c13 => ?_)
    · have _c := c13
      refine zv_run 1 (pc' := 27) (lo' := [some (.ref 0), some (.int d0), some (.int v), none]) (st' := [.int (-1)]) (I' := I) (L' := L) (R' := zw_RC h sp la) rfl ?_
      exact zv_iret (zs_at rfl) rfl ⟨Nat.le_refl _, Nat.le_refl _⟩ (zw_to (by simp [q_ten, Int32.not_le, *]) (by simp [q_tenm, Int32.not_le, *]) rfl rfl)
    · have _c := c13
      refine zv_run 1 (pc' := 17) (lo' := [some (.ref 0), some (.int d0), some (.int v), none]) (st' := [.int v]) (I' := I) (L' := L) (R' := zw_RC h sp la) rfl ?_
      refine zv_if_lt (tgt := 26) (zs_at rfl) (by decide) (fun c17 => ?_) (fun c17 => ?_)
      · have _c := c17
        refine zv_run 1 (pc' := 27) (lo' := [some (.ref 0), some (.int d0), some (.int v), none]) (st' := [.int (-1)]) (I' := I) (L' := L) (R' := zw_RC h sp la) rfl ?_
        exact zv_iret (zs_at rfl) rfl ⟨Nat.le_refl _, Nat.le_refl _⟩ (zw_to (by simp [q_ten, Int32.not_le, *]) (by simp [q_tenm, Int32.not_le, *]) rfl rfl)
      · have _c := c17
        refine zv_run 2 (pc' := 23) (lo' := [some (.ref 0), some (.int d0), some (.int v), none]) (st' := [.int 10, .int v]) (I' := I) (L' := L) (R' := zw_RC h sp la) rfl ?_
        refine zv_icmp_le (tgt := 28) (zs_at rfl) (by decide) (fun c23 => ?_) (fun c23 => ?_)
        · have _c := c23
          refine zv_run 4 (pc' := 36) (lo' := [some (.ref 0), some (.int d0), some (.int v), none]) (st' := [.int d0, .ref 26]) (I' := I) (L' := L) (R' := zw_RC h sp la) rfl ?_
          refine zv_iald (zs_at rfl) rfl (zin c1 (zge c13) (by decide)) ?_
          refine zv_run 6 (pc' := 47) (lo' := [some (.ref 0), some (.int d0), some (.int v), some (.int (I 26 d0.toNatClampNeg))]) (st' := [.int v, .int d0, .ref 26]) (I' := I) (L' := L) (R' := zw_RC h sp la) rfl ?_
          refine zv_iast (zs_at rfl) rfl (zin c1 (zge c13) (by decide)) ?_
          refine zv_run 1 (pc' := 49) (lo' := [some (.ref 0), some (.int d0), some (.int v), some (.int (I 26 d0.toNatClampNeg))]) (st' := [.int (I 26 d0.toNatClampNeg)]) (I' := (zx_uI I 26 d0.toNatClampNeg v)) (L' := L) (R' := zw_RC h sp la) rfl ?_
          exact zv_iret (zs_at rfl) rfl ⟨Nat.le_refl _, Nat.le_refl _⟩ (zw_to (by simp [q_ten, Int32.not_le, *]) (by simp [q_tenm, Int32.not_le, *]) rfl rfl)
        · have _c := c23
          refine zv_run 1 (pc' := 27) (lo' := [some (.ref 0), some (.int d0), some (.int v), none]) (st' := [.int (-1)]) (I' := I) (L' := L) (R' := zw_RC h sp la) rfl ?_
          exact zv_iret (zs_at rfl) rfl ⟨Nat.le_refl _, Nat.le_refl _⟩ (zw_to (by simp [q_ten, Int32.not_le, *]) (by simp [q_tenm, Int32.not_le, *]) rfl rfl)
theorem ct_X9_plan {d : Nat} {I : zx_I} {L : zx_L} {h sp : Nat} {la : Option Nat} {t is : Int32}  : zx_M0 mm_X9_plan (d + 0) 0 0 [.ref 0, .int t, .int is] zw_SC I L (zw_RC h sp la) (zw_ret (some (.int (q_plan L t))) zw_SC I (q_planm L t is) (zw_RC h sp la)) := by
  refine zv_entry gd_X9_plan (Nat.le_of_ble_eq_true rfl) ?_
  refine zv_run 1 (pc' := 1) (lo' := [some (.ref 0), some (.int t), some (.int is), none, none, none]) (st' := [.int t]) (I' := I) (L' := L) (R' := zw_RC h sp la) rfl ?_
  refine zv_if_lt (tgt := 10) (zs_at rfl) (by decide) (fun c1 => ?_) (fun c1 => ?_)
  · have _c := c1
    refine zv_run 1 (pc' := 11) (lo' := [some (.ref 0), some (.int t), some (.int is), none, none, none]) (st' := [.int (-1)]) (I' := I) (L' := L) (R' := zw_RC h sp la) rfl ?_
    exact zv_iret (zs_at rfl) rfl ⟨Nat.le_refl _, Nat.le_refl _⟩ (zw_to (by simp [q_plan, q_bit, *]) rfl (by simp [q_planm, q_bit, *]) rfl)
  · have _c := c1
    refine zv_run 2 (pc' := 7) (lo' := [some (.ref 0), some (.int t), some (.int is), none, none, none]) (st' := [.int 60, .int t]) (I' := I) (L' := L) (R' := zw_RC h sp la) rfl ?_
    refine zv_icmp_lt (tgt := 12) (zs_at rfl) (by decide) (fun c7 => ?_) (fun c7 => ?_)
    · have _c := c7
      refine zv_run 11 (pc' := 27) (lo' := [some (.ref 0), some (.int t), some (.int is), some (.long ((1 : Int64) <<< (t.toInt64 &&& 63))), none, none]) (st' := [.int (lg_cmp ((L 24 2) &&& ((1 : Int64) <<< (t.toInt64 &&& 63))) (0 : Int64))]) (I' := I) (L' := L) (R' := zw_RC h sp la) rfl ?_
      refine zv_if_eq (tgt := 34) (zs_at rfl) (by decide) (fun c27 => ?_) (fun c27 => ?_)
      · have _c := c27
        refine zv_run 5 (pc' := 42) (lo' := [some (.ref 0), some (.int t), some (.int is), some (.long ((1 : Int64) <<< (t.toInt64 &&& 63))), none, some (.int 0)]) (st' := [.int is, .ref 24]) (I' := I) (L' := L) (R' := zw_RC h sp la) rfl ?_
        refine zv_if_eq (tgt := 57) (zs_at rfl) (by decide) (fun c42 => ?_) (fun c42 => ?_)
        · have _c := c42
          refine zv_run 9 (pc' := 75) (lo' := [some (.ref 0), some (.int t), some (.int is), some (.long ((1 : Int64) <<< (t.toInt64 &&& 63))), none, some (.int 0)]) (st' := [.int 0]) (I' := I) (L' := (zx_uL L 24 2 ((L 24 2) &&& (((1 : Int64) <<< (t.toInt64 &&& 63)) ^^^ (-1 : Int64))))) (R' := zw_RC h sp la) rfl ?_
          exact zv_iret (zs_at rfl) rfl ⟨Nat.le_refl _, Nat.le_refl _⟩ (zw_to (by simp [q_plan, q_bit, *]) rfl (by simp [q_planm, q_bit, *]) rfl)
        · have _c := c42
          refine zv_run 6 (pc' := 70) (lo' := [some (.ref 0), some (.int t), some (.int is), some (.long ((1 : Int64) <<< (t.toInt64 &&& 63))), none, some (.int 0)]) (st' := [.long ((L 24 2) ||| ((1 : Int64) <<< (t.toInt64 &&& 63))), .ref 24]) (I' := I) (L' := L) (R' := zw_RC h sp la) rfl ?_
          refine zv_run 2 (pc' := 75) (lo' := [some (.ref 0), some (.int t), some (.int is), some (.long ((1 : Int64) <<< (t.toInt64 &&& 63))), none, some (.int 0)]) (st' := [.int 0]) (I' := I) (L' := (zx_uL L 24 2 ((L 24 2) ||| ((1 : Int64) <<< (t.toInt64 &&& 63))))) (R' := zw_RC h sp la) rfl ?_
          exact zv_iret (zs_at rfl) rfl ⟨Nat.le_refl _, Nat.le_refl _⟩ (zw_to (by simp [q_plan, q_bit, *]) rfl (by simp [q_planm, q_bit, *]) rfl)
      · have _c := c27
        refine zv_run 2 (pc' := 35) (lo' := [some (.ref 0), some (.int t), some (.int is), some (.long ((1 : Int64) <<< (t.toInt64 &&& 63))), none, none]) (st' := [.int 1]) (I' := I) (L' := L) (R' := zw_RC h sp la) rfl ?_
        refine zv_run 4 (pc' := 42) (lo' := [some (.ref 0), some (.int t), some (.int is), some (.long ((1 : Int64) <<< (t.toInt64 &&& 63))), none, some (.int 1)]) (st' := [.int is, .ref 24]) (I' := I) (L' := L) (R' := zw_RC h sp la) rfl ?_
        refine zv_if_eq (tgt := 57) (zs_at rfl) (by decide) (fun c42 => ?_) (fun c42 => ?_)
        · have _c := c42
          refine zv_run 9 (pc' := 75) (lo' := [some (.ref 0), some (.int t), some (.int is), some (.long ((1 : Int64) <<< (t.toInt64 &&& 63))), none, some (.int 1)]) (st' := [.int 1]) (I' := I) (L' := (zx_uL L 24 2 ((L 24 2) &&& (((1 : Int64) <<< (t.toInt64 &&& 63)) ^^^ (-1 : Int64))))) (R' := zw_RC h sp la) rfl ?_
          exact zv_iret (zs_at rfl) rfl ⟨Nat.le_refl _, Nat.le_refl _⟩ (zw_to (by simp [q_plan, q_bit, *]) rfl (by simp [q_planm, q_bit, *]) rfl)
        · have _c := c42
          refine zv_run 6 (pc' := 70) (lo' := [some (.ref 0), some (.int t), some (.int is), some (.long ((1 : Int64) <<< (t.toInt64 &&& 63))), none, some (.int 1)]) (st' := [.long ((L 24 2) ||| ((1 : Int64) <<< (t.toInt64 &&& 63))), .ref 24]) (I' := I) (L' := L) (R' := zw_RC h sp la) rfl ?_
          refine zv_run 2 (pc' := 75) (lo' := [some (.ref 0), some (.int t), some (.int is), some (.long ((1 : Int64) <<< (t.toInt64 &&& 63))), none, some (.int 1)]) (st' := [.int 1]) (I' := I) (L' := (zx_uL L 24 2 ((L 24 2) ||| ((1 : Int64) <<< (t.toInt64 &&& 63))))) (R' := zw_RC h sp la) rfl ?_
          exact zv_iret (zs_at rfl) rfl ⟨Nat.le_refl _, Nat.le_refl _⟩ (zw_to (by simp [q_plan, q_bit, *]) rfl (by simp [q_planm, q_bit, *]) rfl)
    · have _c := c7
      refine zv_run 1 (pc' := 11) (lo' := [some (.ref 0), some (.int t), some (.int is), none, none, none]) (st' := [.int (-1)]) (I' := I) (L' := L) (R' := zw_RC h sp la) rfl ?_
      exact zv_iret (zs_at rfl) rfl ⟨Nat.le_refl _, Nat.le_refl _⟩ (zw_to (by simp [q_plan, q_bit, *]) rfl (by simp [q_planm, q_bit, *]) rfl)
theorem ct_X9_ask_4 {d : Nat} {I : zx_I} {L : zx_L} {la : Option Nat} {rule : Int32}  : zx_M0 mm_X9_ask (d + 2) 0 0 [.ref 0, .int rule] zw_SC I L (zw_RC 4 14 la) (zw_ret (none) zw_SC (q_ask I 4 rule) (q_L L) (zw_RC 4 14 la)) := by
  refine zv_entry gd_X9_ask (Nat.le_of_ble_eq_true rfl) ?_
  refine zv_run 8 (pc' := 16) (lo' := [some (.ref 0), some (.int rule)]) (st' := [.int (I 4 8), .ref 24, .int rule, .ref 34]) (I' := I) (L' := L) (R' := zw_RC 4 14 la) rfl ?_
  refine zv_cV (M' := mm_X0_become) (ci := 0) (a := 34) (av := [.int rule, .ref 24, .int (I 4 8)]) (st := []) (r := none) (I' := (fa_become I rule (I 4 8))) (L' := (zx_uL L 34 3 (L 24 2))) (R' := zw_RC 4 14 la) rfl zc_9_259 gd_X0_become rfl rfl rfl (Nat.le_of_ble_eq_true rfl) (ct_X0_become (d := _)) ⟨Nat.le_refl _, Nat.le_refl _⟩ ?_
  refine zv_run 0 (pc' := 19) (lo' := [some (.ref 0), some (.int rule)]) (st' := []) (I' := (fa_become I rule (I 4 8))) (L' := (zx_uL L 34 3 (L 24 2))) (R' := zw_RC 4 14 la) rfl ?_
  refine zv_run 2 (pc' := 23) (lo' := [some (.ref 0), some (.int rule)]) (st' := [.ref 4]) (I' := (fa_become I rule (I 4 8))) (L' := (zx_uL L 34 3 (L 24 2))) (R' := zw_RC 4 14 la) rfl ?_
  refine zv_cV (M' := mm_X5_allComeAsTold) (ci := 5) (a := 4) (av := []) (st := []) (r := none) (I' := (fh_told (fa_become I rule (I 4 8)) 4)) (L' := (zx_uL L 34 3 (L 24 2))) (R' := zw_RC 4 14 la) rfl zc_9_263 gd_X5_allComeAsTold rfl rfl rfl (Nat.le_of_ble_eq_true rfl) (ct_X5_allComeAsTold (d := _) (Or.inl rfl)) ⟨Nat.le_refl _, Nat.le_refl _⟩ ?_
  refine zv_run 0 (pc' := 26) (lo' := [some (.ref 0), some (.int rule)]) (st' := []) (I' := (fh_told (fa_become I rule (I 4 8)) 4)) (L' := (zx_uL L 34 3 (L 24 2))) (R' := zw_RC 4 14 la) rfl ?_
  exact zv_vret (zs_at rfl) rfl ⟨Nat.le_refl _, Nat.le_refl _⟩ (zw_to rfl rfl rfl rfl)
theorem ct_X9_ask_14 {d : Nat} {I : zx_I} {L : zx_L} {la : Option Nat} {rule : Int32}  : zx_M0 mm_X9_ask (d + 2) 0 0 [.ref 0, .int rule] zw_SC I L (zw_RC 14 4 la) (zw_ret (none) zw_SC (q_ask I 14 rule) (q_L L) (zw_RC 14 4 la)) := by
  refine zv_entry gd_X9_ask (Nat.le_of_ble_eq_true rfl) ?_
  refine zv_run 8 (pc' := 16) (lo' := [some (.ref 0), some (.int rule)]) (st' := [.int (I 14 8), .ref 24, .int rule, .ref 34]) (I' := I) (L' := L) (R' := zw_RC 14 4 la) rfl ?_
  refine zv_cV (M' := mm_X0_become) (ci := 0) (a := 34) (av := [.int rule, .ref 24, .int (I 14 8)]) (st := []) (r := none) (I' := (fa_become I rule (I 14 8))) (L' := (zx_uL L 34 3 (L 24 2))) (R' := zw_RC 14 4 la) rfl zc_9_259 gd_X0_become rfl rfl rfl (Nat.le_of_ble_eq_true rfl) (ct_X0_become (d := _)) ⟨Nat.le_refl _, Nat.le_refl _⟩ ?_
  refine zv_run 0 (pc' := 19) (lo' := [some (.ref 0), some (.int rule)]) (st' := []) (I' := (fa_become I rule (I 14 8))) (L' := (zx_uL L 34 3 (L 24 2))) (R' := zw_RC 14 4 la) rfl ?_
  refine zv_run 2 (pc' := 23) (lo' := [some (.ref 0), some (.int rule)]) (st' := [.ref 14]) (I' := (fa_become I rule (I 14 8))) (L' := (zx_uL L 34 3 (L 24 2))) (R' := zw_RC 14 4 la) rfl ?_
  refine zv_cV (M' := mm_X5_allComeAsTold) (ci := 5) (a := 14) (av := []) (st := []) (r := none) (I' := (fh_told (fa_become I rule (I 14 8)) 14)) (L' := (zx_uL L 34 3 (L 24 2))) (R' := zw_RC 14 4 la) rfl zc_9_263 gd_X5_allComeAsTold rfl rfl rfl (Nat.le_of_ble_eq_true rfl) (ct_X5_allComeAsTold (d := _) (Or.inr rfl)) ⟨Nat.le_refl _, Nat.le_refl _⟩ ?_
  refine zv_run 0 (pc' := 26) (lo' := [some (.ref 0), some (.int rule)]) (st' := []) (I' := (fh_told (fa_become I rule (I 14 8)) 14)) (L' := (zx_uL L 34 3 (L 24 2))) (R' := zw_RC 14 4 la) rfl ?_
  exact zv_vret (zs_at rfl) rfl ⟨Nat.le_refl _, Nat.le_refl _⟩ (zw_to rfl rfl rfl rfl)
theorem ct_X9_ask {d : Nat} {I : zx_I} {L : zx_L} {h sp : Nat} {la : Option Nat} {rule : Int32} (hh : hsp h sp)  : zx_M0 mm_X9_ask (d + 2) 0 0 [.ref 0, .int rule] zw_SC I L (zw_RC h sp la) (zw_ret (none) zw_SC (q_ask I h rule) (q_L L) (zw_RC h sp la)) := by
  rcases hh with ⟨rfl, rfl⟩ | ⟨rfl, rfl⟩
  · exact ct_X9_ask_4 
  · exact ct_X9_ask_14 
def q_bather (I : zx_I) (h : Nat) (i what : Int32) : Int32 := match fh_who I h i with
  | none => -1
  | some w => if what < 0 then -1 else if what ≤ 7 then fb_told I w what else -1
theorem ct_X9_bather_4 {d : Nat} {I : zx_I} {L : zx_L} {la : Option Nat} {i what : Int32}  : zx_M0 mm_X9_bather (d + 1) 0 0 [.ref 0, .int i, .int what] zw_SC I L (zw_RC 4 14 la) (zw_ret (some (.int (q_bather I 4 i what))) zw_SC I L (zw_RC 4 14 la)) := by
  refine zv_entry gd_X9_bather (Nat.le_of_ble_eq_true rfl) ?_
  refine zv_run 3 (pc' := 5) (lo' := [some (.ref 0), some (.int i), some (.int what), none]) (st' := [.int i, .ref 4]) (I' := I) (L' := L) (R' := zw_RC 4 14 la) rfl ?_
  refine zv_cV (M' := mm_X5_who) (ci := 5) (a := 4) (av := [.int i]) (st := []) (r := some (va_rf (fh_who I 4 i))) (I' := I) (L' := L) (R' := zw_RC 4 14 la) rfl zc_9_85 gd_X5_who rfl rfl rfl (Nat.le_of_ble_eq_true rfl) (ct_X5_who (d := _) (Or.inl rfl)) ⟨Nat.le_refl _, Nat.le_refl _⟩ ?_
  rcases hw8 : fh_who I 4 i with _ | w
  · refine zv_run 0 (pc' := 8) (lo' := [some (.ref 0), some (.int i), some (.int what), none]) (st' := [.null]) (I' := I) (L' := L) (R' := zw_RC 4 14 la) rfl ?_
    refine zv_run 2 (pc' := 10) (lo' := [some (.ref 0), some (.int i), some (.int what), some (.null)]) (st' := [.null]) (I' := I) (L' := L) (R' := zw_RC 4 14 la) rfl ?_
    refine zv_ifnullN (tgt := 23) (zs_at rfl) (by decide) ?_
    refine zv_run 1 (pc' := 24) (lo' := [some (.ref 0), some (.int i), some (.int what), some (.null)]) (st' := [.int (-1)]) (I' := I) (L' := L) (R' := zw_RC 4 14 la) rfl ?_
    exact zv_iret (zs_at rfl) rfl ⟨Nat.le_refl _, Nat.le_refl _⟩ (zw_to (by unfold q_bather; rw [hw8]) rfl rfl rfl)
  · refine zv_run 0 (pc' := 8) (lo' := [some (.ref 0), some (.int i), some (.int what), none]) (st' := [.ref w]) (I' := I) (L' := L) (R' := zw_RC 4 14 la) rfl ?_
    have hwf := fh_who_bt (Or.inl rfl) hw8
    refine zv_run 2 (pc' := 10) (lo' := [some (.ref 0), some (.int i), some (.int what), some (.ref w)]) (st' := [.ref w]) (I' := I) (L' := L) (R' := zw_RC 4 14 la) rfl ?_
    refine zv_ifnull (zs_at rfl) ?_
    refine zv_run 1 (pc' := 14) (lo' := [some (.ref 0), some (.int i), some (.int what), some (.ref w)]) (st' := [.int what]) (I' := I) (L' := L) (R' := zw_RC 4 14 la) rfl ?_
    refine zv_if_lt (tgt := 23) (zs_at rfl) (by decide) (fun c14 => ?_) (fun c14 => ?_)
    · have _c := c14
      refine zv_run 1 (pc' := 24) (lo' := [some (.ref 0), some (.int i), some (.int what), some (.ref w)]) (st' := [.int (-1)]) (I' := I) (L' := L) (R' := zw_RC 4 14 la) rfl ?_
      exact zv_iret (zs_at rfl) rfl ⟨Nat.le_refl _, Nat.le_refl _⟩ (zw_to (by unfold q_bather; rw [hw8]; dsimp only; simp [*]) rfl rfl rfl)
    · have _c := c14
      refine zv_run 2 (pc' := 20) (lo' := [some (.ref 0), some (.int i), some (.int what), some (.ref w)]) (st' := [.int 7, .int what]) (I' := I) (L' := L) (R' := zw_RC 4 14 la) rfl ?_
      refine zv_icmp_le (tgt := 25) (zs_at rfl) (by decide) (fun c20 => ?_) (fun c20 => ?_)
      · have _c := c20
        refine zv_run 2 (pc' := 27) (lo' := [some (.ref 0), some (.int i), some (.int what), some (.ref w)]) (st' := [.int what, .ref w]) (I' := I) (L' := L) (R' := zw_RC 4 14 la) rfl ?_
        refine zv_cV (M' := mm_X2_toldOf) (ci := 2) (a := w) (av := [.int what]) (st := []) (r := some (.int (fb_told I w what))) (I' := I) (L' := L) (R' := zw_RC 4 14 la) rfl zc_9_89 gd_X2_toldOf (bt_S hwf.1) rfl rfl (Nat.le_of_ble_eq_true rfl) (ct_X2_toldOf (d := _) hwf.1) ⟨Nat.le_refl _, Nat.le_refl _⟩ ?_
        refine zv_run 0 (pc' := 30) (lo' := [some (.ref 0), some (.int i), some (.int what), some (.ref w)]) (st' := [.int (fb_told I w what)]) (I' := I) (L' := L) (R' := zw_RC 4 14 la) rfl ?_
        exact zv_iret (zs_at rfl) rfl ⟨Nat.le_refl _, Nat.le_refl _⟩ (zw_to (by unfold q_bather; rw [hw8]; dsimp only; simp [*]) rfl rfl rfl)
      · have _c := c20
        refine zv_run 1 (pc' := 24) (lo' := [some (.ref 0), some (.int i), some (.int what), some (.ref w)]) (st' := [.int (-1)]) (I' := I) (L' := L) (R' := zw_RC 4 14 la) rfl ?_
        exact zv_iret (zs_at rfl) rfl ⟨Nat.le_refl _, Nat.le_refl _⟩ (zw_to (by unfold q_bather; rw [hw8]; dsimp only; simp [*]) rfl rfl rfl)
theorem ct_X9_bather_14 {d : Nat} {I : zx_I} {L : zx_L} {la : Option Nat} {i what : Int32}  : zx_M0 mm_X9_bather (d + 1) 0 0 [.ref 0, .int i, .int what] zw_SC I L (zw_RC 14 4 la) (zw_ret (some (.int (q_bather I 14 i what))) zw_SC I L (zw_RC 14 4 la)) := by
  refine zv_entry gd_X9_bather (Nat.le_of_ble_eq_true rfl) ?_
  refine zv_run 3 (pc' := 5) (lo' := [some (.ref 0), some (.int i), some (.int what), none]) (st' := [.int i, .ref 14]) (I' := I) (L' := L) (R' := zw_RC 14 4 la) rfl ?_
  refine zv_cV (M' := mm_X5_who) (ci := 5) (a := 14) (av := [.int i]) (st := []) (r := some (va_rf (fh_who I 14 i))) (I' := I) (L' := L) (R' := zw_RC 14 4 la) rfl zc_9_85 gd_X5_who rfl rfl rfl (Nat.le_of_ble_eq_true rfl) (ct_X5_who (d := _) (Or.inr rfl)) ⟨Nat.le_refl _, Nat.le_refl _⟩ ?_
  rcases hw8 : fh_who I 14 i with _ | w
  · refine zv_run 0 (pc' := 8) (lo' := [some (.ref 0), some (.int i), some (.int what), none]) (st' := [.null]) (I' := I) (L' := L) (R' := zw_RC 14 4 la) rfl ?_
    refine zv_run 2 (pc' := 10) (lo' := [some (.ref 0), some (.int i), some (.int what), some (.null)]) (st' := [.null]) (I' := I) (L' := L) (R' := zw_RC 14 4 la) rfl ?_
    refine zv_ifnullN (tgt := 23) (zs_at rfl) (by decide) ?_
    refine zv_run 1 (pc' := 24) (lo' := [some (.ref 0), some (.int i), some (.int what), some (.null)]) (st' := [.int (-1)]) (I' := I) (L' := L) (R' := zw_RC 14 4 la) rfl ?_
    exact zv_iret (zs_at rfl) rfl ⟨Nat.le_refl _, Nat.le_refl _⟩ (zw_to (by unfold q_bather; rw [hw8]) rfl rfl rfl)
  · refine zv_run 0 (pc' := 8) (lo' := [some (.ref 0), some (.int i), some (.int what), none]) (st' := [.ref w]) (I' := I) (L' := L) (R' := zw_RC 14 4 la) rfl ?_
    have hwf := fh_who_bt (Or.inr rfl) hw8
    refine zv_run 2 (pc' := 10) (lo' := [some (.ref 0), some (.int i), some (.int what), some (.ref w)]) (st' := [.ref w]) (I' := I) (L' := L) (R' := zw_RC 14 4 la) rfl ?_
    refine zv_ifnull (zs_at rfl) ?_
    refine zv_run 1 (pc' := 14) (lo' := [some (.ref 0), some (.int i), some (.int what), some (.ref w)]) (st' := [.int what]) (I' := I) (L' := L) (R' := zw_RC 14 4 la) rfl ?_
    refine zv_if_lt (tgt := 23) (zs_at rfl) (by decide) (fun c14 => ?_) (fun c14 => ?_)
    · have _c := c14
      refine zv_run 1 (pc' := 24) (lo' := [some (.ref 0), some (.int i), some (.int what), some (.ref w)]) (st' := [.int (-1)]) (I' := I) (L' := L) (R' := zw_RC 14 4 la) rfl ?_
      exact zv_iret (zs_at rfl) rfl ⟨Nat.le_refl _, Nat.le_refl _⟩ (zw_to (by unfold q_bather; rw [hw8]; dsimp only; simp [*]) rfl rfl rfl)
    · have _c := c14
      refine zv_run 2 (pc' := 20) (lo' := [some (.ref 0), some (.int i), some (.int what), some (.ref w)]) (st' := [.int 7, .int what]) (I' := I) (L' := L) (R' := zw_RC 14 4 la) rfl ?_
      refine zv_icmp_le (tgt := 25) (zs_at rfl) (by decide) (fun c20 => ?_) (fun c20 => ?_)
      · have _c := c20
        refine zv_run 2 (pc' := 27) (lo' := [some (.ref 0), some (.int i), some (.int what), some (.ref w)]) (st' := [.int what, .ref w]) (I' := I) (L' := L) (R' := zw_RC 14 4 la) rfl ?_
        refine zv_cV (M' := mm_X2_toldOf) (ci := 2) (a := w) (av := [.int what]) (st := []) (r := some (.int (fb_told I w what))) (I' := I) (L' := L) (R' := zw_RC 14 4 la) rfl zc_9_89 gd_X2_toldOf (bt_S hwf.1) rfl rfl (Nat.le_of_ble_eq_true rfl) (ct_X2_toldOf (d := _) hwf.1) ⟨Nat.le_refl _, Nat.le_refl _⟩ ?_
        refine zv_run 0 (pc' := 30) (lo' := [some (.ref 0), some (.int i), some (.int what), some (.ref w)]) (st' := [.int (fb_told I w what)]) (I' := I) (L' := L) (R' := zw_RC 14 4 la) rfl ?_
        exact zv_iret (zs_at rfl) rfl ⟨Nat.le_refl _, Nat.le_refl _⟩ (zw_to (by unfold q_bather; rw [hw8]; dsimp only; simp [*]) rfl rfl rfl)
      · have _c := c20
        refine zv_run 1 (pc' := 24) (lo' := [some (.ref 0), some (.int i), some (.int what), some (.ref w)]) (st' := [.int (-1)]) (I' := I) (L' := L) (R' := zw_RC 14 4 la) rfl ?_
        exact zv_iret (zs_at rfl) rfl ⟨Nat.le_refl _, Nat.le_refl _⟩ (zw_to (by unfold q_bather; rw [hw8]; dsimp only; simp [*]) rfl rfl rfl)
theorem ct_X9_bather {d : Nat} {I : zx_I} {L : zx_L} {h sp : Nat} {la : Option Nat} {i what : Int32} (hh : hsp h sp)  : zx_M0 mm_X9_bather (d + 1) 0 0 [.ref 0, .int i, .int what] zw_SC I L (zw_RC h sp la) (zw_ret (some (.int (q_bather I h i what))) zw_SC I L (zw_RC h sp la)) := by
  rcases hh with ⟨rfl, rfl⟩ | ⟨rfl, rfl⟩
  · exact ct_X9_bather_4 
  · exact ct_X9_bather_14 
def q_end (I : zx_I) (L : zx_L) (h : Nat) (rule : Int32) : zx_I × Option Nat := fr_end (q_ask I h rule) (q_L L) h
def q_scr (I : zx_I) (L : zx_L) (h : Nat) (rule : Int32) : Int32 := fr_score (q_ask I h rule) (q_L L) h
def q_evok (I : zx_I) (h : Nat) (rule i what : Int32) : Option Nat := match fh_who I h i with
  | none => none
  | some w => if q_rule rule = 0 then none else if what < 0 then none else if what ≤ 3 then some w else none
def q_evv (J : zx_I) (w : Nat) (what : Int32) : Int32 := if what.toInt = 0 then J w 10 else if what.toInt = 1 then J w 11 else if what.toInt = 2 then J w 12 else J w 13
theorem ct_X9_evening_no_4 {d : Nat} {I : zx_I} {L : zx_L} {la : Option Nat} {rule i what : Int32} (hno : q_evok I 4 rule i what = none) : zx_M0 mm_X9_evening (d + 1) 0 0 [.ref 0, .int rule, .int i, .int what] zw_SC I L (zw_RC 4 14 la) (zw_ret (some (.int (-1))) zw_SC I L (zw_RC 4 14 la)) := by
  refine zv_entry gd_X9_evening (Nat.le_of_ble_eq_true rfl) ?_
  refine zv_run 3 (pc' := 5) (lo' := [some (.ref 0), some (.int rule), some (.int i), some (.int what), none]) (st' := [.int i, .ref 4]) (I' := I) (L' := L) (R' := zw_RC 4 14 la) rfl ?_
  refine zv_cV (M' := mm_X5_who) (ci := 5) (a := 4) (av := [.int i]) (st := []) (r := some (va_rf (fh_who I 4 i))) (I' := I) (L' := L) (R' := zw_RC 4 14 la) rfl zc_9_85 gd_X5_who rfl rfl rfl (Nat.le_of_ble_eq_true rfl) (ct_X5_who (d := _) (Or.inl rfl)) ⟨Nat.le_refl _, Nat.le_refl _⟩ ?_
  rcases hw8 : fh_who I 4 i with _ | w
  · refine zv_run 0 (pc' := 8) (lo' := [some (.ref 0), some (.int rule), some (.int i), some (.int what), none]) (st' := [.null]) (I' := I) (L' := L) (R' := zw_RC 4 14 la) rfl ?_
    refine zv_run 2 (pc' := 11) (lo' := [some (.ref 0), some (.int rule), some (.int i), some (.int what), some (.null)]) (st' := [.int rule]) (I' := I) (L' := L) (R' := zw_RC 4 14 la) rfl ?_
    refine zv_cS (M' := mm_X9_isRule) (av := [.int rule]) (st := []) (r := some (.int (q_rule rule))) (I' := I) (L' := L) (R' := zw_RC 4 14 la) rfl zc_9_152 gd_X9_isRule rfl (Nat.le_of_ble_eq_true rfl) (ct_X9_isRule (d := _)) ⟨Nat.le_refl _, Nat.le_refl _⟩ ?_
    refine zv_run 0 (pc' := 14) (lo' := [some (.ref 0), some (.int rule), some (.int i), some (.int what), some (.null)]) (st' := [.int (q_rule rule)]) (I' := I) (L' := L) (R' := zw_RC 4 14 la) rfl ?_
    refine zv_if_eq (tgt := 31) (zs_at rfl) (by decide) (fun c14 => ?_) (fun c14 => ?_)
    · have _c := c14
      refine zv_run 1 (pc' := 32) (lo' := [some (.ref 0), some (.int rule), some (.int i), some (.int what), some (.null)]) (st' := [.int (-1)]) (I' := I) (L' := L) (R' := zw_RC 4 14 la) rfl ?_
      exact zv_iret (zs_at rfl) rfl ⟨Nat.le_refl _, Nat.le_refl _⟩ (zw_to rfl rfl rfl rfl)
    · have _c := c14
      refine zv_run 1 (pc' := 19) (lo' := [some (.ref 0), some (.int rule), some (.int i), some (.int what), some (.null)]) (st' := [.null]) (I' := I) (L' := L) (R' := zw_RC 4 14 la) rfl ?_
      refine zv_ifnullN (tgt := 31) (zs_at rfl) (by decide) ?_
      refine zv_run 1 (pc' := 32) (lo' := [some (.ref 0), some (.int rule), some (.int i), some (.int what), some (.null)]) (st' := [.int (-1)]) (I' := I) (L' := L) (R' := zw_RC 4 14 la) rfl ?_
      exact zv_iret (zs_at rfl) rfl ⟨Nat.le_refl _, Nat.le_refl _⟩ (zw_to rfl rfl rfl rfl)
  · refine zv_run 0 (pc' := 8) (lo' := [some (.ref 0), some (.int rule), some (.int i), some (.int what), none]) (st' := [.ref w]) (I' := I) (L' := L) (R' := zw_RC 4 14 la) rfl ?_
    have hwf := fh_who_bt (Or.inl rfl) hw8
    refine zv_run 2 (pc' := 11) (lo' := [some (.ref 0), some (.int rule), some (.int i), some (.int what), some (.ref w)]) (st' := [.int rule]) (I' := I) (L' := L) (R' := zw_RC 4 14 la) rfl ?_
    refine zv_cS (M' := mm_X9_isRule) (av := [.int rule]) (st := []) (r := some (.int (q_rule rule))) (I' := I) (L' := L) (R' := zw_RC 4 14 la) rfl zc_9_152 gd_X9_isRule rfl (Nat.le_of_ble_eq_true rfl) (ct_X9_isRule (d := _)) ⟨Nat.le_refl _, Nat.le_refl _⟩ ?_
    refine zv_run 0 (pc' := 14) (lo' := [some (.ref 0), some (.int rule), some (.int i), some (.int what), some (.ref w)]) (st' := [.int (q_rule rule)]) (I' := I) (L' := L) (R' := zw_RC 4 14 la) rfl ?_
    refine zv_if_eq (tgt := 31) (zs_at rfl) (by decide) (fun c14 => ?_) (fun c14 => ?_)
    · have _c := c14
      refine zv_run 1 (pc' := 32) (lo' := [some (.ref 0), some (.int rule), some (.int i), some (.int what), some (.ref w)]) (st' := [.int (-1)]) (I' := I) (L' := L) (R' := zw_RC 4 14 la) rfl ?_
      exact zv_iret (zs_at rfl) rfl ⟨Nat.le_refl _, Nat.le_refl _⟩ (zw_to rfl rfl rfl rfl)
    · have _c := c14
      refine zv_run 1 (pc' := 19) (lo' := [some (.ref 0), some (.int rule), some (.int i), some (.int what), some (.ref w)]) (st' := [.ref w]) (I' := I) (L' := L) (R' := zw_RC 4 14 la) rfl ?_
      refine zv_ifnull (zs_at rfl) ?_
      refine zv_run 1 (pc' := 23) (lo' := [some (.ref 0), some (.int rule), some (.int i), some (.int what), some (.ref w)]) (st' := [.int what]) (I' := I) (L' := L) (R' := zw_RC 4 14 la) rfl ?_
      refine zv_if_lt (tgt := 31) (zs_at rfl) (by decide) (fun c23 => ?_) (fun c23 => ?_)
      · have _c := c23
        refine zv_run 1 (pc' := 32) (lo' := [some (.ref 0), some (.int rule), some (.int i), some (.int what), some (.ref w)]) (st' := [.int (-1)]) (I' := I) (L' := L) (R' := zw_RC 4 14 la) rfl ?_
        exact zv_iret (zs_at rfl) rfl ⟨Nat.le_refl _, Nat.le_refl _⟩ (zw_to rfl rfl rfl rfl)
      · have _c := c23
        refine zv_run 2 (pc' := 28) (lo' := [some (.ref 0), some (.int rule), some (.int i), some (.int what), some (.ref w)]) (st' := [.int 3, .int what]) (I' := I) (L' := L) (R' := zw_RC 4 14 la) rfl ?_
        refine zv_icmp_le (tgt := 33) (zs_at rfl) (by decide) (fun c28 => ?_) (fun c28 => ?_)
        · have _c := c28
          exact absurd hno (by unfold q_evok; rw [hw8]; dsimp only; rw [if_neg c14, if_neg c23, if_pos c28]; exact fun q => by cases q)
        · have _c := c28
          refine zv_run 1 (pc' := 32) (lo' := [some (.ref 0), some (.int rule), some (.int i), some (.int what), some (.ref w)]) (st' := [.int (-1)]) (I' := I) (L' := L) (R' := zw_RC 4 14 la) rfl ?_
          exact zv_iret (zs_at rfl) rfl ⟨Nat.le_refl _, Nat.le_refl _⟩ (zw_to rfl rfl rfl rfl)
theorem ct_X9_evening_no_14 {d : Nat} {I : zx_I} {L : zx_L} {la : Option Nat} {rule i what : Int32} (hno : q_evok I 14 rule i what = none) : zx_M0 mm_X9_evening (d + 1) 0 0 [.ref 0, .int rule, .int i, .int what] zw_SC I L (zw_RC 14 4 la) (zw_ret (some (.int (-1))) zw_SC I L (zw_RC 14 4 la)) := by
  refine zv_entry gd_X9_evening (Nat.le_of_ble_eq_true rfl) ?_
  refine zv_run 3 (pc' := 5) (lo' := [some (.ref 0), some (.int rule), some (.int i), some (.int what), none]) (st' := [.int i, .ref 14]) (I' := I) (L' := L) (R' := zw_RC 14 4 la) rfl ?_
  refine zv_cV (M' := mm_X5_who) (ci := 5) (a := 14) (av := [.int i]) (st := []) (r := some (va_rf (fh_who I 14 i))) (I' := I) (L' := L) (R' := zw_RC 14 4 la) rfl zc_9_85 gd_X5_who rfl rfl rfl (Nat.le_of_ble_eq_true rfl) (ct_X5_who (d := _) (Or.inr rfl)) ⟨Nat.le_refl _, Nat.le_refl _⟩ ?_
  rcases hw8 : fh_who I 14 i with _ | w
  · refine zv_run 0 (pc' := 8) (lo' := [some (.ref 0), some (.int rule), some (.int i), some (.int what), none]) (st' := [.null]) (I' := I) (L' := L) (R' := zw_RC 14 4 la) rfl ?_
    refine zv_run 2 (pc' := 11) (lo' := [some (.ref 0), some (.int rule), some (.int i), some (.int what), some (.null)]) (st' := [.int rule]) (I' := I) (L' := L) (R' := zw_RC 14 4 la) rfl ?_
    refine zv_cS (M' := mm_X9_isRule) (av := [.int rule]) (st := []) (r := some (.int (q_rule rule))) (I' := I) (L' := L) (R' := zw_RC 14 4 la) rfl zc_9_152 gd_X9_isRule rfl (Nat.le_of_ble_eq_true rfl) (ct_X9_isRule (d := _)) ⟨Nat.le_refl _, Nat.le_refl _⟩ ?_
    refine zv_run 0 (pc' := 14) (lo' := [some (.ref 0), some (.int rule), some (.int i), some (.int what), some (.null)]) (st' := [.int (q_rule rule)]) (I' := I) (L' := L) (R' := zw_RC 14 4 la) rfl ?_
    refine zv_if_eq (tgt := 31) (zs_at rfl) (by decide) (fun c14 => ?_) (fun c14 => ?_)
    · have _c := c14
      refine zv_run 1 (pc' := 32) (lo' := [some (.ref 0), some (.int rule), some (.int i), some (.int what), some (.null)]) (st' := [.int (-1)]) (I' := I) (L' := L) (R' := zw_RC 14 4 la) rfl ?_
      exact zv_iret (zs_at rfl) rfl ⟨Nat.le_refl _, Nat.le_refl _⟩ (zw_to rfl rfl rfl rfl)
    · have _c := c14
      refine zv_run 1 (pc' := 19) (lo' := [some (.ref 0), some (.int rule), some (.int i), some (.int what), some (.null)]) (st' := [.null]) (I' := I) (L' := L) (R' := zw_RC 14 4 la) rfl ?_
      refine zv_ifnullN (tgt := 31) (zs_at rfl) (by decide) ?_
      refine zv_run 1 (pc' := 32) (lo' := [some (.ref 0), some (.int rule), some (.int i), some (.int what), some (.null)]) (st' := [.int (-1)]) (I' := I) (L' := L) (R' := zw_RC 14 4 la) rfl ?_
      exact zv_iret (zs_at rfl) rfl ⟨Nat.le_refl _, Nat.le_refl _⟩ (zw_to rfl rfl rfl rfl)
  · refine zv_run 0 (pc' := 8) (lo' := [some (.ref 0), some (.int rule), some (.int i), some (.int what), none]) (st' := [.ref w]) (I' := I) (L' := L) (R' := zw_RC 14 4 la) rfl ?_
    have hwf := fh_who_bt (Or.inr rfl) hw8
    refine zv_run 2 (pc' := 11) (lo' := [some (.ref 0), some (.int rule), some (.int i), some (.int what), some (.ref w)]) (st' := [.int rule]) (I' := I) (L' := L) (R' := zw_RC 14 4 la) rfl ?_
    refine zv_cS (M' := mm_X9_isRule) (av := [.int rule]) (st := []) (r := some (.int (q_rule rule))) (I' := I) (L' := L) (R' := zw_RC 14 4 la) rfl zc_9_152 gd_X9_isRule rfl (Nat.le_of_ble_eq_true rfl) (ct_X9_isRule (d := _)) ⟨Nat.le_refl _, Nat.le_refl _⟩ ?_
    refine zv_run 0 (pc' := 14) (lo' := [some (.ref 0), some (.int rule), some (.int i), some (.int what), some (.ref w)]) (st' := [.int (q_rule rule)]) (I' := I) (L' := L) (R' := zw_RC 14 4 la) rfl ?_
    refine zv_if_eq (tgt := 31) (zs_at rfl) (by decide) (fun c14 => ?_) (fun c14 => ?_)
    · have _c := c14
      refine zv_run 1 (pc' := 32) (lo' := [some (.ref 0), some (.int rule), some (.int i), some (.int what), some (.ref w)]) (st' := [.int (-1)]) (I' := I) (L' := L) (R' := zw_RC 14 4 la) rfl ?_
      exact zv_iret (zs_at rfl) rfl ⟨Nat.le_refl _, Nat.le_refl _⟩ (zw_to rfl rfl rfl rfl)
    · have _c := c14
      refine zv_run 1 (pc' := 19) (lo' := [some (.ref 0), some (.int rule), some (.int i), some (.int what), some (.ref w)]) (st' := [.ref w]) (I' := I) (L' := L) (R' := zw_RC 14 4 la) rfl ?_
      refine zv_ifnull (zs_at rfl) ?_
      refine zv_run 1 (pc' := 23) (lo' := [some (.ref 0), some (.int rule), some (.int i), some (.int what), some (.ref w)]) (st' := [.int what]) (I' := I) (L' := L) (R' := zw_RC 14 4 la) rfl ?_
      refine zv_if_lt (tgt := 31) (zs_at rfl) (by decide) (fun c23 => ?_) (fun c23 => ?_)
      · have _c := c23
        refine zv_run 1 (pc' := 32) (lo' := [some (.ref 0), some (.int rule), some (.int i), some (.int what), some (.ref w)]) (st' := [.int (-1)]) (I' := I) (L' := L) (R' := zw_RC 14 4 la) rfl ?_
        exact zv_iret (zs_at rfl) rfl ⟨Nat.le_refl _, Nat.le_refl _⟩ (zw_to rfl rfl rfl rfl)
      · have _c := c23
        refine zv_run 2 (pc' := 28) (lo' := [some (.ref 0), some (.int rule), some (.int i), some (.int what), some (.ref w)]) (st' := [.int 3, .int what]) (I' := I) (L' := L) (R' := zw_RC 14 4 la) rfl ?_
        refine zv_icmp_le (tgt := 33) (zs_at rfl) (by decide) (fun c28 => ?_) (fun c28 => ?_)
        · have _c := c28
          exact absurd hno (by unfold q_evok; rw [hw8]; dsimp only; rw [if_neg c14, if_neg c23, if_pos c28]; exact fun q => by cases q)
        · have _c := c28
          refine zv_run 1 (pc' := 32) (lo' := [some (.ref 0), some (.int rule), some (.int i), some (.int what), some (.ref w)]) (st' := [.int (-1)]) (I' := I) (L' := L) (R' := zw_RC 14 4 la) rfl ?_
          exact zv_iret (zs_at rfl) rfl ⟨Nat.le_refl _, Nat.le_refl _⟩ (zw_to rfl rfl rfl rfl)
theorem ct_X9_evening_no {d : Nat} {I : zx_I} {L : zx_L} {h sp : Nat} {la : Option Nat} {rule i what : Int32} (hh : hsp h sp) (hno : q_evok I h rule i what = none) : zx_M0 mm_X9_evening (d + 1) 0 0 [.ref 0, .int rule, .int i, .int what] zw_SC I L (zw_RC h sp la) (zw_ret (some (.int (-1))) zw_SC I L (zw_RC h sp la)) := by
  rcases hh with ⟨rfl, rfl⟩ | ⟨rfl, rfl⟩
  · exact ct_X9_evening_no_4 hno
  · exact ct_X9_evening_no_14 hno
theorem ct_X9_evening_4 {d : Nat} {I : zx_I} {L : zx_L} {la : Option Nat} {rule i what : Int32} {w0 : Nat} (hok : q_evok I 4 rule i what = some w0) (hr : rn_ok (q_ask I 4 rule) (q_L L) 4) : zx_M0 mm_X9_evening (d + 5) 0 0 [.ref 0, .int rule, .int i, .int what] zw_SC I L (zw_RC 4 14 la) (zw_ret (some (.int (q_evv (q_end I L 4 rule).1 w0 what))) zw_SC (q_end I L 4 rule).1 (q_L L) (zw_RC 4 14 (q_end I L 4 rule).2)) := by
  refine zv_entry gd_X9_evening (Nat.le_of_ble_eq_true rfl) ?_
  refine zv_run 3 (pc' := 5) (lo' := [some (.ref 0), some (.int rule), some (.int i), some (.int what), none]) (st' := [.int i, .ref 4]) (I' := I) (L' := L) (R' := zw_RC 4 14 la) rfl ?_
  refine zv_cV (M' := mm_X5_who) (ci := 5) (a := 4) (av := [.int i]) (st := []) (r := some (va_rf (fh_who I 4 i))) (I' := I) (L' := L) (R' := zw_RC 4 14 la) rfl zc_9_85 gd_X5_who rfl rfl rfl (Nat.le_of_ble_eq_true rfl) (ct_X5_who (d := _) (Or.inl rfl)) ⟨Nat.le_refl _, Nat.le_refl _⟩ ?_
  rcases hw8 : fh_who I 4 i with _ | w
  · refine zv_run 0 (pc' := 8) (lo' := [some (.ref 0), some (.int rule), some (.int i), some (.int what), none]) (st' := [.null]) (I' := I) (L' := L) (R' := zw_RC 4 14 la) rfl ?_
    refine zv_run 2 (pc' := 11) (lo' := [some (.ref 0), some (.int rule), some (.int i), some (.int what), some (.null)]) (st' := [.int rule]) (I' := I) (L' := L) (R' := zw_RC 4 14 la) rfl ?_
    refine zv_cS (M' := mm_X9_isRule) (av := [.int rule]) (st := []) (r := some (.int (q_rule rule))) (I' := I) (L' := L) (R' := zw_RC 4 14 la) rfl zc_9_152 gd_X9_isRule rfl (Nat.le_of_ble_eq_true rfl) (ct_X9_isRule (d := _)) ⟨Nat.le_refl _, Nat.le_refl _⟩ ?_
    refine zv_run 0 (pc' := 14) (lo' := [some (.ref 0), some (.int rule), some (.int i), some (.int what), some (.null)]) (st' := [.int (q_rule rule)]) (I' := I) (L' := L) (R' := zw_RC 4 14 la) rfl ?_
    refine zv_if_eq (tgt := 31) (zs_at rfl) (by decide) (fun c14 => ?_) (fun c14 => ?_)
    · have _c := c14
      refine zv_run 1 (pc' := 32) (lo' := [some (.ref 0), some (.int rule), some (.int i), some (.int what), some (.null)]) (st' := [.int (-1)]) (I' := I) (L' := L) (R' := zw_RC 4 14 la) rfl ?_
      exact zv_iret (zs_at rfl) rfl ⟨Nat.le_refl _, Nat.le_refl _⟩ (absurd hok (by unfold q_evok; rw [hw8]; first | (exact fun q => by cases q) | (dsimp only; first | (rw [if_pos c14]; exact fun q => by cases q) | (rw [if_neg c14, if_pos c23]; exact fun q => by cases q) | (rw [if_neg c14, if_neg c23, if_neg c28]; exact fun q => by cases q))))
    · have _c := c14
      refine zv_run 1 (pc' := 19) (lo' := [some (.ref 0), some (.int rule), some (.int i), some (.int what), some (.null)]) (st' := [.null]) (I' := I) (L' := L) (R' := zw_RC 4 14 la) rfl ?_
      refine zv_ifnullN (tgt := 31) (zs_at rfl) (by decide) ?_
      refine zv_run 1 (pc' := 32) (lo' := [some (.ref 0), some (.int rule), some (.int i), some (.int what), some (.null)]) (st' := [.int (-1)]) (I' := I) (L' := L) (R' := zw_RC 4 14 la) rfl ?_
      exact zv_iret (zs_at rfl) rfl ⟨Nat.le_refl _, Nat.le_refl _⟩ (absurd hok (by unfold q_evok; rw [hw8]; first | (exact fun q => by cases q) | (dsimp only; first | (rw [if_pos c14]; exact fun q => by cases q) | (rw [if_neg c14, if_pos c23]; exact fun q => by cases q) | (rw [if_neg c14, if_neg c23, if_neg c28]; exact fun q => by cases q))))
  · refine zv_run 0 (pc' := 8) (lo' := [some (.ref 0), some (.int rule), some (.int i), some (.int what), none]) (st' := [.ref w]) (I' := I) (L' := L) (R' := zw_RC 4 14 la) rfl ?_
    have hwf := fh_who_bt (Or.inl rfl) hw8
    refine zv_run 2 (pc' := 11) (lo' := [some (.ref 0), some (.int rule), some (.int i), some (.int what), some (.ref w)]) (st' := [.int rule]) (I' := I) (L' := L) (R' := zw_RC 4 14 la) rfl ?_
    refine zv_cS (M' := mm_X9_isRule) (av := [.int rule]) (st := []) (r := some (.int (q_rule rule))) (I' := I) (L' := L) (R' := zw_RC 4 14 la) rfl zc_9_152 gd_X9_isRule rfl (Nat.le_of_ble_eq_true rfl) (ct_X9_isRule (d := _)) ⟨Nat.le_refl _, Nat.le_refl _⟩ ?_
    refine zv_run 0 (pc' := 14) (lo' := [some (.ref 0), some (.int rule), some (.int i), some (.int what), some (.ref w)]) (st' := [.int (q_rule rule)]) (I' := I) (L' := L) (R' := zw_RC 4 14 la) rfl ?_
    refine zv_if_eq (tgt := 31) (zs_at rfl) (by decide) (fun c14 => ?_) (fun c14 => ?_)
    · have _c := c14
      refine zv_run 1 (pc' := 32) (lo' := [some (.ref 0), some (.int rule), some (.int i), some (.int what), some (.ref w)]) (st' := [.int (-1)]) (I' := I) (L' := L) (R' := zw_RC 4 14 la) rfl ?_
      exact zv_iret (zs_at rfl) rfl ⟨Nat.le_refl _, Nat.le_refl _⟩ (absurd hok (by unfold q_evok; rw [hw8]; first | (exact fun q => by cases q) | (dsimp only; first | (rw [if_pos c14]; exact fun q => by cases q) | (rw [if_neg c14, if_pos c23]; exact fun q => by cases q) | (rw [if_neg c14, if_neg c23, if_neg c28]; exact fun q => by cases q))))
    · have _c := c14
      refine zv_run 1 (pc' := 19) (lo' := [some (.ref 0), some (.int rule), some (.int i), some (.int what), some (.ref w)]) (st' := [.ref w]) (I' := I) (L' := L) (R' := zw_RC 4 14 la) rfl ?_
      refine zv_ifnull (zs_at rfl) ?_
      refine zv_run 1 (pc' := 23) (lo' := [some (.ref 0), some (.int rule), some (.int i), some (.int what), some (.ref w)]) (st' := [.int what]) (I' := I) (L' := L) (R' := zw_RC 4 14 la) rfl ?_
      refine zv_if_lt (tgt := 31) (zs_at rfl) (by decide) (fun c23 => ?_) (fun c23 => ?_)
      · have _c := c23
        refine zv_run 1 (pc' := 32) (lo' := [some (.ref 0), some (.int rule), some (.int i), some (.int what), some (.ref w)]) (st' := [.int (-1)]) (I' := I) (L' := L) (R' := zw_RC 4 14 la) rfl ?_
        exact zv_iret (zs_at rfl) rfl ⟨Nat.le_refl _, Nat.le_refl _⟩ (absurd hok (by unfold q_evok; rw [hw8]; first | (exact fun q => by cases q) | (dsimp only; first | (rw [if_pos c14]; exact fun q => by cases q) | (rw [if_neg c14, if_pos c23]; exact fun q => by cases q) | (rw [if_neg c14, if_neg c23, if_neg c28]; exact fun q => by cases q))))
      · have _c := c23
        refine zv_run 2 (pc' := 28) (lo' := [some (.ref 0), some (.int rule), some (.int i), some (.int what), some (.ref w)]) (st' := [.int 3, .int what]) (I' := I) (L' := L) (R' := zw_RC 4 14 la) rfl ?_
        refine zv_icmp_le (tgt := 33) (zs_at rfl) (by decide) (fun c28 => ?_) (fun c28 => ?_)
        · have _c := c28
          refine zv_run 2 (pc' := 35) (lo' := [some (.ref 0), some (.int rule), some (.int i), some (.int what), some (.ref w)]) (st' := [.int rule, .ref 0]) (I' := I) (L' := L) (R' := zw_RC 4 14 la) rfl ?_
          refine zv_cV (M' := mm_X9_ask) (ci := 9) (a := 0) (av := [.int rule]) (st := []) (r := none) (I' := (q_ask I 4 rule)) (L' := (q_L L)) (R' := zw_RC 4 14 la) rfl zc_9_156 gd_X9_ask rfl rfl rfl (Nat.le_of_ble_eq_true rfl) (ct_X9_ask_4 (d := _)) ⟨Nat.le_refl _, Nat.le_refl _⟩ ?_
          refine zv_run 0 (pc' := 38) (lo' := [some (.ref 0), some (.int rule), some (.int i), some (.int what), some (.ref w)]) (st' := []) (I' := (q_ask I 4 rule)) (L' := (q_L L)) (R' := zw_RC 4 14 la) rfl ?_
          refine zv_run 6 (pc' := 50) (lo' := [some (.ref 0), some (.int rule), some (.int i), some (.int what), some (.ref w)]) (st' := [.ref 34, .ref 4, .ref 36]) (I' := (q_ask I 4 rule)) (L' := (q_L L)) (R' := zw_RC 4 14 la) rfl ?_
          refine zv_cV (M' := mm_X3_run) (ci := 3) (a := 36) (av := [.ref 4, .ref 34]) (st := []) (r := some (.int (fr_score (q_ask I 4 rule) (q_L L) 4))) (I' := (fr_end (q_ask I 4 rule) (q_L L) 4).1) (L' := (q_L L)) (R' := zw_RC 4 14 (fr_end (q_ask I 4 rule) (q_L L) 4).2) rfl zc_9_159 gd_X3_run rfl rfl rfl (Nat.le_of_ble_eq_true rfl) (ct_X3_run (d := _) (Or.inl rfl) hr) ⟨Nat.le_refl _, Nat.le_refl _⟩ ?_
          refine zv_run 0 (pc' := 53) (lo' := [some (.ref 0), some (.int rule), some (.int i), some (.int what), some (.ref w)]) (st' := [.int (fr_score (q_ask I 4 rule) (q_L L) 4)]) (I' := (fr_end (q_ask I 4 rule) (q_L L) 4).1) (L' := (q_L L)) (R' := zw_RC 4 14 (fr_end (q_ask I 4 rule) (q_L L) 4).2) rfl ?_
          refine zv_run 2 (pc' := 55) (lo' := [some (.ref 0), some (.int rule), some (.int i), some (.int what), some (.ref w)]) (st' := [.int what]) (I' := (fr_end (q_ask I 4 rule) (q_L L) 4).1) (L' := (q_L L)) (R' := zw_RC 4 14 (fr_end (q_ask I 4 rule) (q_L L) 4).2) rfl ?_
          by_cases t55 : what.toInt < 0 ∨ 2 < what.toInt
          · refine zv_tableOut (tgt := 98) (zs_at rfl) t55 rfl ?_
            refine zv_run 1 (pc' := 100) (lo' := [some (.ref 0), some (.int rule), some (.int i), some (.int what), some (.ref w)]) (st' := [.ref w]) (I' := (fr_end (q_ask I 4 rule) (q_L L) 4).1) (L' := (q_L L)) (R' := zw_RC 4 14 (fr_end (q_ask I 4 rule) (q_L L) 4).2) rfl ?_
            refine zv_get (ci := 2) (k := 13) (t := 0) (zs_at rfl) (zf_ok rfl) (bt_S hwf.1) rfl ?_
            refine zv_run 0 (pc' := 103) (lo' := [some (.ref 0), some (.int rule), some (.int i), some (.int what), some (.ref w)]) (st' := [.int ((fr_end (q_ask I 4 rule) (q_L L) 4).1 w 13)]) (I' := (fr_end (q_ask I 4 rule) (q_L L) 4).1) (L' := (q_L L)) (R' := zw_RC 4 14 (fr_end (q_ask I 4 rule) (q_L L) 4).2) rfl ?_
            exact zv_iret (zs_at rfl) rfl ⟨Nat.le_refl _, Nat.le_refl _⟩ (zw_to (by have hww : q_evok I 4 rule i what = some w := (by unfold q_evok; rw [hw8]; dsimp only; rw [if_neg c14, if_neg c23, if_pos c28]); rw [hok] at hww; cases hww; unfold q_evv; rw [if_neg (by omega), if_neg (by omega), if_neg (by omega)]; rfl) rfl rfl rfl)
          · rcases (show what.toInt = 0 ∨ what.toInt = 1 ∨ what.toInt = 2 from by omega) with t55e | t55e | t55e
            · refine zv_tableIn (off := 25) (tgt := 80) (zs_at rfl) (by omega) (by omega) (by rw [t55e]; rfl) rfl ?_
              refine zv_run 1 (pc' := 82) (lo' := [some (.ref 0), some (.int rule), some (.int i), some (.int what), some (.ref w)]) (st' := [.ref w]) (I' := (fr_end (q_ask I 4 rule) (q_L L) 4).1) (L' := (q_L L)) (R' := zw_RC 4 14 (fr_end (q_ask I 4 rule) (q_L L) 4).2) rfl ?_
              refine zv_get (ci := 2) (k := 10) (t := 0) (zs_at rfl) (zf_ok rfl) (bt_S hwf.1) rfl ?_
              refine zv_run 0 (pc' := 85) (lo' := [some (.ref 0), some (.int rule), some (.int i), some (.int what), some (.ref w)]) (st' := [.int ((fr_end (q_ask I 4 rule) (q_L L) 4).1 w 10)]) (I' := (fr_end (q_ask I 4 rule) (q_L L) 4).1) (L' := (q_L L)) (R' := zw_RC 4 14 (fr_end (q_ask I 4 rule) (q_L L) 4).2) rfl ?_
              exact zv_iret (zs_at rfl) rfl ⟨Nat.le_refl _, Nat.le_refl _⟩ (zw_to (by have hww : q_evok I 4 rule i what = some w := (by unfold q_evok; rw [hw8]; dsimp only; rw [if_neg c14, if_neg c23, if_pos c28]); rw [hok] at hww; cases hww; unfold q_evv; rw [if_pos t55e]; rfl) rfl rfl rfl)
            · refine zv_tableIn (off := 31) (tgt := 86) (zs_at rfl) (by omega) (by omega) (by rw [t55e]; rfl) rfl ?_
              refine zv_run 1 (pc' := 88) (lo' := [some (.ref 0), some (.int rule), some (.int i), some (.int what), some (.ref w)]) (st' := [.ref w]) (I' := (fr_end (q_ask I 4 rule) (q_L L) 4).1) (L' := (q_L L)) (R' := zw_RC 4 14 (fr_end (q_ask I 4 rule) (q_L L) 4).2) rfl ?_
              refine zv_get (ci := 2) (k := 11) (t := 0) (zs_at rfl) (zf_ok rfl) (bt_S hwf.1) rfl ?_
              refine zv_run 0 (pc' := 91) (lo' := [some (.ref 0), some (.int rule), some (.int i), some (.int what), some (.ref w)]) (st' := [.int ((fr_end (q_ask I 4 rule) (q_L L) 4).1 w 11)]) (I' := (fr_end (q_ask I 4 rule) (q_L L) 4).1) (L' := (q_L L)) (R' := zw_RC 4 14 (fr_end (q_ask I 4 rule) (q_L L) 4).2) rfl ?_
              exact zv_iret (zs_at rfl) rfl ⟨Nat.le_refl _, Nat.le_refl _⟩ (zw_to (by have hww : q_evok I 4 rule i what = some w := (by unfold q_evok; rw [hw8]; dsimp only; rw [if_neg c14, if_neg c23, if_pos c28]); rw [hok] at hww; cases hww; unfold q_evv; rw [if_neg (by omega), if_pos t55e]; rfl) rfl rfl rfl)
            · refine zv_tableIn (off := 37) (tgt := 92) (zs_at rfl) (by omega) (by omega) (by rw [t55e]; rfl) rfl ?_
              refine zv_run 1 (pc' := 94) (lo' := [some (.ref 0), some (.int rule), some (.int i), some (.int what), some (.ref w)]) (st' := [.ref w]) (I' := (fr_end (q_ask I 4 rule) (q_L L) 4).1) (L' := (q_L L)) (R' := zw_RC 4 14 (fr_end (q_ask I 4 rule) (q_L L) 4).2) rfl ?_
              refine zv_get (ci := 2) (k := 12) (t := 0) (zs_at rfl) (zf_ok rfl) (bt_S hwf.1) rfl ?_
              refine zv_run 0 (pc' := 97) (lo' := [some (.ref 0), some (.int rule), some (.int i), some (.int what), some (.ref w)]) (st' := [.int ((fr_end (q_ask I 4 rule) (q_L L) 4).1 w 12)]) (I' := (fr_end (q_ask I 4 rule) (q_L L) 4).1) (L' := (q_L L)) (R' := zw_RC 4 14 (fr_end (q_ask I 4 rule) (q_L L) 4).2) rfl ?_
              exact zv_iret (zs_at rfl) rfl ⟨Nat.le_refl _, Nat.le_refl _⟩ (zw_to (by have hww : q_evok I 4 rule i what = some w := (by unfold q_evok; rw [hw8]; dsimp only; rw [if_neg c14, if_neg c23, if_pos c28]); rw [hok] at hww; cases hww; unfold q_evv; rw [if_neg (by omega), if_neg (by omega), if_pos t55e]; rfl) rfl rfl rfl)
        · have _c := c28
          refine zv_run 1 (pc' := 32) (lo' := [some (.ref 0), some (.int rule), some (.int i), some (.int what), some (.ref w)]) (st' := [.int (-1)]) (I' := I) (L' := L) (R' := zw_RC 4 14 la) rfl ?_
          exact zv_iret (zs_at rfl) rfl ⟨Nat.le_refl _, Nat.le_refl _⟩ (absurd hok (by unfold q_evok; rw [hw8]; first | (exact fun q => by cases q) | (dsimp only; first | (rw [if_pos c14]; exact fun q => by cases q) | (rw [if_neg c14, if_pos c23]; exact fun q => by cases q) | (rw [if_neg c14, if_neg c23, if_neg c28]; exact fun q => by cases q))))
theorem ct_X9_evening_14 {d : Nat} {I : zx_I} {L : zx_L} {la : Option Nat} {rule i what : Int32} {w0 : Nat} (hok : q_evok I 14 rule i what = some w0) (hr : rn_ok (q_ask I 14 rule) (q_L L) 14) : zx_M0 mm_X9_evening (d + 5) 0 0 [.ref 0, .int rule, .int i, .int what] zw_SC I L (zw_RC 14 4 la) (zw_ret (some (.int (q_evv (q_end I L 14 rule).1 w0 what))) zw_SC (q_end I L 14 rule).1 (q_L L) (zw_RC 14 4 (q_end I L 14 rule).2)) := by
  refine zv_entry gd_X9_evening (Nat.le_of_ble_eq_true rfl) ?_
  refine zv_run 3 (pc' := 5) (lo' := [some (.ref 0), some (.int rule), some (.int i), some (.int what), none]) (st' := [.int i, .ref 14]) (I' := I) (L' := L) (R' := zw_RC 14 4 la) rfl ?_
  refine zv_cV (M' := mm_X5_who) (ci := 5) (a := 14) (av := [.int i]) (st := []) (r := some (va_rf (fh_who I 14 i))) (I' := I) (L' := L) (R' := zw_RC 14 4 la) rfl zc_9_85 gd_X5_who rfl rfl rfl (Nat.le_of_ble_eq_true rfl) (ct_X5_who (d := _) (Or.inr rfl)) ⟨Nat.le_refl _, Nat.le_refl _⟩ ?_
  rcases hw8 : fh_who I 14 i with _ | w
  · refine zv_run 0 (pc' := 8) (lo' := [some (.ref 0), some (.int rule), some (.int i), some (.int what), none]) (st' := [.null]) (I' := I) (L' := L) (R' := zw_RC 14 4 la) rfl ?_
    refine zv_run 2 (pc' := 11) (lo' := [some (.ref 0), some (.int rule), some (.int i), some (.int what), some (.null)]) (st' := [.int rule]) (I' := I) (L' := L) (R' := zw_RC 14 4 la) rfl ?_
    refine zv_cS (M' := mm_X9_isRule) (av := [.int rule]) (st := []) (r := some (.int (q_rule rule))) (I' := I) (L' := L) (R' := zw_RC 14 4 la) rfl zc_9_152 gd_X9_isRule rfl (Nat.le_of_ble_eq_true rfl) (ct_X9_isRule (d := _)) ⟨Nat.le_refl _, Nat.le_refl _⟩ ?_
    refine zv_run 0 (pc' := 14) (lo' := [some (.ref 0), some (.int rule), some (.int i), some (.int what), some (.null)]) (st' := [.int (q_rule rule)]) (I' := I) (L' := L) (R' := zw_RC 14 4 la) rfl ?_
    refine zv_if_eq (tgt := 31) (zs_at rfl) (by decide) (fun c14 => ?_) (fun c14 => ?_)
    · have _c := c14
      refine zv_run 1 (pc' := 32) (lo' := [some (.ref 0), some (.int rule), some (.int i), some (.int what), some (.null)]) (st' := [.int (-1)]) (I' := I) (L' := L) (R' := zw_RC 14 4 la) rfl ?_
      exact zv_iret (zs_at rfl) rfl ⟨Nat.le_refl _, Nat.le_refl _⟩ (absurd hok (by unfold q_evok; rw [hw8]; first | (exact fun q => by cases q) | (dsimp only; first | (rw [if_pos c14]; exact fun q => by cases q) | (rw [if_neg c14, if_pos c23]; exact fun q => by cases q) | (rw [if_neg c14, if_neg c23, if_neg c28]; exact fun q => by cases q))))
    · have _c := c14
      refine zv_run 1 (pc' := 19) (lo' := [some (.ref 0), some (.int rule), some (.int i), some (.int what), some (.null)]) (st' := [.null]) (I' := I) (L' := L) (R' := zw_RC 14 4 la) rfl ?_
      refine zv_ifnullN (tgt := 31) (zs_at rfl) (by decide) ?_
      refine zv_run 1 (pc' := 32) (lo' := [some (.ref 0), some (.int rule), some (.int i), some (.int what), some (.null)]) (st' := [.int (-1)]) (I' := I) (L' := L) (R' := zw_RC 14 4 la) rfl ?_
      exact zv_iret (zs_at rfl) rfl ⟨Nat.le_refl _, Nat.le_refl _⟩ (absurd hok (by unfold q_evok; rw [hw8]; first | (exact fun q => by cases q) | (dsimp only; first | (rw [if_pos c14]; exact fun q => by cases q) | (rw [if_neg c14, if_pos c23]; exact fun q => by cases q) | (rw [if_neg c14, if_neg c23, if_neg c28]; exact fun q => by cases q))))
  · refine zv_run 0 (pc' := 8) (lo' := [some (.ref 0), some (.int rule), some (.int i), some (.int what), none]) (st' := [.ref w]) (I' := I) (L' := L) (R' := zw_RC 14 4 la) rfl ?_
    have hwf := fh_who_bt (Or.inr rfl) hw8
    refine zv_run 2 (pc' := 11) (lo' := [some (.ref 0), some (.int rule), some (.int i), some (.int what), some (.ref w)]) (st' := [.int rule]) (I' := I) (L' := L) (R' := zw_RC 14 4 la) rfl ?_
    refine zv_cS (M' := mm_X9_isRule) (av := [.int rule]) (st := []) (r := some (.int (q_rule rule))) (I' := I) (L' := L) (R' := zw_RC 14 4 la) rfl zc_9_152 gd_X9_isRule rfl (Nat.le_of_ble_eq_true rfl) (ct_X9_isRule (d := _)) ⟨Nat.le_refl _, Nat.le_refl _⟩ ?_
    refine zv_run 0 (pc' := 14) (lo' := [some (.ref 0), some (.int rule), some (.int i), some (.int what), some (.ref w)]) (st' := [.int (q_rule rule)]) (I' := I) (L' := L) (R' := zw_RC 14 4 la) rfl ?_
    refine zv_if_eq (tgt := 31) (zs_at rfl) (by decide) (fun c14 => ?_) (fun c14 => ?_)
    · have _c := c14
      refine zv_run 1 (pc' := 32) (lo' := [some (.ref 0), some (.int rule), some (.int i), some (.int what), some (.ref w)]) (st' := [.int (-1)]) (I' := I) (L' := L) (R' := zw_RC 14 4 la) rfl ?_
      exact zv_iret (zs_at rfl) rfl ⟨Nat.le_refl _, Nat.le_refl _⟩ (absurd hok (by unfold q_evok; rw [hw8]; first | (exact fun q => by cases q) | (dsimp only; first | (rw [if_pos c14]; exact fun q => by cases q) | (rw [if_neg c14, if_pos c23]; exact fun q => by cases q) | (rw [if_neg c14, if_neg c23, if_neg c28]; exact fun q => by cases q))))
    · have _c := c14
      refine zv_run 1 (pc' := 19) (lo' := [some (.ref 0), some (.int rule), some (.int i), some (.int what), some (.ref w)]) (st' := [.ref w]) (I' := I) (L' := L) (R' := zw_RC 14 4 la) rfl ?_
      refine zv_ifnull (zs_at rfl) ?_
      refine zv_run 1 (pc' := 23) (lo' := [some (.ref 0), some (.int rule), some (.int i), some (.int what), some (.ref w)]) (st' := [.int what]) (I' := I) (L' := L) (R' := zw_RC 14 4 la) rfl ?_
      refine zv_if_lt (tgt := 31) (zs_at rfl) (by decide) (fun c23 => ?_) (fun c23 => ?_)
      · have _c := c23
        refine zv_run 1 (pc' := 32) (lo' := [some (.ref 0), some (.int rule), some (.int i), some (.int what), some (.ref w)]) (st' := [.int (-1)]) (I' := I) (L' := L) (R' := zw_RC 14 4 la) rfl ?_
        exact zv_iret (zs_at rfl) rfl ⟨Nat.le_refl _, Nat.le_refl _⟩ (absurd hok (by unfold q_evok; rw [hw8]; first | (exact fun q => by cases q) | (dsimp only; first | (rw [if_pos c14]; exact fun q => by cases q) | (rw [if_neg c14, if_pos c23]; exact fun q => by cases q) | (rw [if_neg c14, if_neg c23, if_neg c28]; exact fun q => by cases q))))
      · have _c := c23
        refine zv_run 2 (pc' := 28) (lo' := [some (.ref 0), some (.int rule), some (.int i), some (.int what), some (.ref w)]) (st' := [.int 3, .int what]) (I' := I) (L' := L) (R' := zw_RC 14 4 la) rfl ?_
        refine zv_icmp_le (tgt := 33) (zs_at rfl) (by decide) (fun c28 => ?_) (fun c28 => ?_)
        · have _c := c28
          refine zv_run 2 (pc' := 35) (lo' := [some (.ref 0), some (.int rule), some (.int i), some (.int what), some (.ref w)]) (st' := [.int rule, .ref 0]) (I' := I) (L' := L) (R' := zw_RC 14 4 la) rfl ?_
          refine zv_cV (M' := mm_X9_ask) (ci := 9) (a := 0) (av := [.int rule]) (st := []) (r := none) (I' := (q_ask I 14 rule)) (L' := (q_L L)) (R' := zw_RC 14 4 la) rfl zc_9_156 gd_X9_ask rfl rfl rfl (Nat.le_of_ble_eq_true rfl) (ct_X9_ask_14 (d := _)) ⟨Nat.le_refl _, Nat.le_refl _⟩ ?_
          refine zv_run 0 (pc' := 38) (lo' := [some (.ref 0), some (.int rule), some (.int i), some (.int what), some (.ref w)]) (st' := []) (I' := (q_ask I 14 rule)) (L' := (q_L L)) (R' := zw_RC 14 4 la) rfl ?_
          refine zv_run 6 (pc' := 50) (lo' := [some (.ref 0), some (.int rule), some (.int i), some (.int what), some (.ref w)]) (st' := [.ref 34, .ref 14, .ref 36]) (I' := (q_ask I 14 rule)) (L' := (q_L L)) (R' := zw_RC 14 4 la) rfl ?_
          refine zv_cV (M' := mm_X3_run) (ci := 3) (a := 36) (av := [.ref 14, .ref 34]) (st := []) (r := some (.int (fr_score (q_ask I 14 rule) (q_L L) 14))) (I' := (fr_end (q_ask I 14 rule) (q_L L) 14).1) (L' := (q_L L)) (R' := zw_RC 14 4 (fr_end (q_ask I 14 rule) (q_L L) 14).2) rfl zc_9_159 gd_X3_run rfl rfl rfl (Nat.le_of_ble_eq_true rfl) (ct_X3_run (d := _) (Or.inr rfl) hr) ⟨Nat.le_refl _, Nat.le_refl _⟩ ?_
          refine zv_run 0 (pc' := 53) (lo' := [some (.ref 0), some (.int rule), some (.int i), some (.int what), some (.ref w)]) (st' := [.int (fr_score (q_ask I 14 rule) (q_L L) 14)]) (I' := (fr_end (q_ask I 14 rule) (q_L L) 14).1) (L' := (q_L L)) (R' := zw_RC 14 4 (fr_end (q_ask I 14 rule) (q_L L) 14).2) rfl ?_
          refine zv_run 2 (pc' := 55) (lo' := [some (.ref 0), some (.int rule), some (.int i), some (.int what), some (.ref w)]) (st' := [.int what]) (I' := (fr_end (q_ask I 14 rule) (q_L L) 14).1) (L' := (q_L L)) (R' := zw_RC 14 4 (fr_end (q_ask I 14 rule) (q_L L) 14).2) rfl ?_
          by_cases t55 : what.toInt < 0 ∨ 2 < what.toInt
          · refine zv_tableOut (tgt := 98) (zs_at rfl) t55 rfl ?_
            refine zv_run 1 (pc' := 100) (lo' := [some (.ref 0), some (.int rule), some (.int i), some (.int what), some (.ref w)]) (st' := [.ref w]) (I' := (fr_end (q_ask I 14 rule) (q_L L) 14).1) (L' := (q_L L)) (R' := zw_RC 14 4 (fr_end (q_ask I 14 rule) (q_L L) 14).2) rfl ?_
            refine zv_get (ci := 2) (k := 13) (t := 0) (zs_at rfl) (zf_ok rfl) (bt_S hwf.1) rfl ?_
            refine zv_run 0 (pc' := 103) (lo' := [some (.ref 0), some (.int rule), some (.int i), some (.int what), some (.ref w)]) (st' := [.int ((fr_end (q_ask I 14 rule) (q_L L) 14).1 w 13)]) (I' := (fr_end (q_ask I 14 rule) (q_L L) 14).1) (L' := (q_L L)) (R' := zw_RC 14 4 (fr_end (q_ask I 14 rule) (q_L L) 14).2) rfl ?_
            exact zv_iret (zs_at rfl) rfl ⟨Nat.le_refl _, Nat.le_refl _⟩ (zw_to (by have hww : q_evok I 14 rule i what = some w := (by unfold q_evok; rw [hw8]; dsimp only; rw [if_neg c14, if_neg c23, if_pos c28]); rw [hok] at hww; cases hww; unfold q_evv; rw [if_neg (by omega), if_neg (by omega), if_neg (by omega)]; rfl) rfl rfl rfl)
          · rcases (show what.toInt = 0 ∨ what.toInt = 1 ∨ what.toInt = 2 from by omega) with t55e | t55e | t55e
            · refine zv_tableIn (off := 25) (tgt := 80) (zs_at rfl) (by omega) (by omega) (by rw [t55e]; rfl) rfl ?_
              refine zv_run 1 (pc' := 82) (lo' := [some (.ref 0), some (.int rule), some (.int i), some (.int what), some (.ref w)]) (st' := [.ref w]) (I' := (fr_end (q_ask I 14 rule) (q_L L) 14).1) (L' := (q_L L)) (R' := zw_RC 14 4 (fr_end (q_ask I 14 rule) (q_L L) 14).2) rfl ?_
              refine zv_get (ci := 2) (k := 10) (t := 0) (zs_at rfl) (zf_ok rfl) (bt_S hwf.1) rfl ?_
              refine zv_run 0 (pc' := 85) (lo' := [some (.ref 0), some (.int rule), some (.int i), some (.int what), some (.ref w)]) (st' := [.int ((fr_end (q_ask I 14 rule) (q_L L) 14).1 w 10)]) (I' := (fr_end (q_ask I 14 rule) (q_L L) 14).1) (L' := (q_L L)) (R' := zw_RC 14 4 (fr_end (q_ask I 14 rule) (q_L L) 14).2) rfl ?_
              exact zv_iret (zs_at rfl) rfl ⟨Nat.le_refl _, Nat.le_refl _⟩ (zw_to (by have hww : q_evok I 14 rule i what = some w := (by unfold q_evok; rw [hw8]; dsimp only; rw [if_neg c14, if_neg c23, if_pos c28]); rw [hok] at hww; cases hww; unfold q_evv; rw [if_pos t55e]; rfl) rfl rfl rfl)
            · refine zv_tableIn (off := 31) (tgt := 86) (zs_at rfl) (by omega) (by omega) (by rw [t55e]; rfl) rfl ?_
              refine zv_run 1 (pc' := 88) (lo' := [some (.ref 0), some (.int rule), some (.int i), some (.int what), some (.ref w)]) (st' := [.ref w]) (I' := (fr_end (q_ask I 14 rule) (q_L L) 14).1) (L' := (q_L L)) (R' := zw_RC 14 4 (fr_end (q_ask I 14 rule) (q_L L) 14).2) rfl ?_
              refine zv_get (ci := 2) (k := 11) (t := 0) (zs_at rfl) (zf_ok rfl) (bt_S hwf.1) rfl ?_
              refine zv_run 0 (pc' := 91) (lo' := [some (.ref 0), some (.int rule), some (.int i), some (.int what), some (.ref w)]) (st' := [.int ((fr_end (q_ask I 14 rule) (q_L L) 14).1 w 11)]) (I' := (fr_end (q_ask I 14 rule) (q_L L) 14).1) (L' := (q_L L)) (R' := zw_RC 14 4 (fr_end (q_ask I 14 rule) (q_L L) 14).2) rfl ?_
              exact zv_iret (zs_at rfl) rfl ⟨Nat.le_refl _, Nat.le_refl _⟩ (zw_to (by have hww : q_evok I 14 rule i what = some w := (by unfold q_evok; rw [hw8]; dsimp only; rw [if_neg c14, if_neg c23, if_pos c28]); rw [hok] at hww; cases hww; unfold q_evv; rw [if_neg (by omega), if_pos t55e]; rfl) rfl rfl rfl)
            · refine zv_tableIn (off := 37) (tgt := 92) (zs_at rfl) (by omega) (by omega) (by rw [t55e]; rfl) rfl ?_
              refine zv_run 1 (pc' := 94) (lo' := [some (.ref 0), some (.int rule), some (.int i), some (.int what), some (.ref w)]) (st' := [.ref w]) (I' := (fr_end (q_ask I 14 rule) (q_L L) 14).1) (L' := (q_L L)) (R' := zw_RC 14 4 (fr_end (q_ask I 14 rule) (q_L L) 14).2) rfl ?_
              refine zv_get (ci := 2) (k := 12) (t := 0) (zs_at rfl) (zf_ok rfl) (bt_S hwf.1) rfl ?_
              refine zv_run 0 (pc' := 97) (lo' := [some (.ref 0), some (.int rule), some (.int i), some (.int what), some (.ref w)]) (st' := [.int ((fr_end (q_ask I 14 rule) (q_L L) 14).1 w 12)]) (I' := (fr_end (q_ask I 14 rule) (q_L L) 14).1) (L' := (q_L L)) (R' := zw_RC 14 4 (fr_end (q_ask I 14 rule) (q_L L) 14).2) rfl ?_
              exact zv_iret (zs_at rfl) rfl ⟨Nat.le_refl _, Nat.le_refl _⟩ (zw_to (by have hww : q_evok I 14 rule i what = some w := (by unfold q_evok; rw [hw8]; dsimp only; rw [if_neg c14, if_neg c23, if_pos c28]); rw [hok] at hww; cases hww; unfold q_evv; rw [if_neg (by omega), if_neg (by omega), if_pos t55e]; rfl) rfl rfl rfl)
        · have _c := c28
          refine zv_run 1 (pc' := 32) (lo' := [some (.ref 0), some (.int rule), some (.int i), some (.int what), some (.ref w)]) (st' := [.int (-1)]) (I' := I) (L' := L) (R' := zw_RC 14 4 la) rfl ?_
          exact zv_iret (zs_at rfl) rfl ⟨Nat.le_refl _, Nat.le_refl _⟩ (absurd hok (by unfold q_evok; rw [hw8]; first | (exact fun q => by cases q) | (dsimp only; first | (rw [if_pos c14]; exact fun q => by cases q) | (rw [if_neg c14, if_pos c23]; exact fun q => by cases q) | (rw [if_neg c14, if_neg c23, if_neg c28]; exact fun q => by cases q))))
theorem ct_X9_evening {d : Nat} {I : zx_I} {L : zx_L} {h sp : Nat} {la : Option Nat} {rule i what : Int32} {w0 : Nat} (hh : hsp h sp) (hok : q_evok I h rule i what = some w0) (hr : rn_ok (q_ask I h rule) (q_L L) h) : zx_M0 mm_X9_evening (d + 5) 0 0 [.ref 0, .int rule, .int i, .int what] zw_SC I L (zw_RC h sp la) (zw_ret (some (.int (q_evv (q_end I L h rule).1 w0 what))) zw_SC (q_end I L h rule).1 (q_L L) (zw_RC h sp (q_end I L h rule).2)) := by
  rcases hh with ⟨rfl, rfl⟩ | ⟨rfl, rfl⟩
  · exact ct_X9_evening_4 hok hr
  · exact ct_X9_evening_14 hok hr
def q_scok (rule what : Int32) : Prop := ¬ q_rule rule = 0 ∧ ¬ what < 0 ∧ what ≤ 2
def q_scv (s what : Int32) : Int32 := if what.toInt = 0 then s / 100 else if what.toInt = 1 then s - s / 100 * 100 else s
def q_lfok (I : zx_I) (h : Nat) (rule what : Int32) : Prop := ¬ q_rule rule = 0 ∧ ¬ what < 0 ∧ ¬ what > 7 ∧ (what ≥ 6 ∨ what < I h 1)
def q_lfv (J : zx_I) (what : Int32) : Int32 := if what.toInt = 6 then J 39 2 else if what.toInt = 7 then J 39 0 else ft_unitsIn J what / J 37 2
def q_tpok (rule s n p : Int32) : Prop := ¬ q_rule rule = 0 ∧ ¬ s < 0 ∧ ¬ s > 59 ∧ ¬ n < 1 ∧ ¬ n > 60 ∧ ¬ p < 1 ∧ p ≤ 99
def q_tpm (I : zx_I) (h : Nat) (rule s n p : Int32) : zx_I := zx_uI (zx_uI (zx_uI (q_ask I h rule) 34 5 s) 34 6 n) 34 7 p
theorem ct_X9_score_no_4 {d : Nat} {I : zx_I} {L : zx_L} {la : Option Nat} {rule what : Int32} (hno : ¬ q_scok rule what) : zx_M0 mm_X9_score (d + 1) 0 0 [.ref 0, .int rule, .int what] zw_SC I L (zw_RC 4 14 la) (zw_ret (some (.int (-1))) zw_SC I L (zw_RC 4 14 la)) := by
  refine zv_entry gd_X9_score (Nat.le_of_ble_eq_true rfl) ?_
  refine zv_run 1 (pc' := 1) (lo' := [some (.ref 0), some (.int rule), some (.int what), none]) (st' := [.int rule]) (I' := I) (L' := L) (R' := zw_RC 4 14 la) rfl ?_
  refine zv_cS (M' := mm_X9_isRule) (av := [.int rule]) (st := []) (r := some (.int (q_rule rule))) (I' := I) (L' := L) (R' := zw_RC 4 14 la) rfl zc_9_152 gd_X9_isRule rfl (Nat.le_of_ble_eq_true rfl) (ct_X9_isRule (d := _)) ⟨Nat.le_refl _, Nat.le_refl _⟩ ?_
  refine zv_run 0 (pc' := 4) (lo' := [some (.ref 0), some (.int rule), some (.int what), none]) (st' := [.int (q_rule rule)]) (I' := I) (L' := L) (R' := zw_RC 4 14 la) rfl ?_
  refine zv_if_eq (tgt := 16) (zs_at rfl) (by decide) (fun c4 => ?_) (fun c4 => ?_)
  · have _c := c4
    refine zv_run 1 (pc' := 17) (lo' := [some (.ref 0), some (.int rule), some (.int what), none]) (st' := [.int (-1)]) (I' := I) (L' := L) (R' := zw_RC 4 14 la) rfl ?_
    exact zv_iret (zs_at rfl) rfl ⟨Nat.le_refl _, Nat.le_refl _⟩ (zw_to rfl rfl rfl rfl)
  · have _c := c4
    refine zv_run 1 (pc' := 8) (lo' := [some (.ref 0), some (.int rule), some (.int what), none]) (st' := [.int what]) (I' := I) (L' := L) (R' := zw_RC 4 14 la) rfl ?_
    refine zv_if_lt (tgt := 16) (zs_at rfl) (by decide) (fun c8 => ?_) (fun c8 => ?_)
    · have _c := c8
      refine zv_run 1 (pc' := 17) (lo' := [some (.ref 0), some (.int rule), some (.int what), none]) (st' := [.int (-1)]) (I' := I) (L' := L) (R' := zw_RC 4 14 la) rfl ?_
      exact zv_iret (zs_at rfl) rfl ⟨Nat.le_refl _, Nat.le_refl _⟩ (zw_to rfl rfl rfl rfl)
    · have _c := c8
      refine zv_run 2 (pc' := 13) (lo' := [some (.ref 0), some (.int rule), some (.int what), none]) (st' := [.int 2, .int what]) (I' := I) (L' := L) (R' := zw_RC 4 14 la) rfl ?_
      refine zv_icmp_le (tgt := 18) (zs_at rfl) (by decide) (fun c13 => ?_) (fun c13 => ?_)
      · have _c := c13
        exact absurd ⟨c4, c8, c13⟩ hno
      · have _c := c13
        refine zv_run 1 (pc' := 17) (lo' := [some (.ref 0), some (.int rule), some (.int what), none]) (st' := [.int (-1)]) (I' := I) (L' := L) (R' := zw_RC 4 14 la) rfl ?_
        exact zv_iret (zs_at rfl) rfl ⟨Nat.le_refl _, Nat.le_refl _⟩ (zw_to rfl rfl rfl rfl)
theorem ct_X9_score_no_14 {d : Nat} {I : zx_I} {L : zx_L} {la : Option Nat} {rule what : Int32} (hno : ¬ q_scok rule what) : zx_M0 mm_X9_score (d + 1) 0 0 [.ref 0, .int rule, .int what] zw_SC I L (zw_RC 14 4 la) (zw_ret (some (.int (-1))) zw_SC I L (zw_RC 14 4 la)) := by
  refine zv_entry gd_X9_score (Nat.le_of_ble_eq_true rfl) ?_
  refine zv_run 1 (pc' := 1) (lo' := [some (.ref 0), some (.int rule), some (.int what), none]) (st' := [.int rule]) (I' := I) (L' := L) (R' := zw_RC 14 4 la) rfl ?_
  refine zv_cS (M' := mm_X9_isRule) (av := [.int rule]) (st := []) (r := some (.int (q_rule rule))) (I' := I) (L' := L) (R' := zw_RC 14 4 la) rfl zc_9_152 gd_X9_isRule rfl (Nat.le_of_ble_eq_true rfl) (ct_X9_isRule (d := _)) ⟨Nat.le_refl _, Nat.le_refl _⟩ ?_
  refine zv_run 0 (pc' := 4) (lo' := [some (.ref 0), some (.int rule), some (.int what), none]) (st' := [.int (q_rule rule)]) (I' := I) (L' := L) (R' := zw_RC 14 4 la) rfl ?_
  refine zv_if_eq (tgt := 16) (zs_at rfl) (by decide) (fun c4 => ?_) (fun c4 => ?_)
  · have _c := c4
    refine zv_run 1 (pc' := 17) (lo' := [some (.ref 0), some (.int rule), some (.int what), none]) (st' := [.int (-1)]) (I' := I) (L' := L) (R' := zw_RC 14 4 la) rfl ?_
    exact zv_iret (zs_at rfl) rfl ⟨Nat.le_refl _, Nat.le_refl _⟩ (zw_to rfl rfl rfl rfl)
  · have _c := c4
    refine zv_run 1 (pc' := 8) (lo' := [some (.ref 0), some (.int rule), some (.int what), none]) (st' := [.int what]) (I' := I) (L' := L) (R' := zw_RC 14 4 la) rfl ?_
    refine zv_if_lt (tgt := 16) (zs_at rfl) (by decide) (fun c8 => ?_) (fun c8 => ?_)
    · have _c := c8
      refine zv_run 1 (pc' := 17) (lo' := [some (.ref 0), some (.int rule), some (.int what), none]) (st' := [.int (-1)]) (I' := I) (L' := L) (R' := zw_RC 14 4 la) rfl ?_
      exact zv_iret (zs_at rfl) rfl ⟨Nat.le_refl _, Nat.le_refl _⟩ (zw_to rfl rfl rfl rfl)
    · have _c := c8
      refine zv_run 2 (pc' := 13) (lo' := [some (.ref 0), some (.int rule), some (.int what), none]) (st' := [.int 2, .int what]) (I' := I) (L' := L) (R' := zw_RC 14 4 la) rfl ?_
      refine zv_icmp_le (tgt := 18) (zs_at rfl) (by decide) (fun c13 => ?_) (fun c13 => ?_)
      · have _c := c13
        exact absurd ⟨c4, c8, c13⟩ hno
      · have _c := c13
        refine zv_run 1 (pc' := 17) (lo' := [some (.ref 0), some (.int rule), some (.int what), none]) (st' := [.int (-1)]) (I' := I) (L' := L) (R' := zw_RC 14 4 la) rfl ?_
        exact zv_iret (zs_at rfl) rfl ⟨Nat.le_refl _, Nat.le_refl _⟩ (zw_to rfl rfl rfl rfl)
theorem ct_X9_score_no {d : Nat} {I : zx_I} {L : zx_L} {h sp : Nat} {la : Option Nat} {rule what : Int32} (hh : hsp h sp) (hno : ¬ q_scok rule what) : zx_M0 mm_X9_score (d + 1) 0 0 [.ref 0, .int rule, .int what] zw_SC I L (zw_RC h sp la) (zw_ret (some (.int (-1))) zw_SC I L (zw_RC h sp la)) := by
  rcases hh with ⟨rfl, rfl⟩ | ⟨rfl, rfl⟩
  · exact ct_X9_score_no_4 hno
  · exact ct_X9_score_no_14 hno
theorem ct_X9_score_4 {d : Nat} {I : zx_I} {L : zx_L} {la : Option Nat} {rule what : Int32} (hok : q_scok rule what) (hr : rn_ok (q_ask I 4 rule) (q_L L) 4) : zx_M0 mm_X9_score (d + 5) 0 0 [.ref 0, .int rule, .int what] zw_SC I L (zw_RC 4 14 la) (zw_ret (some (.int (q_scv (q_scr I L 4 rule) what))) zw_SC (q_end I L 4 rule).1 (q_L L) (zw_RC 4 14 (q_end I L 4 rule).2)) := by
  refine zv_entry gd_X9_score (Nat.le_of_ble_eq_true rfl) ?_
  refine zv_run 1 (pc' := 1) (lo' := [some (.ref 0), some (.int rule), some (.int what), none]) (st' := [.int rule]) (I' := I) (L' := L) (R' := zw_RC 4 14 la) rfl ?_
  refine zv_cS (M' := mm_X9_isRule) (av := [.int rule]) (st := []) (r := some (.int (q_rule rule))) (I' := I) (L' := L) (R' := zw_RC 4 14 la) rfl zc_9_152 gd_X9_isRule rfl (Nat.le_of_ble_eq_true rfl) (ct_X9_isRule (d := _)) ⟨Nat.le_refl _, Nat.le_refl _⟩ ?_
  refine zv_run 0 (pc' := 4) (lo' := [some (.ref 0), some (.int rule), some (.int what), none]) (st' := [.int (q_rule rule)]) (I' := I) (L' := L) (R' := zw_RC 4 14 la) rfl ?_
  refine zv_if_eq (tgt := 16) (zs_at rfl) (by decide) (fun c4 => ?_) (fun c4 => ?_)
  · have _c := c4
    refine zv_run 1 (pc' := 17) (lo' := [some (.ref 0), some (.int rule), some (.int what), none]) (st' := [.int (-1)]) (I' := I) (L' := L) (R' := zw_RC 4 14 la) rfl ?_
    exact zv_iret (zs_at rfl) rfl ⟨Nat.le_refl _, Nat.le_refl _⟩ (absurd hok (fun q => by first | exact q.1 c4 | exact q.2.1 c8 | exact c13 q.2.2))
  · have _c := c4
    refine zv_run 1 (pc' := 8) (lo' := [some (.ref 0), some (.int rule), some (.int what), none]) (st' := [.int what]) (I' := I) (L' := L) (R' := zw_RC 4 14 la) rfl ?_
    refine zv_if_lt (tgt := 16) (zs_at rfl) (by decide) (fun c8 => ?_) (fun c8 => ?_)
    · have _c := c8
      refine zv_run 1 (pc' := 17) (lo' := [some (.ref 0), some (.int rule), some (.int what), none]) (st' := [.int (-1)]) (I' := I) (L' := L) (R' := zw_RC 4 14 la) rfl ?_
      exact zv_iret (zs_at rfl) rfl ⟨Nat.le_refl _, Nat.le_refl _⟩ (absurd hok (fun q => by first | exact q.1 c4 | exact q.2.1 c8 | exact c13 q.2.2))
    · have _c := c8
      refine zv_run 2 (pc' := 13) (lo' := [some (.ref 0), some (.int rule), some (.int what), none]) (st' := [.int 2, .int what]) (I' := I) (L' := L) (R' := zw_RC 4 14 la) rfl ?_
      refine zv_icmp_le (tgt := 18) (zs_at rfl) (by decide) (fun c13 => ?_) (fun c13 => ?_)
      · have _c := c13
        refine zv_run 2 (pc' := 20) (lo' := [some (.ref 0), some (.int rule), some (.int what), none]) (st' := [.int rule, .ref 0]) (I' := I) (L' := L) (R' := zw_RC 4 14 la) rfl ?_
        refine zv_cV (M' := mm_X9_ask) (ci := 9) (a := 0) (av := [.int rule]) (st := []) (r := none) (I' := (q_ask I 4 rule)) (L' := (q_L L)) (R' := zw_RC 4 14 la) rfl zc_9_156 gd_X9_ask rfl rfl rfl (Nat.le_of_ble_eq_true rfl) (ct_X9_ask_4 (d := _)) ⟨Nat.le_refl _, Nat.le_refl _⟩ ?_
        refine zv_run 0 (pc' := 23) (lo' := [some (.ref 0), some (.int rule), some (.int what), none]) (st' := []) (I' := (q_ask I 4 rule)) (L' := (q_L L)) (R' := zw_RC 4 14 la) rfl ?_
        refine zv_run 6 (pc' := 35) (lo' := [some (.ref 0), some (.int rule), some (.int what), none]) (st' := [.ref 34, .ref 4, .ref 36]) (I' := (q_ask I 4 rule)) (L' := (q_L L)) (R' := zw_RC 4 14 la) rfl ?_
        refine zv_cV (M' := mm_X3_run) (ci := 3) (a := 36) (av := [.ref 4, .ref 34]) (st := []) (r := some (.int (fr_score (q_ask I 4 rule) (q_L L) 4))) (I' := (fr_end (q_ask I 4 rule) (q_L L) 4).1) (L' := (q_L L)) (R' := zw_RC 4 14 (fr_end (q_ask I 4 rule) (q_L L) 4).2) rfl zc_9_159 gd_X3_run rfl rfl rfl (Nat.le_of_ble_eq_true rfl) (ct_X3_run (d := _) (Or.inl rfl) hr) ⟨Nat.le_refl _, Nat.le_refl _⟩ ?_
        refine zv_run 0 (pc' := 38) (lo' := [some (.ref 0), some (.int rule), some (.int what), none]) (st' := [.int (fr_score (q_ask I 4 rule) (q_L L) 4)]) (I' := (fr_end (q_ask I 4 rule) (q_L L) 4).1) (L' := (q_L L)) (R' := zw_RC 4 14 (fr_end (q_ask I 4 rule) (q_L L) 4).2) rfl ?_
        refine zv_run 2 (pc' := 40) (lo' := [some (.ref 0), some (.int rule), some (.int what), some (.int (fr_score (q_ask I 4 rule) (q_L L) 4))]) (st' := [.int what]) (I' := (fr_end (q_ask I 4 rule) (q_L L) 4).1) (L' := (q_L L)) (R' := zw_RC 4 14 (fr_end (q_ask I 4 rule) (q_L L) 4).2) rfl ?_
        rcases (show what.toInt = 0 ∨ what.toInt = 1 ∨ (¬ what.toInt = 0 ∧ ¬ what.toInt = 1) from by omega) with t40e | t40e | t40
        · refine zv_lookup (off := 28) (tgt := 68) (zs_at rfl) rfl (by rw [t40e]; rfl) rfl ?_
          refine zv_run 3 (pc' := 72) (lo' := [some (.ref 0), some (.int rule), some (.int what), some (.int (fr_score (q_ask I 4 rule) (q_L L) 4))]) (st' := [.int ((fr_score (q_ask I 4 rule) (q_L L) 4) / 100)]) (I' := (fr_end (q_ask I 4 rule) (q_L L) 4).1) (L' := (q_L L)) (R' := zw_RC 4 14 (fr_end (q_ask I 4 rule) (q_L L) 4).2) rfl ?_
          exact zv_iret (zs_at rfl) rfl ⟨Nat.le_refl _, Nat.le_refl _⟩ (zw_to (by unfold q_scv; rw [if_pos t40e]; rfl) rfl rfl rfl)
        · refine zv_lookup (off := 33) (tgt := 73) (zs_at rfl) rfl (by rw [t40e]; rfl) rfl ?_
          refine zv_run 3 (pc' := 77) (lo' := [some (.ref 0), some (.int rule), some (.int what), some (.int (fr_score (q_ask I 4 rule) (q_L L) 4))]) (st' := [.int ((fr_score (q_ask I 4 rule) (q_L L) 4) - (fr_score (q_ask I 4 rule) (q_L L) 4) / 100 * 100)]) (I' := (fr_end (q_ask I 4 rule) (q_L L) 4).1) (L' := (q_L L)) (R' := zw_RC 4 14 (fr_end (q_ask I 4 rule) (q_L L) 4).2) rfl ?_
          exact zv_iret (zs_at rfl) rfl ⟨Nat.le_refl _, Nat.le_refl _⟩ (zw_to (by unfold q_scv; rw [if_neg (by omega), if_pos t40e]; rfl) rfl rfl rfl)
        · refine zv_lookup (off := 38) (tgt := 78) (zs_at rfl) rfl (by simp [Op.lookupswitch.offset, show ¬ (0 : Int) = what.toInt from fun q => t40.1 q.symm, show ¬ (1 : Int) = what.toInt from fun q => t40.2 q.symm]) rfl ?_
          refine zv_run 1 (pc' := 79) (lo' := [some (.ref 0), some (.int rule), some (.int what), some (.int (fr_score (q_ask I 4 rule) (q_L L) 4))]) (st' := [.int (fr_score (q_ask I 4 rule) (q_L L) 4)]) (I' := (fr_end (q_ask I 4 rule) (q_L L) 4).1) (L' := (q_L L)) (R' := zw_RC 4 14 (fr_end (q_ask I 4 rule) (q_L L) 4).2) rfl ?_
          exact zv_iret (zs_at rfl) rfl ⟨Nat.le_refl _, Nat.le_refl _⟩ (zw_to (by unfold q_scv; rw [if_neg t40.1, if_neg t40.2]; rfl) rfl rfl rfl)
      · have _c := c13
        refine zv_run 1 (pc' := 17) (lo' := [some (.ref 0), some (.int rule), some (.int what), none]) (st' := [.int (-1)]) (I' := I) (L' := L) (R' := zw_RC 4 14 la) rfl ?_
        exact zv_iret (zs_at rfl) rfl ⟨Nat.le_refl _, Nat.le_refl _⟩ (absurd hok (fun q => by first | exact q.1 c4 | exact q.2.1 c8 | exact c13 q.2.2))
theorem ct_X9_score_14 {d : Nat} {I : zx_I} {L : zx_L} {la : Option Nat} {rule what : Int32} (hok : q_scok rule what) (hr : rn_ok (q_ask I 14 rule) (q_L L) 14) : zx_M0 mm_X9_score (d + 5) 0 0 [.ref 0, .int rule, .int what] zw_SC I L (zw_RC 14 4 la) (zw_ret (some (.int (q_scv (q_scr I L 14 rule) what))) zw_SC (q_end I L 14 rule).1 (q_L L) (zw_RC 14 4 (q_end I L 14 rule).2)) := by
  refine zv_entry gd_X9_score (Nat.le_of_ble_eq_true rfl) ?_
  refine zv_run 1 (pc' := 1) (lo' := [some (.ref 0), some (.int rule), some (.int what), none]) (st' := [.int rule]) (I' := I) (L' := L) (R' := zw_RC 14 4 la) rfl ?_
  refine zv_cS (M' := mm_X9_isRule) (av := [.int rule]) (st := []) (r := some (.int (q_rule rule))) (I' := I) (L' := L) (R' := zw_RC 14 4 la) rfl zc_9_152 gd_X9_isRule rfl (Nat.le_of_ble_eq_true rfl) (ct_X9_isRule (d := _)) ⟨Nat.le_refl _, Nat.le_refl _⟩ ?_
  refine zv_run 0 (pc' := 4) (lo' := [some (.ref 0), some (.int rule), some (.int what), none]) (st' := [.int (q_rule rule)]) (I' := I) (L' := L) (R' := zw_RC 14 4 la) rfl ?_
  refine zv_if_eq (tgt := 16) (zs_at rfl) (by decide) (fun c4 => ?_) (fun c4 => ?_)
  · have _c := c4
    refine zv_run 1 (pc' := 17) (lo' := [some (.ref 0), some (.int rule), some (.int what), none]) (st' := [.int (-1)]) (I' := I) (L' := L) (R' := zw_RC 14 4 la) rfl ?_
    exact zv_iret (zs_at rfl) rfl ⟨Nat.le_refl _, Nat.le_refl _⟩ (absurd hok (fun q => by first | exact q.1 c4 | exact q.2.1 c8 | exact c13 q.2.2))
  · have _c := c4
    refine zv_run 1 (pc' := 8) (lo' := [some (.ref 0), some (.int rule), some (.int what), none]) (st' := [.int what]) (I' := I) (L' := L) (R' := zw_RC 14 4 la) rfl ?_
    refine zv_if_lt (tgt := 16) (zs_at rfl) (by decide) (fun c8 => ?_) (fun c8 => ?_)
    · have _c := c8
      refine zv_run 1 (pc' := 17) (lo' := [some (.ref 0), some (.int rule), some (.int what), none]) (st' := [.int (-1)]) (I' := I) (L' := L) (R' := zw_RC 14 4 la) rfl ?_
      exact zv_iret (zs_at rfl) rfl ⟨Nat.le_refl _, Nat.le_refl _⟩ (absurd hok (fun q => by first | exact q.1 c4 | exact q.2.1 c8 | exact c13 q.2.2))
    · have _c := c8
      refine zv_run 2 (pc' := 13) (lo' := [some (.ref 0), some (.int rule), some (.int what), none]) (st' := [.int 2, .int what]) (I' := I) (L' := L) (R' := zw_RC 14 4 la) rfl ?_
      refine zv_icmp_le (tgt := 18) (zs_at rfl) (by decide) (fun c13 => ?_) (fun c13 => ?_)
      · have _c := c13
        refine zv_run 2 (pc' := 20) (lo' := [some (.ref 0), some (.int rule), some (.int what), none]) (st' := [.int rule, .ref 0]) (I' := I) (L' := L) (R' := zw_RC 14 4 la) rfl ?_
        refine zv_cV (M' := mm_X9_ask) (ci := 9) (a := 0) (av := [.int rule]) (st := []) (r := none) (I' := (q_ask I 14 rule)) (L' := (q_L L)) (R' := zw_RC 14 4 la) rfl zc_9_156 gd_X9_ask rfl rfl rfl (Nat.le_of_ble_eq_true rfl) (ct_X9_ask_14 (d := _)) ⟨Nat.le_refl _, Nat.le_refl _⟩ ?_
        refine zv_run 0 (pc' := 23) (lo' := [some (.ref 0), some (.int rule), some (.int what), none]) (st' := []) (I' := (q_ask I 14 rule)) (L' := (q_L L)) (R' := zw_RC 14 4 la) rfl ?_
        refine zv_run 6 (pc' := 35) (lo' := [some (.ref 0), some (.int rule), some (.int what), none]) (st' := [.ref 34, .ref 14, .ref 36]) (I' := (q_ask I 14 rule)) (L' := (q_L L)) (R' := zw_RC 14 4 la) rfl ?_
        refine zv_cV (M' := mm_X3_run) (ci := 3) (a := 36) (av := [.ref 14, .ref 34]) (st := []) (r := some (.int (fr_score (q_ask I 14 rule) (q_L L) 14))) (I' := (fr_end (q_ask I 14 rule) (q_L L) 14).1) (L' := (q_L L)) (R' := zw_RC 14 4 (fr_end (q_ask I 14 rule) (q_L L) 14).2) rfl zc_9_159 gd_X3_run rfl rfl rfl (Nat.le_of_ble_eq_true rfl) (ct_X3_run (d := _) (Or.inr rfl) hr) ⟨Nat.le_refl _, Nat.le_refl _⟩ ?_
        refine zv_run 0 (pc' := 38) (lo' := [some (.ref 0), some (.int rule), some (.int what), none]) (st' := [.int (fr_score (q_ask I 14 rule) (q_L L) 14)]) (I' := (fr_end (q_ask I 14 rule) (q_L L) 14).1) (L' := (q_L L)) (R' := zw_RC 14 4 (fr_end (q_ask I 14 rule) (q_L L) 14).2) rfl ?_
        refine zv_run 2 (pc' := 40) (lo' := [some (.ref 0), some (.int rule), some (.int what), some (.int (fr_score (q_ask I 14 rule) (q_L L) 14))]) (st' := [.int what]) (I' := (fr_end (q_ask I 14 rule) (q_L L) 14).1) (L' := (q_L L)) (R' := zw_RC 14 4 (fr_end (q_ask I 14 rule) (q_L L) 14).2) rfl ?_
        rcases (show what.toInt = 0 ∨ what.toInt = 1 ∨ (¬ what.toInt = 0 ∧ ¬ what.toInt = 1) from by omega) with t40e | t40e | t40
        · refine zv_lookup (off := 28) (tgt := 68) (zs_at rfl) rfl (by rw [t40e]; rfl) rfl ?_
          refine zv_run 3 (pc' := 72) (lo' := [some (.ref 0), some (.int rule), some (.int what), some (.int (fr_score (q_ask I 14 rule) (q_L L) 14))]) (st' := [.int ((fr_score (q_ask I 14 rule) (q_L L) 14) / 100)]) (I' := (fr_end (q_ask I 14 rule) (q_L L) 14).1) (L' := (q_L L)) (R' := zw_RC 14 4 (fr_end (q_ask I 14 rule) (q_L L) 14).2) rfl ?_
          exact zv_iret (zs_at rfl) rfl ⟨Nat.le_refl _, Nat.le_refl _⟩ (zw_to (by unfold q_scv; rw [if_pos t40e]; rfl) rfl rfl rfl)
        · refine zv_lookup (off := 33) (tgt := 73) (zs_at rfl) rfl (by rw [t40e]; rfl) rfl ?_
          refine zv_run 3 (pc' := 77) (lo' := [some (.ref 0), some (.int rule), some (.int what), some (.int (fr_score (q_ask I 14 rule) (q_L L) 14))]) (st' := [.int ((fr_score (q_ask I 14 rule) (q_L L) 14) - (fr_score (q_ask I 14 rule) (q_L L) 14) / 100 * 100)]) (I' := (fr_end (q_ask I 14 rule) (q_L L) 14).1) (L' := (q_L L)) (R' := zw_RC 14 4 (fr_end (q_ask I 14 rule) (q_L L) 14).2) rfl ?_
          exact zv_iret (zs_at rfl) rfl ⟨Nat.le_refl _, Nat.le_refl _⟩ (zw_to (by unfold q_scv; rw [if_neg (by omega), if_pos t40e]; rfl) rfl rfl rfl)
        · refine zv_lookup (off := 38) (tgt := 78) (zs_at rfl) rfl (by simp [Op.lookupswitch.offset, show ¬ (0 : Int) = what.toInt from fun q => t40.1 q.symm, show ¬ (1 : Int) = what.toInt from fun q => t40.2 q.symm]) rfl ?_
          refine zv_run 1 (pc' := 79) (lo' := [some (.ref 0), some (.int rule), some (.int what), some (.int (fr_score (q_ask I 14 rule) (q_L L) 14))]) (st' := [.int (fr_score (q_ask I 14 rule) (q_L L) 14)]) (I' := (fr_end (q_ask I 14 rule) (q_L L) 14).1) (L' := (q_L L)) (R' := zw_RC 14 4 (fr_end (q_ask I 14 rule) (q_L L) 14).2) rfl ?_
          exact zv_iret (zs_at rfl) rfl ⟨Nat.le_refl _, Nat.le_refl _⟩ (zw_to (by unfold q_scv; rw [if_neg t40.1, if_neg t40.2]; rfl) rfl rfl rfl)
      · have _c := c13
        refine zv_run 1 (pc' := 17) (lo' := [some (.ref 0), some (.int rule), some (.int what), none]) (st' := [.int (-1)]) (I' := I) (L' := L) (R' := zw_RC 14 4 la) rfl ?_
        exact zv_iret (zs_at rfl) rfl ⟨Nat.le_refl _, Nat.le_refl _⟩ (absurd hok (fun q => by first | exact q.1 c4 | exact q.2.1 c8 | exact c13 q.2.2))
theorem ct_X9_score {d : Nat} {I : zx_I} {L : zx_L} {h sp : Nat} {la : Option Nat} {rule what : Int32} (hh : hsp h sp) (hok : q_scok rule what) (hr : rn_ok (q_ask I h rule) (q_L L) h) : zx_M0 mm_X9_score (d + 5) 0 0 [.ref 0, .int rule, .int what] zw_SC I L (zw_RC h sp la) (zw_ret (some (.int (q_scv (q_scr I L h rule) what))) zw_SC (q_end I L h rule).1 (q_L L) (zw_RC h sp (q_end I L h rule).2)) := by
  rcases hh with ⟨rfl, rfl⟩ | ⟨rfl, rfl⟩
  · exact ct_X9_score_4 hok hr
  · exact ct_X9_score_14 hok hr
theorem ct_X9_left_no_4 {d : Nat} {I : zx_I} {L : zx_L} {la : Option Nat} {rule what : Int32} (hno : ¬ q_lfok I 4 rule what) : zx_M0 mm_X9_left (d + 1) 0 0 [.ref 0, .int rule, .int what] zw_SC I L (zw_RC 4 14 la) (zw_ret (some (.int (-1))) zw_SC I L (zw_RC 4 14 la)) := by
  refine zv_entry gd_X9_left (Nat.le_of_ble_eq_true rfl) ?_
  refine zv_run 1 (pc' := 1) (lo' := [some (.ref 0), some (.int rule), some (.int what)]) (st' := [.int rule]) (I' := I) (L' := L) (R' := zw_RC 4 14 la) rfl ?_
  refine zv_cS (M' := mm_X9_isRule) (av := [.int rule]) (st := []) (r := some (.int (q_rule rule))) (I' := I) (L' := L) (R' := zw_RC 4 14 la) rfl zc_9_152 gd_X9_isRule rfl (Nat.le_of_ble_eq_true rfl) (ct_X9_isRule (d := _)) ⟨Nat.le_refl _, Nat.le_refl _⟩ ?_
  refine zv_run 0 (pc' := 4) (lo' := [some (.ref 0), some (.int rule), some (.int what)]) (st' := [.int (q_rule rule)]) (I' := I) (L' := L) (R' := zw_RC 4 14 la) rfl ?_
  refine zv_if_eq (tgt := 34) (zs_at rfl) (by decide) (fun c4 => ?_) (fun c4 => ?_)
  · have _c := c4
    refine zv_run 1 (pc' := 35) (lo' := [some (.ref 0), some (.int rule), some (.int what)]) (st' := [.int (-1)]) (I' := I) (L' := L) (R' := zw_RC 4 14 la) rfl ?_
    exact zv_iret (zs_at rfl) rfl ⟨Nat.le_refl _, Nat.le_refl _⟩ (zw_to rfl rfl rfl rfl)
  · have _c := c4
    refine zv_run 1 (pc' := 8) (lo' := [some (.ref 0), some (.int rule), some (.int what)]) (st' := [.int what]) (I' := I) (L' := L) (R' := zw_RC 4 14 la) rfl ?_
    refine zv_if_lt (tgt := 34) (zs_at rfl) (by decide) (fun c8 => ?_) (fun c8 => ?_)
    · have _c := c8
      refine zv_run 1 (pc' := 35) (lo' := [some (.ref 0), some (.int rule), some (.int what)]) (st' := [.int (-1)]) (I' := I) (L' := L) (R' := zw_RC 4 14 la) rfl ?_
      exact zv_iret (zs_at rfl) rfl ⟨Nat.le_refl _, Nat.le_refl _⟩ (zw_to rfl rfl rfl rfl)
    · have _c := c8
      refine zv_run 2 (pc' := 14) (lo' := [some (.ref 0), some (.int rule), some (.int what)]) (st' := [.int 7, .int what]) (I' := I) (L' := L) (R' := zw_RC 4 14 la) rfl ?_
      refine zv_icmp_gt (tgt := 34) (zs_at rfl) (by decide) (fun c14 => ?_) (fun c14 => ?_)
      · have _c := c14
        refine zv_run 1 (pc' := 35) (lo' := [some (.ref 0), some (.int rule), some (.int what)]) (st' := [.int (-1)]) (I' := I) (L' := L) (R' := zw_RC 4 14 la) rfl ?_
        exact zv_iret (zs_at rfl) rfl ⟨Nat.le_refl _, Nat.le_refl _⟩ (zw_to rfl rfl rfl rfl)
      · have _c := c14
        refine zv_run 2 (pc' := 20) (lo' := [some (.ref 0), some (.int rule), some (.int what)]) (st' := [.int 6, .int what]) (I' := I) (L' := L) (R' := zw_RC 4 14 la) rfl ?_
        refine zv_icmp_ge (tgt := 36) (zs_at rfl) (by decide) (fun c20 => ?_) (fun c20 => ?_)
        · have _c := c20
          exact absurd ⟨c4, c8, c14, Or.inl c20⟩ hno
        · have _c := c20
          refine zv_run 4 (pc' := 31) (lo' := [some (.ref 0), some (.int rule), some (.int what)]) (st' := [.int (I 4 1), .int what]) (I' := I) (L' := L) (R' := zw_RC 4 14 la) rfl ?_
          refine zv_icmp_lt (tgt := 36) (zs_at rfl) (by decide) (fun c31 => ?_) (fun c31 => ?_)
          · have _c := c31
            exact absurd ⟨c4, c8, c14, Or.inr c31⟩ hno
          · have _c := c31
            refine zv_run 1 (pc' := 35) (lo' := [some (.ref 0), some (.int rule), some (.int what)]) (st' := [.int (-1)]) (I' := I) (L' := L) (R' := zw_RC 4 14 la) rfl ?_
            exact zv_iret (zs_at rfl) rfl ⟨Nat.le_refl _, Nat.le_refl _⟩ (zw_to rfl rfl rfl rfl)
theorem ct_X9_left_no_14 {d : Nat} {I : zx_I} {L : zx_L} {la : Option Nat} {rule what : Int32} (hno : ¬ q_lfok I 14 rule what) : zx_M0 mm_X9_left (d + 1) 0 0 [.ref 0, .int rule, .int what] zw_SC I L (zw_RC 14 4 la) (zw_ret (some (.int (-1))) zw_SC I L (zw_RC 14 4 la)) := by
  refine zv_entry gd_X9_left (Nat.le_of_ble_eq_true rfl) ?_
  refine zv_run 1 (pc' := 1) (lo' := [some (.ref 0), some (.int rule), some (.int what)]) (st' := [.int rule]) (I' := I) (L' := L) (R' := zw_RC 14 4 la) rfl ?_
  refine zv_cS (M' := mm_X9_isRule) (av := [.int rule]) (st := []) (r := some (.int (q_rule rule))) (I' := I) (L' := L) (R' := zw_RC 14 4 la) rfl zc_9_152 gd_X9_isRule rfl (Nat.le_of_ble_eq_true rfl) (ct_X9_isRule (d := _)) ⟨Nat.le_refl _, Nat.le_refl _⟩ ?_
  refine zv_run 0 (pc' := 4) (lo' := [some (.ref 0), some (.int rule), some (.int what)]) (st' := [.int (q_rule rule)]) (I' := I) (L' := L) (R' := zw_RC 14 4 la) rfl ?_
  refine zv_if_eq (tgt := 34) (zs_at rfl) (by decide) (fun c4 => ?_) (fun c4 => ?_)
  · have _c := c4
    refine zv_run 1 (pc' := 35) (lo' := [some (.ref 0), some (.int rule), some (.int what)]) (st' := [.int (-1)]) (I' := I) (L' := L) (R' := zw_RC 14 4 la) rfl ?_
    exact zv_iret (zs_at rfl) rfl ⟨Nat.le_refl _, Nat.le_refl _⟩ (zw_to rfl rfl rfl rfl)
  · have _c := c4
    refine zv_run 1 (pc' := 8) (lo' := [some (.ref 0), some (.int rule), some (.int what)]) (st' := [.int what]) (I' := I) (L' := L) (R' := zw_RC 14 4 la) rfl ?_
    refine zv_if_lt (tgt := 34) (zs_at rfl) (by decide) (fun c8 => ?_) (fun c8 => ?_)
    · have _c := c8
      refine zv_run 1 (pc' := 35) (lo' := [some (.ref 0), some (.int rule), some (.int what)]) (st' := [.int (-1)]) (I' := I) (L' := L) (R' := zw_RC 14 4 la) rfl ?_
      exact zv_iret (zs_at rfl) rfl ⟨Nat.le_refl _, Nat.le_refl _⟩ (zw_to rfl rfl rfl rfl)
    · have _c := c8
      refine zv_run 2 (pc' := 14) (lo' := [some (.ref 0), some (.int rule), some (.int what)]) (st' := [.int 7, .int what]) (I' := I) (L' := L) (R' := zw_RC 14 4 la) rfl ?_
      refine zv_icmp_gt (tgt := 34) (zs_at rfl) (by decide) (fun c14 => ?_) (fun c14 => ?_)
      · have _c := c14
        refine zv_run 1 (pc' := 35) (lo' := [some (.ref 0), some (.int rule), some (.int what)]) (st' := [.int (-1)]) (I' := I) (L' := L) (R' := zw_RC 14 4 la) rfl ?_
        exact zv_iret (zs_at rfl) rfl ⟨Nat.le_refl _, Nat.le_refl _⟩ (zw_to rfl rfl rfl rfl)
      · have _c := c14
        refine zv_run 2 (pc' := 20) (lo' := [some (.ref 0), some (.int rule), some (.int what)]) (st' := [.int 6, .int what]) (I' := I) (L' := L) (R' := zw_RC 14 4 la) rfl ?_
        refine zv_icmp_ge (tgt := 36) (zs_at rfl) (by decide) (fun c20 => ?_) (fun c20 => ?_)
        · have _c := c20
          exact absurd ⟨c4, c8, c14, Or.inl c20⟩ hno
        · have _c := c20
          refine zv_run 4 (pc' := 31) (lo' := [some (.ref 0), some (.int rule), some (.int what)]) (st' := [.int (I 14 1), .int what]) (I' := I) (L' := L) (R' := zw_RC 14 4 la) rfl ?_
          refine zv_icmp_lt (tgt := 36) (zs_at rfl) (by decide) (fun c31 => ?_) (fun c31 => ?_)
          · have _c := c31
            exact absurd ⟨c4, c8, c14, Or.inr c31⟩ hno
          · have _c := c31
            refine zv_run 1 (pc' := 35) (lo' := [some (.ref 0), some (.int rule), some (.int what)]) (st' := [.int (-1)]) (I' := I) (L' := L) (R' := zw_RC 14 4 la) rfl ?_
            exact zv_iret (zs_at rfl) rfl ⟨Nat.le_refl _, Nat.le_refl _⟩ (zw_to rfl rfl rfl rfl)
theorem ct_X9_left_no {d : Nat} {I : zx_I} {L : zx_L} {h sp : Nat} {la : Option Nat} {rule what : Int32} (hh : hsp h sp) (hno : ¬ q_lfok I h rule what) : zx_M0 mm_X9_left (d + 1) 0 0 [.ref 0, .int rule, .int what] zw_SC I L (zw_RC h sp la) (zw_ret (some (.int (-1))) zw_SC I L (zw_RC h sp la)) := by
  rcases hh with ⟨rfl, rfl⟩ | ⟨rfl, rfl⟩
  · exact ct_X9_left_no_4 hno
  · exact ct_X9_left_no_14 hno
theorem ct_X9_left_4 {d : Nat} {I : zx_I} {L : zx_L} {la : Option Nat} {rule what : Int32} (hok : q_lfok I 4 rule what) (hr : rn_ok (q_ask I 4 rule) (q_L L) 4) (hT : tk_ok (q_end I L 4 rule).1) : zx_M0 mm_X9_left (d + 5) 0 0 [.ref 0, .int rule, .int what] zw_SC I L (zw_RC 4 14 la) (zw_ret (some (.int (q_lfv (q_end I L 4 rule).1 what))) zw_SC (q_end I L 4 rule).1 (q_L L) (zw_RC 4 14 (q_end I L 4 rule).2)) := by
  refine zv_entry gd_X9_left (Nat.le_of_ble_eq_true rfl) ?_
  refine zv_run 1 (pc' := 1) (lo' := [some (.ref 0), some (.int rule), some (.int what)]) (st' := [.int rule]) (I' := I) (L' := L) (R' := zw_RC 4 14 la) rfl ?_
  refine zv_cS (M' := mm_X9_isRule) (av := [.int rule]) (st := []) (r := some (.int (q_rule rule))) (I' := I) (L' := L) (R' := zw_RC 4 14 la) rfl zc_9_152 gd_X9_isRule rfl (Nat.le_of_ble_eq_true rfl) (ct_X9_isRule (d := _)) ⟨Nat.le_refl _, Nat.le_refl _⟩ ?_
  refine zv_run 0 (pc' := 4) (lo' := [some (.ref 0), some (.int rule), some (.int what)]) (st' := [.int (q_rule rule)]) (I' := I) (L' := L) (R' := zw_RC 4 14 la) rfl ?_
  refine zv_if_eq (tgt := 34) (zs_at rfl) (by decide) (fun c4 => ?_) (fun c4 => ?_)
  · have _c := c4
    refine zv_run 1 (pc' := 35) (lo' := [some (.ref 0), some (.int rule), some (.int what)]) (st' := [.int (-1)]) (I' := I) (L' := L) (R' := zw_RC 4 14 la) rfl ?_
    exact zv_iret (zs_at rfl) rfl ⟨Nat.le_refl _, Nat.le_refl _⟩ (absurd hok (fun q => by first | exact q.1 c4 | exact q.2.1 c8 | exact q.2.2.1 c14 | exact q.2.2.2.elim c20 c31))
  · have _c := c4
    refine zv_run 1 (pc' := 8) (lo' := [some (.ref 0), some (.int rule), some (.int what)]) (st' := [.int what]) (I' := I) (L' := L) (R' := zw_RC 4 14 la) rfl ?_
    refine zv_if_lt (tgt := 34) (zs_at rfl) (by decide) (fun c8 => ?_) (fun c8 => ?_)
    · have _c := c8
      refine zv_run 1 (pc' := 35) (lo' := [some (.ref 0), some (.int rule), some (.int what)]) (st' := [.int (-1)]) (I' := I) (L' := L) (R' := zw_RC 4 14 la) rfl ?_
      exact zv_iret (zs_at rfl) rfl ⟨Nat.le_refl _, Nat.le_refl _⟩ (absurd hok (fun q => by first | exact q.1 c4 | exact q.2.1 c8 | exact q.2.2.1 c14 | exact q.2.2.2.elim c20 c31))
    · have _c := c8
      refine zv_run 2 (pc' := 14) (lo' := [some (.ref 0), some (.int rule), some (.int what)]) (st' := [.int 7, .int what]) (I' := I) (L' := L) (R' := zw_RC 4 14 la) rfl ?_
      refine zv_icmp_gt (tgt := 34) (zs_at rfl) (by decide) (fun c14 => ?_) (fun c14 => ?_)
      · have _c := c14
        refine zv_run 1 (pc' := 35) (lo' := [some (.ref 0), some (.int rule), some (.int what)]) (st' := [.int (-1)]) (I' := I) (L' := L) (R' := zw_RC 4 14 la) rfl ?_
        exact zv_iret (zs_at rfl) rfl ⟨Nat.le_refl _, Nat.le_refl _⟩ (absurd hok (fun q => by first | exact q.1 c4 | exact q.2.1 c8 | exact q.2.2.1 c14 | exact q.2.2.2.elim c20 c31))
      · have _c := c14
        refine zv_run 2 (pc' := 20) (lo' := [some (.ref 0), some (.int rule), some (.int what)]) (st' := [.int 6, .int what]) (I' := I) (L' := L) (R' := zw_RC 4 14 la) rfl ?_
        refine zv_icmp_ge (tgt := 36) (zs_at rfl) (by decide) (fun c20 => ?_) (fun c20 => ?_)
        · have _c := c20
          refine zv_run 2 (pc' := 38) (lo' := [some (.ref 0), some (.int rule), some (.int what)]) (st' := [.int rule, .ref 0]) (I' := I) (L' := L) (R' := zw_RC 4 14 la) rfl ?_
          refine zv_cV (M' := mm_X9_ask) (ci := 9) (a := 0) (av := [.int rule]) (st := []) (r := none) (I' := (q_ask I 4 rule)) (L' := (q_L L)) (R' := zw_RC 4 14 la) rfl zc_9_156 gd_X9_ask rfl rfl rfl (Nat.le_of_ble_eq_true rfl) (ct_X9_ask_4 (d := _)) ⟨Nat.le_refl _, Nat.le_refl _⟩ ?_
          refine zv_run 0 (pc' := 41) (lo' := [some (.ref 0), some (.int rule), some (.int what)]) (st' := []) (I' := (q_ask I 4 rule)) (L' := (q_L L)) (R' := zw_RC 4 14 la) rfl ?_
          refine zv_run 6 (pc' := 53) (lo' := [some (.ref 0), some (.int rule), some (.int what)]) (st' := [.ref 34, .ref 4, .ref 36]) (I' := (q_ask I 4 rule)) (L' := (q_L L)) (R' := zw_RC 4 14 la) rfl ?_
          refine zv_cV (M' := mm_X3_run) (ci := 3) (a := 36) (av := [.ref 4, .ref 34]) (st := []) (r := some (.int (fr_score (q_ask I 4 rule) (q_L L) 4))) (I' := (fr_end (q_ask I 4 rule) (q_L L) 4).1) (L' := (q_L L)) (R' := zw_RC 4 14 (fr_end (q_ask I 4 rule) (q_L L) 4).2) rfl zc_9_159 gd_X3_run rfl rfl rfl (Nat.le_of_ble_eq_true rfl) (ct_X3_run (d := _) (Or.inl rfl) hr) ⟨Nat.le_refl _, Nat.le_refl _⟩ ?_
          refine zv_run 0 (pc' := 56) (lo' := [some (.ref 0), some (.int rule), some (.int what)]) (st' := [.int (fr_score (q_ask I 4 rule) (q_L L) 4)]) (I' := (fr_end (q_ask I 4 rule) (q_L L) 4).1) (L' := (q_L L)) (R' := zw_RC 4 14 (fr_end (q_ask I 4 rule) (q_L L) 4).2) rfl ?_
          refine zv_run 2 (pc' := 58) (lo' := [some (.ref 0), some (.int rule), some (.int what)]) (st' := [.int what]) (I' := (fr_end (q_ask I 4 rule) (q_L L) 4).1) (L' := (q_L L)) (R' := zw_RC 4 14 (fr_end (q_ask I 4 rule) (q_L L) 4).2) rfl ?_
          rcases (show what.toInt = 6 ∨ what.toInt = 7 ∨ (¬ what.toInt = 6 ∧ ¬ what.toInt = 7) from by omega) with t58e | t58e | t58
          · refine zv_lookup (off := 26) (tgt := 84) (zs_at rfl) rfl (by rw [t58e]; rfl) rfl ?_
            refine zv_run 4 (pc' := 94) (lo' := [some (.ref 0), some (.int rule), some (.int what)]) (st' := [.int ((fr_end (q_ask I 4 rule) (q_L L) 4).1 39 2)]) (I' := (fr_end (q_ask I 4 rule) (q_L L) 4).1) (L' := (q_L L)) (R' := zw_RC 4 14 (fr_end (q_ask I 4 rule) (q_L L) 4).2) rfl ?_
            exact zv_iret (zs_at rfl) rfl ⟨Nat.le_refl _, Nat.le_refl _⟩ (zw_to (by unfold q_lfv; rw [if_pos t58e]; rfl) rfl rfl rfl)
          · refine zv_lookup (off := 37) (tgt := 95) (zs_at rfl) rfl (by rw [t58e]; rfl) rfl ?_
            refine zv_run 4 (pc' := 105) (lo' := [some (.ref 0), some (.int rule), some (.int what)]) (st' := [.int ((fr_end (q_ask I 4 rule) (q_L L) 4).1 39 0)]) (I' := (fr_end (q_ask I 4 rule) (q_L L) 4).1) (L' := (q_L L)) (R' := zw_RC 4 14 (fr_end (q_ask I 4 rule) (q_L L) 4).2) rfl ?_
            exact zv_iret (zs_at rfl) rfl ⟨Nat.le_refl _, Nat.le_refl _⟩ (zw_to (by unfold q_lfv; rw [if_neg (by omega), if_pos t58e]; rfl) rfl rfl rfl)
          · refine zv_lookup (off := 48) (tgt := 106) (zs_at rfl) rfl (by simp [Op.lookupswitch.offset, show ¬ (6 : Int) = what.toInt from fun q => t58.1 q.symm, show ¬ (7 : Int) = what.toInt from fun q => t58.2 q.symm]) rfl ?_
            refine zv_run 4 (pc' := 114) (lo' := [some (.ref 0), some (.int rule), some (.int what)]) (st' := [.int what, .ref 37]) (I' := (fr_end (q_ask I 4 rule) (q_L L) 4).1) (L' := (q_L L)) (R' := zw_RC 4 14 (fr_end (q_ask I 4 rule) (q_L L) 4).2) rfl ?_
            refine zv_cV (M' := mm_X7_heatOf) (ci := 7) (a := 37) (av := [.int what]) (st := []) (r := some (.int (ft_unitsIn (fr_end (q_ask I 4 rule) (q_L L) 4).1 what / (fr_end (q_ask I 4 rule) (q_L L) 4).1 37 2))) (I' := (fr_end (q_ask I 4 rule) (q_L L) 4).1) (L' := (q_L L)) (R' := zw_RC 4 14 (fr_end (q_ask I 4 rule) (q_L L) 4).2) rfl zc_9_185 gd_X7_heatOf rfl rfl rfl (Nat.le_of_ble_eq_true rfl) (ct_X7_heatOf (d := _) hT) ⟨Nat.le_refl _, Nat.le_refl _⟩ ?_
            refine zv_run 0 (pc' := 117) (lo' := [some (.ref 0), some (.int rule), some (.int what)]) (st' := [.int (ft_unitsIn (fr_end (q_ask I 4 rule) (q_L L) 4).1 what / (fr_end (q_ask I 4 rule) (q_L L) 4).1 37 2)]) (I' := (fr_end (q_ask I 4 rule) (q_L L) 4).1) (L' := (q_L L)) (R' := zw_RC 4 14 (fr_end (q_ask I 4 rule) (q_L L) 4).2) rfl ?_
            exact zv_iret (zs_at rfl) rfl ⟨Nat.le_refl _, Nat.le_refl _⟩ (zw_to (by unfold q_lfv; rw [if_neg t58.1, if_neg t58.2]; rfl) rfl rfl rfl)
        · have _c := c20
          refine zv_run 4 (pc' := 31) (lo' := [some (.ref 0), some (.int rule), some (.int what)]) (st' := [.int (I 4 1), .int what]) (I' := I) (L' := L) (R' := zw_RC 4 14 la) rfl ?_
          refine zv_icmp_lt (tgt := 36) (zs_at rfl) (by decide) (fun c31 => ?_) (fun c31 => ?_)
          · have _c := c31
            refine zv_run 2 (pc' := 38) (lo' := [some (.ref 0), some (.int rule), some (.int what)]) (st' := [.int rule, .ref 0]) (I' := I) (L' := L) (R' := zw_RC 4 14 la) rfl ?_
            refine zv_cV (M' := mm_X9_ask) (ci := 9) (a := 0) (av := [.int rule]) (st := []) (r := none) (I' := (q_ask I 4 rule)) (L' := (q_L L)) (R' := zw_RC 4 14 la) rfl zc_9_156 gd_X9_ask rfl rfl rfl (Nat.le_of_ble_eq_true rfl) (ct_X9_ask_4 (d := _)) ⟨Nat.le_refl _, Nat.le_refl _⟩ ?_
            refine zv_run 0 (pc' := 41) (lo' := [some (.ref 0), some (.int rule), some (.int what)]) (st' := []) (I' := (q_ask I 4 rule)) (L' := (q_L L)) (R' := zw_RC 4 14 la) rfl ?_
            refine zv_run 6 (pc' := 53) (lo' := [some (.ref 0), some (.int rule), some (.int what)]) (st' := [.ref 34, .ref 4, .ref 36]) (I' := (q_ask I 4 rule)) (L' := (q_L L)) (R' := zw_RC 4 14 la) rfl ?_
            refine zv_cV (M' := mm_X3_run) (ci := 3) (a := 36) (av := [.ref 4, .ref 34]) (st := []) (r := some (.int (fr_score (q_ask I 4 rule) (q_L L) 4))) (I' := (fr_end (q_ask I 4 rule) (q_L L) 4).1) (L' := (q_L L)) (R' := zw_RC 4 14 (fr_end (q_ask I 4 rule) (q_L L) 4).2) rfl zc_9_159 gd_X3_run rfl rfl rfl (Nat.le_of_ble_eq_true rfl) (ct_X3_run (d := _) (Or.inl rfl) hr) ⟨Nat.le_refl _, Nat.le_refl _⟩ ?_
            refine zv_run 0 (pc' := 56) (lo' := [some (.ref 0), some (.int rule), some (.int what)]) (st' := [.int (fr_score (q_ask I 4 rule) (q_L L) 4)]) (I' := (fr_end (q_ask I 4 rule) (q_L L) 4).1) (L' := (q_L L)) (R' := zw_RC 4 14 (fr_end (q_ask I 4 rule) (q_L L) 4).2) rfl ?_
            refine zv_run 2 (pc' := 58) (lo' := [some (.ref 0), some (.int rule), some (.int what)]) (st' := [.int what]) (I' := (fr_end (q_ask I 4 rule) (q_L L) 4).1) (L' := (q_L L)) (R' := zw_RC 4 14 (fr_end (q_ask I 4 rule) (q_L L) 4).2) rfl ?_
            rcases (show what.toInt = 6 ∨ what.toInt = 7 ∨ (¬ what.toInt = 6 ∧ ¬ what.toInt = 7) from by omega) with t58e | t58e | t58
            · refine zv_lookup (off := 26) (tgt := 84) (zs_at rfl) rfl (by rw [t58e]; rfl) rfl ?_
              refine zv_run 4 (pc' := 94) (lo' := [some (.ref 0), some (.int rule), some (.int what)]) (st' := [.int ((fr_end (q_ask I 4 rule) (q_L L) 4).1 39 2)]) (I' := (fr_end (q_ask I 4 rule) (q_L L) 4).1) (L' := (q_L L)) (R' := zw_RC 4 14 (fr_end (q_ask I 4 rule) (q_L L) 4).2) rfl ?_
              exact zv_iret (zs_at rfl) rfl ⟨Nat.le_refl _, Nat.le_refl _⟩ (zw_to (by unfold q_lfv; rw [if_pos t58e]; rfl) rfl rfl rfl)
            · refine zv_lookup (off := 37) (tgt := 95) (zs_at rfl) rfl (by rw [t58e]; rfl) rfl ?_
              refine zv_run 4 (pc' := 105) (lo' := [some (.ref 0), some (.int rule), some (.int what)]) (st' := [.int ((fr_end (q_ask I 4 rule) (q_L L) 4).1 39 0)]) (I' := (fr_end (q_ask I 4 rule) (q_L L) 4).1) (L' := (q_L L)) (R' := zw_RC 4 14 (fr_end (q_ask I 4 rule) (q_L L) 4).2) rfl ?_
              exact zv_iret (zs_at rfl) rfl ⟨Nat.le_refl _, Nat.le_refl _⟩ (zw_to (by unfold q_lfv; rw [if_neg (by omega), if_pos t58e]; rfl) rfl rfl rfl)
            · refine zv_lookup (off := 48) (tgt := 106) (zs_at rfl) rfl (by simp [Op.lookupswitch.offset, show ¬ (6 : Int) = what.toInt from fun q => t58.1 q.symm, show ¬ (7 : Int) = what.toInt from fun q => t58.2 q.symm]) rfl ?_
              refine zv_run 4 (pc' := 114) (lo' := [some (.ref 0), some (.int rule), some (.int what)]) (st' := [.int what, .ref 37]) (I' := (fr_end (q_ask I 4 rule) (q_L L) 4).1) (L' := (q_L L)) (R' := zw_RC 4 14 (fr_end (q_ask I 4 rule) (q_L L) 4).2) rfl ?_
              refine zv_cV (M' := mm_X7_heatOf) (ci := 7) (a := 37) (av := [.int what]) (st := []) (r := some (.int (ft_unitsIn (fr_end (q_ask I 4 rule) (q_L L) 4).1 what / (fr_end (q_ask I 4 rule) (q_L L) 4).1 37 2))) (I' := (fr_end (q_ask I 4 rule) (q_L L) 4).1) (L' := (q_L L)) (R' := zw_RC 4 14 (fr_end (q_ask I 4 rule) (q_L L) 4).2) rfl zc_9_185 gd_X7_heatOf rfl rfl rfl (Nat.le_of_ble_eq_true rfl) (ct_X7_heatOf (d := _) hT) ⟨Nat.le_refl _, Nat.le_refl _⟩ ?_
              refine zv_run 0 (pc' := 117) (lo' := [some (.ref 0), some (.int rule), some (.int what)]) (st' := [.int (ft_unitsIn (fr_end (q_ask I 4 rule) (q_L L) 4).1 what / (fr_end (q_ask I 4 rule) (q_L L) 4).1 37 2)]) (I' := (fr_end (q_ask I 4 rule) (q_L L) 4).1) (L' := (q_L L)) (R' := zw_RC 4 14 (fr_end (q_ask I 4 rule) (q_L L) 4).2) rfl ?_
              exact zv_iret (zs_at rfl) rfl ⟨Nat.le_refl _, Nat.le_refl _⟩ (zw_to (by unfold q_lfv; rw [if_neg t58.1, if_neg t58.2]; rfl) rfl rfl rfl)
          · have _c := c31
            refine zv_run 1 (pc' := 35) (lo' := [some (.ref 0), some (.int rule), some (.int what)]) (st' := [.int (-1)]) (I' := I) (L' := L) (R' := zw_RC 4 14 la) rfl ?_
            exact zv_iret (zs_at rfl) rfl ⟨Nat.le_refl _, Nat.le_refl _⟩ (absurd hok (fun q => by first | exact q.1 c4 | exact q.2.1 c8 | exact q.2.2.1 c14 | exact q.2.2.2.elim c20 c31))
theorem ct_X9_left_14 {d : Nat} {I : zx_I} {L : zx_L} {la : Option Nat} {rule what : Int32} (hok : q_lfok I 14 rule what) (hr : rn_ok (q_ask I 14 rule) (q_L L) 14) (hT : tk_ok (q_end I L 14 rule).1) : zx_M0 mm_X9_left (d + 5) 0 0 [.ref 0, .int rule, .int what] zw_SC I L (zw_RC 14 4 la) (zw_ret (some (.int (q_lfv (q_end I L 14 rule).1 what))) zw_SC (q_end I L 14 rule).1 (q_L L) (zw_RC 14 4 (q_end I L 14 rule).2)) := by
  refine zv_entry gd_X9_left (Nat.le_of_ble_eq_true rfl) ?_
  refine zv_run 1 (pc' := 1) (lo' := [some (.ref 0), some (.int rule), some (.int what)]) (st' := [.int rule]) (I' := I) (L' := L) (R' := zw_RC 14 4 la) rfl ?_
  refine zv_cS (M' := mm_X9_isRule) (av := [.int rule]) (st := []) (r := some (.int (q_rule rule))) (I' := I) (L' := L) (R' := zw_RC 14 4 la) rfl zc_9_152 gd_X9_isRule rfl (Nat.le_of_ble_eq_true rfl) (ct_X9_isRule (d := _)) ⟨Nat.le_refl _, Nat.le_refl _⟩ ?_
  refine zv_run 0 (pc' := 4) (lo' := [some (.ref 0), some (.int rule), some (.int what)]) (st' := [.int (q_rule rule)]) (I' := I) (L' := L) (R' := zw_RC 14 4 la) rfl ?_
  refine zv_if_eq (tgt := 34) (zs_at rfl) (by decide) (fun c4 => ?_) (fun c4 => ?_)
  · have _c := c4
    refine zv_run 1 (pc' := 35) (lo' := [some (.ref 0), some (.int rule), some (.int what)]) (st' := [.int (-1)]) (I' := I) (L' := L) (R' := zw_RC 14 4 la) rfl ?_
    exact zv_iret (zs_at rfl) rfl ⟨Nat.le_refl _, Nat.le_refl _⟩ (absurd hok (fun q => by first | exact q.1 c4 | exact q.2.1 c8 | exact q.2.2.1 c14 | exact q.2.2.2.elim c20 c31))
  · have _c := c4
    refine zv_run 1 (pc' := 8) (lo' := [some (.ref 0), some (.int rule), some (.int what)]) (st' := [.int what]) (I' := I) (L' := L) (R' := zw_RC 14 4 la) rfl ?_
    refine zv_if_lt (tgt := 34) (zs_at rfl) (by decide) (fun c8 => ?_) (fun c8 => ?_)
    · have _c := c8
      refine zv_run 1 (pc' := 35) (lo' := [some (.ref 0), some (.int rule), some (.int what)]) (st' := [.int (-1)]) (I' := I) (L' := L) (R' := zw_RC 14 4 la) rfl ?_
      exact zv_iret (zs_at rfl) rfl ⟨Nat.le_refl _, Nat.le_refl _⟩ (absurd hok (fun q => by first | exact q.1 c4 | exact q.2.1 c8 | exact q.2.2.1 c14 | exact q.2.2.2.elim c20 c31))
    · have _c := c8
      refine zv_run 2 (pc' := 14) (lo' := [some (.ref 0), some (.int rule), some (.int what)]) (st' := [.int 7, .int what]) (I' := I) (L' := L) (R' := zw_RC 14 4 la) rfl ?_
      refine zv_icmp_gt (tgt := 34) (zs_at rfl) (by decide) (fun c14 => ?_) (fun c14 => ?_)
      · have _c := c14
        refine zv_run 1 (pc' := 35) (lo' := [some (.ref 0), some (.int rule), some (.int what)]) (st' := [.int (-1)]) (I' := I) (L' := L) (R' := zw_RC 14 4 la) rfl ?_
        exact zv_iret (zs_at rfl) rfl ⟨Nat.le_refl _, Nat.le_refl _⟩ (absurd hok (fun q => by first | exact q.1 c4 | exact q.2.1 c8 | exact q.2.2.1 c14 | exact q.2.2.2.elim c20 c31))
      · have _c := c14
        refine zv_run 2 (pc' := 20) (lo' := [some (.ref 0), some (.int rule), some (.int what)]) (st' := [.int 6, .int what]) (I' := I) (L' := L) (R' := zw_RC 14 4 la) rfl ?_
        refine zv_icmp_ge (tgt := 36) (zs_at rfl) (by decide) (fun c20 => ?_) (fun c20 => ?_)
        · have _c := c20
          refine zv_run 2 (pc' := 38) (lo' := [some (.ref 0), some (.int rule), some (.int what)]) (st' := [.int rule, .ref 0]) (I' := I) (L' := L) (R' := zw_RC 14 4 la) rfl ?_
          refine zv_cV (M' := mm_X9_ask) (ci := 9) (a := 0) (av := [.int rule]) (st := []) (r := none) (I' := (q_ask I 14 rule)) (L' := (q_L L)) (R' := zw_RC 14 4 la) rfl zc_9_156 gd_X9_ask rfl rfl rfl (Nat.le_of_ble_eq_true rfl) (ct_X9_ask_14 (d := _)) ⟨Nat.le_refl _, Nat.le_refl _⟩ ?_
          refine zv_run 0 (pc' := 41) (lo' := [some (.ref 0), some (.int rule), some (.int what)]) (st' := []) (I' := (q_ask I 14 rule)) (L' := (q_L L)) (R' := zw_RC 14 4 la) rfl ?_
          refine zv_run 6 (pc' := 53) (lo' := [some (.ref 0), some (.int rule), some (.int what)]) (st' := [.ref 34, .ref 14, .ref 36]) (I' := (q_ask I 14 rule)) (L' := (q_L L)) (R' := zw_RC 14 4 la) rfl ?_
          refine zv_cV (M' := mm_X3_run) (ci := 3) (a := 36) (av := [.ref 14, .ref 34]) (st := []) (r := some (.int (fr_score (q_ask I 14 rule) (q_L L) 14))) (I' := (fr_end (q_ask I 14 rule) (q_L L) 14).1) (L' := (q_L L)) (R' := zw_RC 14 4 (fr_end (q_ask I 14 rule) (q_L L) 14).2) rfl zc_9_159 gd_X3_run rfl rfl rfl (Nat.le_of_ble_eq_true rfl) (ct_X3_run (d := _) (Or.inr rfl) hr) ⟨Nat.le_refl _, Nat.le_refl _⟩ ?_
          refine zv_run 0 (pc' := 56) (lo' := [some (.ref 0), some (.int rule), some (.int what)]) (st' := [.int (fr_score (q_ask I 14 rule) (q_L L) 14)]) (I' := (fr_end (q_ask I 14 rule) (q_L L) 14).1) (L' := (q_L L)) (R' := zw_RC 14 4 (fr_end (q_ask I 14 rule) (q_L L) 14).2) rfl ?_
          refine zv_run 2 (pc' := 58) (lo' := [some (.ref 0), some (.int rule), some (.int what)]) (st' := [.int what]) (I' := (fr_end (q_ask I 14 rule) (q_L L) 14).1) (L' := (q_L L)) (R' := zw_RC 14 4 (fr_end (q_ask I 14 rule) (q_L L) 14).2) rfl ?_
          rcases (show what.toInt = 6 ∨ what.toInt = 7 ∨ (¬ what.toInt = 6 ∧ ¬ what.toInt = 7) from by omega) with t58e | t58e | t58
          · refine zv_lookup (off := 26) (tgt := 84) (zs_at rfl) rfl (by rw [t58e]; rfl) rfl ?_
            refine zv_run 4 (pc' := 94) (lo' := [some (.ref 0), some (.int rule), some (.int what)]) (st' := [.int ((fr_end (q_ask I 14 rule) (q_L L) 14).1 39 2)]) (I' := (fr_end (q_ask I 14 rule) (q_L L) 14).1) (L' := (q_L L)) (R' := zw_RC 14 4 (fr_end (q_ask I 14 rule) (q_L L) 14).2) rfl ?_
            exact zv_iret (zs_at rfl) rfl ⟨Nat.le_refl _, Nat.le_refl _⟩ (zw_to (by unfold q_lfv; rw [if_pos t58e]; rfl) rfl rfl rfl)
          · refine zv_lookup (off := 37) (tgt := 95) (zs_at rfl) rfl (by rw [t58e]; rfl) rfl ?_
            refine zv_run 4 (pc' := 105) (lo' := [some (.ref 0), some (.int rule), some (.int what)]) (st' := [.int ((fr_end (q_ask I 14 rule) (q_L L) 14).1 39 0)]) (I' := (fr_end (q_ask I 14 rule) (q_L L) 14).1) (L' := (q_L L)) (R' := zw_RC 14 4 (fr_end (q_ask I 14 rule) (q_L L) 14).2) rfl ?_
            exact zv_iret (zs_at rfl) rfl ⟨Nat.le_refl _, Nat.le_refl _⟩ (zw_to (by unfold q_lfv; rw [if_neg (by omega), if_pos t58e]; rfl) rfl rfl rfl)
          · refine zv_lookup (off := 48) (tgt := 106) (zs_at rfl) rfl (by simp [Op.lookupswitch.offset, show ¬ (6 : Int) = what.toInt from fun q => t58.1 q.symm, show ¬ (7 : Int) = what.toInt from fun q => t58.2 q.symm]) rfl ?_
            refine zv_run 4 (pc' := 114) (lo' := [some (.ref 0), some (.int rule), some (.int what)]) (st' := [.int what, .ref 37]) (I' := (fr_end (q_ask I 14 rule) (q_L L) 14).1) (L' := (q_L L)) (R' := zw_RC 14 4 (fr_end (q_ask I 14 rule) (q_L L) 14).2) rfl ?_
            refine zv_cV (M' := mm_X7_heatOf) (ci := 7) (a := 37) (av := [.int what]) (st := []) (r := some (.int (ft_unitsIn (fr_end (q_ask I 14 rule) (q_L L) 14).1 what / (fr_end (q_ask I 14 rule) (q_L L) 14).1 37 2))) (I' := (fr_end (q_ask I 14 rule) (q_L L) 14).1) (L' := (q_L L)) (R' := zw_RC 14 4 (fr_end (q_ask I 14 rule) (q_L L) 14).2) rfl zc_9_185 gd_X7_heatOf rfl rfl rfl (Nat.le_of_ble_eq_true rfl) (ct_X7_heatOf (d := _) hT) ⟨Nat.le_refl _, Nat.le_refl _⟩ ?_
            refine zv_run 0 (pc' := 117) (lo' := [some (.ref 0), some (.int rule), some (.int what)]) (st' := [.int (ft_unitsIn (fr_end (q_ask I 14 rule) (q_L L) 14).1 what / (fr_end (q_ask I 14 rule) (q_L L) 14).1 37 2)]) (I' := (fr_end (q_ask I 14 rule) (q_L L) 14).1) (L' := (q_L L)) (R' := zw_RC 14 4 (fr_end (q_ask I 14 rule) (q_L L) 14).2) rfl ?_
            exact zv_iret (zs_at rfl) rfl ⟨Nat.le_refl _, Nat.le_refl _⟩ (zw_to (by unfold q_lfv; rw [if_neg t58.1, if_neg t58.2]; rfl) rfl rfl rfl)
        · have _c := c20
          refine zv_run 4 (pc' := 31) (lo' := [some (.ref 0), some (.int rule), some (.int what)]) (st' := [.int (I 14 1), .int what]) (I' := I) (L' := L) (R' := zw_RC 14 4 la) rfl ?_
          refine zv_icmp_lt (tgt := 36) (zs_at rfl) (by decide) (fun c31 => ?_) (fun c31 => ?_)
          · have _c := c31
            refine zv_run 2 (pc' := 38) (lo' := [some (.ref 0), some (.int rule), some (.int what)]) (st' := [.int rule, .ref 0]) (I' := I) (L' := L) (R' := zw_RC 14 4 la) rfl ?_
            refine zv_cV (M' := mm_X9_ask) (ci := 9) (a := 0) (av := [.int rule]) (st := []) (r := none) (I' := (q_ask I 14 rule)) (L' := (q_L L)) (R' := zw_RC 14 4 la) rfl zc_9_156 gd_X9_ask rfl rfl rfl (Nat.le_of_ble_eq_true rfl) (ct_X9_ask_14 (d := _)) ⟨Nat.le_refl _, Nat.le_refl _⟩ ?_
            refine zv_run 0 (pc' := 41) (lo' := [some (.ref 0), some (.int rule), some (.int what)]) (st' := []) (I' := (q_ask I 14 rule)) (L' := (q_L L)) (R' := zw_RC 14 4 la) rfl ?_
            refine zv_run 6 (pc' := 53) (lo' := [some (.ref 0), some (.int rule), some (.int what)]) (st' := [.ref 34, .ref 14, .ref 36]) (I' := (q_ask I 14 rule)) (L' := (q_L L)) (R' := zw_RC 14 4 la) rfl ?_
            refine zv_cV (M' := mm_X3_run) (ci := 3) (a := 36) (av := [.ref 14, .ref 34]) (st := []) (r := some (.int (fr_score (q_ask I 14 rule) (q_L L) 14))) (I' := (fr_end (q_ask I 14 rule) (q_L L) 14).1) (L' := (q_L L)) (R' := zw_RC 14 4 (fr_end (q_ask I 14 rule) (q_L L) 14).2) rfl zc_9_159 gd_X3_run rfl rfl rfl (Nat.le_of_ble_eq_true rfl) (ct_X3_run (d := _) (Or.inr rfl) hr) ⟨Nat.le_refl _, Nat.le_refl _⟩ ?_
            refine zv_run 0 (pc' := 56) (lo' := [some (.ref 0), some (.int rule), some (.int what)]) (st' := [.int (fr_score (q_ask I 14 rule) (q_L L) 14)]) (I' := (fr_end (q_ask I 14 rule) (q_L L) 14).1) (L' := (q_L L)) (R' := zw_RC 14 4 (fr_end (q_ask I 14 rule) (q_L L) 14).2) rfl ?_
            refine zv_run 2 (pc' := 58) (lo' := [some (.ref 0), some (.int rule), some (.int what)]) (st' := [.int what]) (I' := (fr_end (q_ask I 14 rule) (q_L L) 14).1) (L' := (q_L L)) (R' := zw_RC 14 4 (fr_end (q_ask I 14 rule) (q_L L) 14).2) rfl ?_
            rcases (show what.toInt = 6 ∨ what.toInt = 7 ∨ (¬ what.toInt = 6 ∧ ¬ what.toInt = 7) from by omega) with t58e | t58e | t58
            · refine zv_lookup (off := 26) (tgt := 84) (zs_at rfl) rfl (by rw [t58e]; rfl) rfl ?_
              refine zv_run 4 (pc' := 94) (lo' := [some (.ref 0), some (.int rule), some (.int what)]) (st' := [.int ((fr_end (q_ask I 14 rule) (q_L L) 14).1 39 2)]) (I' := (fr_end (q_ask I 14 rule) (q_L L) 14).1) (L' := (q_L L)) (R' := zw_RC 14 4 (fr_end (q_ask I 14 rule) (q_L L) 14).2) rfl ?_
              exact zv_iret (zs_at rfl) rfl ⟨Nat.le_refl _, Nat.le_refl _⟩ (zw_to (by unfold q_lfv; rw [if_pos t58e]; rfl) rfl rfl rfl)
            · refine zv_lookup (off := 37) (tgt := 95) (zs_at rfl) rfl (by rw [t58e]; rfl) rfl ?_
              refine zv_run 4 (pc' := 105) (lo' := [some (.ref 0), some (.int rule), some (.int what)]) (st' := [.int ((fr_end (q_ask I 14 rule) (q_L L) 14).1 39 0)]) (I' := (fr_end (q_ask I 14 rule) (q_L L) 14).1) (L' := (q_L L)) (R' := zw_RC 14 4 (fr_end (q_ask I 14 rule) (q_L L) 14).2) rfl ?_
              exact zv_iret (zs_at rfl) rfl ⟨Nat.le_refl _, Nat.le_refl _⟩ (zw_to (by unfold q_lfv; rw [if_neg (by omega), if_pos t58e]; rfl) rfl rfl rfl)
            · refine zv_lookup (off := 48) (tgt := 106) (zs_at rfl) rfl (by simp [Op.lookupswitch.offset, show ¬ (6 : Int) = what.toInt from fun q => t58.1 q.symm, show ¬ (7 : Int) = what.toInt from fun q => t58.2 q.symm]) rfl ?_
              refine zv_run 4 (pc' := 114) (lo' := [some (.ref 0), some (.int rule), some (.int what)]) (st' := [.int what, .ref 37]) (I' := (fr_end (q_ask I 14 rule) (q_L L) 14).1) (L' := (q_L L)) (R' := zw_RC 14 4 (fr_end (q_ask I 14 rule) (q_L L) 14).2) rfl ?_
              refine zv_cV (M' := mm_X7_heatOf) (ci := 7) (a := 37) (av := [.int what]) (st := []) (r := some (.int (ft_unitsIn (fr_end (q_ask I 14 rule) (q_L L) 14).1 what / (fr_end (q_ask I 14 rule) (q_L L) 14).1 37 2))) (I' := (fr_end (q_ask I 14 rule) (q_L L) 14).1) (L' := (q_L L)) (R' := zw_RC 14 4 (fr_end (q_ask I 14 rule) (q_L L) 14).2) rfl zc_9_185 gd_X7_heatOf rfl rfl rfl (Nat.le_of_ble_eq_true rfl) (ct_X7_heatOf (d := _) hT) ⟨Nat.le_refl _, Nat.le_refl _⟩ ?_
              refine zv_run 0 (pc' := 117) (lo' := [some (.ref 0), some (.int rule), some (.int what)]) (st' := [.int (ft_unitsIn (fr_end (q_ask I 14 rule) (q_L L) 14).1 what / (fr_end (q_ask I 14 rule) (q_L L) 14).1 37 2)]) (I' := (fr_end (q_ask I 14 rule) (q_L L) 14).1) (L' := (q_L L)) (R' := zw_RC 14 4 (fr_end (q_ask I 14 rule) (q_L L) 14).2) rfl ?_
              exact zv_iret (zs_at rfl) rfl ⟨Nat.le_refl _, Nat.le_refl _⟩ (zw_to (by unfold q_lfv; rw [if_neg t58.1, if_neg t58.2]; rfl) rfl rfl rfl)
          · have _c := c31
            refine zv_run 1 (pc' := 35) (lo' := [some (.ref 0), some (.int rule), some (.int what)]) (st' := [.int (-1)]) (I' := I) (L' := L) (R' := zw_RC 14 4 la) rfl ?_
            exact zv_iret (zs_at rfl) rfl ⟨Nat.le_refl _, Nat.le_refl _⟩ (absurd hok (fun q => by first | exact q.1 c4 | exact q.2.1 c8 | exact q.2.2.1 c14 | exact q.2.2.2.elim c20 c31))
theorem ct_X9_left {d : Nat} {I : zx_I} {L : zx_L} {h sp : Nat} {la : Option Nat} {rule what : Int32} (hh : hsp h sp) (hok : q_lfok I h rule what) (hr : rn_ok (q_ask I h rule) (q_L L) h) (hT : tk_ok (q_end I L h rule).1) : zx_M0 mm_X9_left (d + 5) 0 0 [.ref 0, .int rule, .int what] zw_SC I L (zw_RC h sp la) (zw_ret (some (.int (q_lfv (q_end I L h rule).1 what))) zw_SC (q_end I L h rule).1 (q_L L) (zw_RC h sp (q_end I L h rule).2)) := by
  rcases hh with ⟨rfl, rfl⟩ | ⟨rfl, rfl⟩
  · exact ct_X9_left_4 hok hr hT
  · exact ct_X9_left_14 hok hr hT
theorem ct_X9_tap_no_4 {d : Nat} {I : zx_I} {L : zx_L} {la : Option Nat} {rule s n p : Int32} (hno : ¬ q_tpok rule s n p) : zx_M0 mm_X9_tap (d + 1) 0 0 [.ref 0, .int rule, .int s, .int n, .int p] zw_SC I L (zw_RC 4 14 la) (zw_ret (some (.int (-1))) zw_SC I L (zw_RC 4 14 la)) := by
  refine zv_entry gd_X9_tap (Nat.le_of_ble_eq_true rfl) ?_
  refine zv_run 1 (pc' := 1) (lo' := [some (.ref 0), some (.int rule), some (.int s), some (.int n), some (.int p)]) (st' := [.int rule]) (I' := I) (L' := L) (R' := zw_RC 4 14 la) rfl ?_
  refine zv_cS (M' := mm_X9_isRule) (av := [.int rule]) (st := []) (r := some (.int (q_rule rule))) (I' := I) (L' := L) (R' := zw_RC 4 14 la) rfl zc_9_152 gd_X9_isRule rfl (Nat.le_of_ble_eq_true rfl) (ct_X9_isRule (d := _)) ⟨Nat.le_refl _, Nat.le_refl _⟩ ?_
  refine zv_run 0 (pc' := 4) (lo' := [some (.ref 0), some (.int rule), some (.int s), some (.int n), some (.int p)]) (st' := [.int (q_rule rule)]) (I' := I) (L' := L) (R' := zw_RC 4 14 la) rfl ?_
  refine zv_if_eq (tgt := 41) (zs_at rfl) (by decide) (fun c4 => ?_) (fun c4 => ?_)
  · have _c := c4
    refine zv_run 1 (pc' := 42) (lo' := [some (.ref 0), some (.int rule), some (.int s), some (.int n), some (.int p)]) (st' := [.int (-1)]) (I' := I) (L' := L) (R' := zw_RC 4 14 la) rfl ?_
    exact zv_iret (zs_at rfl) rfl ⟨Nat.le_refl _, Nat.le_refl _⟩ (zw_to rfl rfl rfl rfl)
  · have _c := c4
    refine zv_run 1 (pc' := 8) (lo' := [some (.ref 0), some (.int rule), some (.int s), some (.int n), some (.int p)]) (st' := [.int s]) (I' := I) (L' := L) (R' := zw_RC 4 14 la) rfl ?_
    refine zv_if_lt (tgt := 41) (zs_at rfl) (by decide) (fun c8 => ?_) (fun c8 => ?_)
    · have _c := c8
      refine zv_run 1 (pc' := 42) (lo' := [some (.ref 0), some (.int rule), some (.int s), some (.int n), some (.int p)]) (st' := [.int (-1)]) (I' := I) (L' := L) (R' := zw_RC 4 14 la) rfl ?_
      exact zv_iret (zs_at rfl) rfl ⟨Nat.le_refl _, Nat.le_refl _⟩ (zw_to rfl rfl rfl rfl)
    · have _c := c8
      refine zv_run 2 (pc' := 14) (lo' := [some (.ref 0), some (.int rule), some (.int s), some (.int n), some (.int p)]) (st' := [.int 59, .int s]) (I' := I) (L' := L) (R' := zw_RC 4 14 la) rfl ?_
      refine zv_icmp_gt (tgt := 41) (zs_at rfl) (by decide) (fun c14 => ?_) (fun c14 => ?_)
      · have _c := c14
        refine zv_run 1 (pc' := 42) (lo' := [some (.ref 0), some (.int rule), some (.int s), some (.int n), some (.int p)]) (st' := [.int (-1)]) (I' := I) (L' := L) (R' := zw_RC 4 14 la) rfl ?_
        exact zv_iret (zs_at rfl) rfl ⟨Nat.le_refl _, Nat.le_refl _⟩ (zw_to rfl rfl rfl rfl)
      · have _c := c14
        refine zv_run 2 (pc' := 19) (lo' := [some (.ref 0), some (.int rule), some (.int s), some (.int n), some (.int p)]) (st' := [.int 1, .int n]) (I' := I) (L' := L) (R' := zw_RC 4 14 la) rfl ?_
        refine zv_icmp_lt (tgt := 41) (zs_at rfl) (by decide) (fun c19 => ?_) (fun c19 => ?_)
        · have _c := c19
          refine zv_run 1 (pc' := 42) (lo' := [some (.ref 0), some (.int rule), some (.int s), some (.int n), some (.int p)]) (st' := [.int (-1)]) (I' := I) (L' := L) (R' := zw_RC 4 14 la) rfl ?_
          exact zv_iret (zs_at rfl) rfl ⟨Nat.le_refl _, Nat.le_refl _⟩ (zw_to rfl rfl rfl rfl)
        · have _c := c19
          refine zv_run 2 (pc' := 25) (lo' := [some (.ref 0), some (.int rule), some (.int s), some (.int n), some (.int p)]) (st' := [.int 60, .int n]) (I' := I) (L' := L) (R' := zw_RC 4 14 la) rfl ?_
          refine zv_icmp_gt (tgt := 41) (zs_at rfl) (by decide) (fun c25 => ?_) (fun c25 => ?_)
          · have _c := c25
            refine zv_run 1 (pc' := 42) (lo' := [some (.ref 0), some (.int rule), some (.int s), some (.int n), some (.int p)]) (st' := [.int (-1)]) (I' := I) (L' := L) (R' := zw_RC 4 14 la) rfl ?_
            exact zv_iret (zs_at rfl) rfl ⟨Nat.le_refl _, Nat.le_refl _⟩ (zw_to rfl rfl rfl rfl)
          · have _c := c25
            refine zv_run 2 (pc' := 31) (lo' := [some (.ref 0), some (.int rule), some (.int s), some (.int n), some (.int p)]) (st' := [.int 1, .int p]) (I' := I) (L' := L) (R' := zw_RC 4 14 la) rfl ?_
            refine zv_icmp_lt (tgt := 41) (zs_at rfl) (by decide) (fun c31 => ?_) (fun c31 => ?_)
            · have _c := c31
              refine zv_run 1 (pc' := 42) (lo' := [some (.ref 0), some (.int rule), some (.int s), some (.int n), some (.int p)]) (st' := [.int (-1)]) (I' := I) (L' := L) (R' := zw_RC 4 14 la) rfl ?_
              exact zv_iret (zs_at rfl) rfl ⟨Nat.le_refl _, Nat.le_refl _⟩ (zw_to rfl rfl rfl rfl)
            · have _c := c31
              refine zv_run 2 (pc' := 38) (lo' := [some (.ref 0), some (.int rule), some (.int s), some (.int n), some (.int p)]) (st' := [.int 99, .int p]) (I' := I) (L' := L) (R' := zw_RC 4 14 la) rfl ?_
              refine zv_icmp_le (tgt := 43) (zs_at rfl) (by decide) (fun c38 => ?_) (fun c38 => ?_)
              · have _c := c38
                exact absurd ⟨c4, c8, c14, c19, c25, c31, c38⟩ hno
              · have _c := c38
                refine zv_run 1 (pc' := 42) (lo' := [some (.ref 0), some (.int rule), some (.int s), some (.int n), some (.int p)]) (st' := [.int (-1)]) (I' := I) (L' := L) (R' := zw_RC 4 14 la) rfl ?_
                exact zv_iret (zs_at rfl) rfl ⟨Nat.le_refl _, Nat.le_refl _⟩ (zw_to rfl rfl rfl rfl)
theorem ct_X9_tap_no_14 {d : Nat} {I : zx_I} {L : zx_L} {la : Option Nat} {rule s n p : Int32} (hno : ¬ q_tpok rule s n p) : zx_M0 mm_X9_tap (d + 1) 0 0 [.ref 0, .int rule, .int s, .int n, .int p] zw_SC I L (zw_RC 14 4 la) (zw_ret (some (.int (-1))) zw_SC I L (zw_RC 14 4 la)) := by
  refine zv_entry gd_X9_tap (Nat.le_of_ble_eq_true rfl) ?_
  refine zv_run 1 (pc' := 1) (lo' := [some (.ref 0), some (.int rule), some (.int s), some (.int n), some (.int p)]) (st' := [.int rule]) (I' := I) (L' := L) (R' := zw_RC 14 4 la) rfl ?_
  refine zv_cS (M' := mm_X9_isRule) (av := [.int rule]) (st := []) (r := some (.int (q_rule rule))) (I' := I) (L' := L) (R' := zw_RC 14 4 la) rfl zc_9_152 gd_X9_isRule rfl (Nat.le_of_ble_eq_true rfl) (ct_X9_isRule (d := _)) ⟨Nat.le_refl _, Nat.le_refl _⟩ ?_
  refine zv_run 0 (pc' := 4) (lo' := [some (.ref 0), some (.int rule), some (.int s), some (.int n), some (.int p)]) (st' := [.int (q_rule rule)]) (I' := I) (L' := L) (R' := zw_RC 14 4 la) rfl ?_
  refine zv_if_eq (tgt := 41) (zs_at rfl) (by decide) (fun c4 => ?_) (fun c4 => ?_)
  · have _c := c4
    refine zv_run 1 (pc' := 42) (lo' := [some (.ref 0), some (.int rule), some (.int s), some (.int n), some (.int p)]) (st' := [.int (-1)]) (I' := I) (L' := L) (R' := zw_RC 14 4 la) rfl ?_
    exact zv_iret (zs_at rfl) rfl ⟨Nat.le_refl _, Nat.le_refl _⟩ (zw_to rfl rfl rfl rfl)
  · have _c := c4
    refine zv_run 1 (pc' := 8) (lo' := [some (.ref 0), some (.int rule), some (.int s), some (.int n), some (.int p)]) (st' := [.int s]) (I' := I) (L' := L) (R' := zw_RC 14 4 la) rfl ?_
    refine zv_if_lt (tgt := 41) (zs_at rfl) (by decide) (fun c8 => ?_) (fun c8 => ?_)
    · have _c := c8
      refine zv_run 1 (pc' := 42) (lo' := [some (.ref 0), some (.int rule), some (.int s), some (.int n), some (.int p)]) (st' := [.int (-1)]) (I' := I) (L' := L) (R' := zw_RC 14 4 la) rfl ?_
      exact zv_iret (zs_at rfl) rfl ⟨Nat.le_refl _, Nat.le_refl _⟩ (zw_to rfl rfl rfl rfl)
    · have _c := c8
      refine zv_run 2 (pc' := 14) (lo' := [some (.ref 0), some (.int rule), some (.int s), some (.int n), some (.int p)]) (st' := [.int 59, .int s]) (I' := I) (L' := L) (R' := zw_RC 14 4 la) rfl ?_
      refine zv_icmp_gt (tgt := 41) (zs_at rfl) (by decide) (fun c14 => ?_) (fun c14 => ?_)
      · have _c := c14
        refine zv_run 1 (pc' := 42) (lo' := [some (.ref 0), some (.int rule), some (.int s), some (.int n), some (.int p)]) (st' := [.int (-1)]) (I' := I) (L' := L) (R' := zw_RC 14 4 la) rfl ?_
        exact zv_iret (zs_at rfl) rfl ⟨Nat.le_refl _, Nat.le_refl _⟩ (zw_to rfl rfl rfl rfl)
      · have _c := c14
        refine zv_run 2 (pc' := 19) (lo' := [some (.ref 0), some (.int rule), some (.int s), some (.int n), some (.int p)]) (st' := [.int 1, .int n]) (I' := I) (L' := L) (R' := zw_RC 14 4 la) rfl ?_
        refine zv_icmp_lt (tgt := 41) (zs_at rfl) (by decide) (fun c19 => ?_) (fun c19 => ?_)
        · have _c := c19
          refine zv_run 1 (pc' := 42) (lo' := [some (.ref 0), some (.int rule), some (.int s), some (.int n), some (.int p)]) (st' := [.int (-1)]) (I' := I) (L' := L) (R' := zw_RC 14 4 la) rfl ?_
          exact zv_iret (zs_at rfl) rfl ⟨Nat.le_refl _, Nat.le_refl _⟩ (zw_to rfl rfl rfl rfl)
        · have _c := c19
          refine zv_run 2 (pc' := 25) (lo' := [some (.ref 0), some (.int rule), some (.int s), some (.int n), some (.int p)]) (st' := [.int 60, .int n]) (I' := I) (L' := L) (R' := zw_RC 14 4 la) rfl ?_
          refine zv_icmp_gt (tgt := 41) (zs_at rfl) (by decide) (fun c25 => ?_) (fun c25 => ?_)
          · have _c := c25
            refine zv_run 1 (pc' := 42) (lo' := [some (.ref 0), some (.int rule), some (.int s), some (.int n), some (.int p)]) (st' := [.int (-1)]) (I' := I) (L' := L) (R' := zw_RC 14 4 la) rfl ?_
            exact zv_iret (zs_at rfl) rfl ⟨Nat.le_refl _, Nat.le_refl _⟩ (zw_to rfl rfl rfl rfl)
          · have _c := c25
            refine zv_run 2 (pc' := 31) (lo' := [some (.ref 0), some (.int rule), some (.int s), some (.int n), some (.int p)]) (st' := [.int 1, .int p]) (I' := I) (L' := L) (R' := zw_RC 14 4 la) rfl ?_
            refine zv_icmp_lt (tgt := 41) (zs_at rfl) (by decide) (fun c31 => ?_) (fun c31 => ?_)
            · have _c := c31
              refine zv_run 1 (pc' := 42) (lo' := [some (.ref 0), some (.int rule), some (.int s), some (.int n), some (.int p)]) (st' := [.int (-1)]) (I' := I) (L' := L) (R' := zw_RC 14 4 la) rfl ?_
              exact zv_iret (zs_at rfl) rfl ⟨Nat.le_refl _, Nat.le_refl _⟩ (zw_to rfl rfl rfl rfl)
            · have _c := c31
              refine zv_run 2 (pc' := 38) (lo' := [some (.ref 0), some (.int rule), some (.int s), some (.int n), some (.int p)]) (st' := [.int 99, .int p]) (I' := I) (L' := L) (R' := zw_RC 14 4 la) rfl ?_
              refine zv_icmp_le (tgt := 43) (zs_at rfl) (by decide) (fun c38 => ?_) (fun c38 => ?_)
              · have _c := c38
                exact absurd ⟨c4, c8, c14, c19, c25, c31, c38⟩ hno
              · have _c := c38
                refine zv_run 1 (pc' := 42) (lo' := [some (.ref 0), some (.int rule), some (.int s), some (.int n), some (.int p)]) (st' := [.int (-1)]) (I' := I) (L' := L) (R' := zw_RC 14 4 la) rfl ?_
                exact zv_iret (zs_at rfl) rfl ⟨Nat.le_refl _, Nat.le_refl _⟩ (zw_to rfl rfl rfl rfl)
theorem ct_X9_tap_no {d : Nat} {I : zx_I} {L : zx_L} {h sp : Nat} {la : Option Nat} {rule s n p : Int32} (hh : hsp h sp) (hno : ¬ q_tpok rule s n p) : zx_M0 mm_X9_tap (d + 1) 0 0 [.ref 0, .int rule, .int s, .int n, .int p] zw_SC I L (zw_RC h sp la) (zw_ret (some (.int (-1))) zw_SC I L (zw_RC h sp la)) := by
  rcases hh with ⟨rfl, rfl⟩ | ⟨rfl, rfl⟩
  · exact ct_X9_tap_no_4 hno
  · exact ct_X9_tap_no_14 hno
theorem ct_X9_tap_4 {d : Nat} {I : zx_I} {L : zx_L} {la : Option Nat} {rule s n p : Int32} (hok : q_tpok rule s n p) (hr : rn_ok (q_tpm I 4 rule s n p) (q_L L) 4) : zx_M0 mm_X9_tap (d + 5) 0 0 [.ref 0, .int rule, .int s, .int n, .int p] zw_SC I L (zw_RC 4 14 la) (zw_ret (some (.int (fr_score (q_tpm I 4 rule s n p) (q_L L) 4))) zw_SC (fr_end (q_tpm I 4 rule s n p) (q_L L) 4).1 (q_L L) (zw_RC 4 14 (fr_end (q_tpm I 4 rule s n p) (q_L L) 4).2)) := by
  refine zv_entry gd_X9_tap (Nat.le_of_ble_eq_true rfl) ?_
  refine zv_run 1 (pc' := 1) (lo' := [some (.ref 0), some (.int rule), some (.int s), some (.int n), some (.int p)]) (st' := [.int rule]) (I' := I) (L' := L) (R' := zw_RC 4 14 la) rfl ?_
  refine zv_cS (M' := mm_X9_isRule) (av := [.int rule]) (st := []) (r := some (.int (q_rule rule))) (I' := I) (L' := L) (R' := zw_RC 4 14 la) rfl zc_9_152 gd_X9_isRule rfl (Nat.le_of_ble_eq_true rfl) (ct_X9_isRule (d := _)) ⟨Nat.le_refl _, Nat.le_refl _⟩ ?_
  refine zv_run 0 (pc' := 4) (lo' := [some (.ref 0), some (.int rule), some (.int s), some (.int n), some (.int p)]) (st' := [.int (q_rule rule)]) (I' := I) (L' := L) (R' := zw_RC 4 14 la) rfl ?_
  refine zv_if_eq (tgt := 41) (zs_at rfl) (by decide) (fun c4 => ?_) (fun c4 => ?_)
  · have _c := c4
    refine zv_run 1 (pc' := 42) (lo' := [some (.ref 0), some (.int rule), some (.int s), some (.int n), some (.int p)]) (st' := [.int (-1)]) (I' := I) (L' := L) (R' := zw_RC 4 14 la) rfl ?_
    exact zv_iret (zs_at rfl) rfl ⟨Nat.le_refl _, Nat.le_refl _⟩ (absurd hok (fun q => by first | exact q.1 c4 | exact q.2.1 c8 | exact q.2.2.1 c14 | exact q.2.2.2.1 c19 | exact q.2.2.2.2.1 c25 | exact q.2.2.2.2.2.1 c31 | exact c38 q.2.2.2.2.2.2))
  · have _c := c4
    refine zv_run 1 (pc' := 8) (lo' := [some (.ref 0), some (.int rule), some (.int s), some (.int n), some (.int p)]) (st' := [.int s]) (I' := I) (L' := L) (R' := zw_RC 4 14 la) rfl ?_
    refine zv_if_lt (tgt := 41) (zs_at rfl) (by decide) (fun c8 => ?_) (fun c8 => ?_)
    · have _c := c8
      refine zv_run 1 (pc' := 42) (lo' := [some (.ref 0), some (.int rule), some (.int s), some (.int n), some (.int p)]) (st' := [.int (-1)]) (I' := I) (L' := L) (R' := zw_RC 4 14 la) rfl ?_
      exact zv_iret (zs_at rfl) rfl ⟨Nat.le_refl _, Nat.le_refl _⟩ (absurd hok (fun q => by first | exact q.1 c4 | exact q.2.1 c8 | exact q.2.2.1 c14 | exact q.2.2.2.1 c19 | exact q.2.2.2.2.1 c25 | exact q.2.2.2.2.2.1 c31 | exact c38 q.2.2.2.2.2.2))
    · have _c := c8
      refine zv_run 2 (pc' := 14) (lo' := [some (.ref 0), some (.int rule), some (.int s), some (.int n), some (.int p)]) (st' := [.int 59, .int s]) (I' := I) (L' := L) (R' := zw_RC 4 14 la) rfl ?_
      refine zv_icmp_gt (tgt := 41) (zs_at rfl) (by decide) (fun c14 => ?_) (fun c14 => ?_)
      · have _c := c14
        refine zv_run 1 (pc' := 42) (lo' := [some (.ref 0), some (.int rule), some (.int s), some (.int n), some (.int p)]) (st' := [.int (-1)]) (I' := I) (L' := L) (R' := zw_RC 4 14 la) rfl ?_
        exact zv_iret (zs_at rfl) rfl ⟨Nat.le_refl _, Nat.le_refl _⟩ (absurd hok (fun q => by first | exact q.1 c4 | exact q.2.1 c8 | exact q.2.2.1 c14 | exact q.2.2.2.1 c19 | exact q.2.2.2.2.1 c25 | exact q.2.2.2.2.2.1 c31 | exact c38 q.2.2.2.2.2.2))
      · have _c := c14
        refine zv_run 2 (pc' := 19) (lo' := [some (.ref 0), some (.int rule), some (.int s), some (.int n), some (.int p)]) (st' := [.int 1, .int n]) (I' := I) (L' := L) (R' := zw_RC 4 14 la) rfl ?_
        refine zv_icmp_lt (tgt := 41) (zs_at rfl) (by decide) (fun c19 => ?_) (fun c19 => ?_)
        · have _c := c19
          refine zv_run 1 (pc' := 42) (lo' := [some (.ref 0), some (.int rule), some (.int s), some (.int n), some (.int p)]) (st' := [.int (-1)]) (I' := I) (L' := L) (R' := zw_RC 4 14 la) rfl ?_
          exact zv_iret (zs_at rfl) rfl ⟨Nat.le_refl _, Nat.le_refl _⟩ (absurd hok (fun q => by first | exact q.1 c4 | exact q.2.1 c8 | exact q.2.2.1 c14 | exact q.2.2.2.1 c19 | exact q.2.2.2.2.1 c25 | exact q.2.2.2.2.2.1 c31 | exact c38 q.2.2.2.2.2.2))
        · have _c := c19
          refine zv_run 2 (pc' := 25) (lo' := [some (.ref 0), some (.int rule), some (.int s), some (.int n), some (.int p)]) (st' := [.int 60, .int n]) (I' := I) (L' := L) (R' := zw_RC 4 14 la) rfl ?_
          refine zv_icmp_gt (tgt := 41) (zs_at rfl) (by decide) (fun c25 => ?_) (fun c25 => ?_)
          · have _c := c25
            refine zv_run 1 (pc' := 42) (lo' := [some (.ref 0), some (.int rule), some (.int s), some (.int n), some (.int p)]) (st' := [.int (-1)]) (I' := I) (L' := L) (R' := zw_RC 4 14 la) rfl ?_
            exact zv_iret (zs_at rfl) rfl ⟨Nat.le_refl _, Nat.le_refl _⟩ (absurd hok (fun q => by first | exact q.1 c4 | exact q.2.1 c8 | exact q.2.2.1 c14 | exact q.2.2.2.1 c19 | exact q.2.2.2.2.1 c25 | exact q.2.2.2.2.2.1 c31 | exact c38 q.2.2.2.2.2.2))
          · have _c := c25
            refine zv_run 2 (pc' := 31) (lo' := [some (.ref 0), some (.int rule), some (.int s), some (.int n), some (.int p)]) (st' := [.int 1, .int p]) (I' := I) (L' := L) (R' := zw_RC 4 14 la) rfl ?_
            refine zv_icmp_lt (tgt := 41) (zs_at rfl) (by decide) (fun c31 => ?_) (fun c31 => ?_)
            · have _c := c31
              refine zv_run 1 (pc' := 42) (lo' := [some (.ref 0), some (.int rule), some (.int s), some (.int n), some (.int p)]) (st' := [.int (-1)]) (I' := I) (L' := L) (R' := zw_RC 4 14 la) rfl ?_
              exact zv_iret (zs_at rfl) rfl ⟨Nat.le_refl _, Nat.le_refl _⟩ (absurd hok (fun q => by first | exact q.1 c4 | exact q.2.1 c8 | exact q.2.2.1 c14 | exact q.2.2.2.1 c19 | exact q.2.2.2.2.1 c25 | exact q.2.2.2.2.2.1 c31 | exact c38 q.2.2.2.2.2.2))
            · have _c := c31
              refine zv_run 2 (pc' := 38) (lo' := [some (.ref 0), some (.int rule), some (.int s), some (.int n), some (.int p)]) (st' := [.int 99, .int p]) (I' := I) (L' := L) (R' := zw_RC 4 14 la) rfl ?_
              refine zv_icmp_le (tgt := 43) (zs_at rfl) (by decide) (fun c38 => ?_) (fun c38 => ?_)
              · have _c := c38
                refine zv_run 2 (pc' := 45) (lo' := [some (.ref 0), some (.int rule), some (.int s), some (.int n), some (.int p)]) (st' := [.int rule, .ref 0]) (I' := I) (L' := L) (R' := zw_RC 4 14 la) rfl ?_
                refine zv_cV (M' := mm_X9_ask) (ci := 9) (a := 0) (av := [.int rule]) (st := []) (r := none) (I' := (q_ask I 4 rule)) (L' := (q_L L)) (R' := zw_RC 4 14 la) rfl zc_9_156 gd_X9_ask rfl rfl rfl (Nat.le_of_ble_eq_true rfl) (ct_X9_ask_4 (d := _)) ⟨Nat.le_refl _, Nat.le_refl _⟩ ?_
                refine zv_run 0 (pc' := 48) (lo' := [some (.ref 0), some (.int rule), some (.int s), some (.int n), some (.int p)]) (st' := []) (I' := (q_ask I 4 rule)) (L' := (q_L L)) (R' := zw_RC 4 14 la) rfl ?_
                refine zv_run 18 (pc' := 85) (lo' := [some (.ref 0), some (.int rule), some (.int s), some (.int n), some (.int p)]) (st' := [.ref 34, .ref 4, .ref 36]) (I' := (zx_uI (zx_uI (zx_uI (q_ask I 4 rule) 34 5 s) 34 6 n) 34 7 p)) (L' := (q_L L)) (R' := zw_RC 4 14 la) rfl ?_
                refine zv_cV (M' := mm_X3_run) (ci := 3) (a := 36) (av := [.ref 4, .ref 34]) (st := []) (r := some (.int (fr_score (zx_uI (zx_uI (zx_uI (q_ask I 4 rule) 34 5 s) 34 6 n) 34 7 p) (q_L L) 4))) (I' := (fr_end (zx_uI (zx_uI (zx_uI (q_ask I 4 rule) 34 5 s) 34 6 n) 34 7 p) (q_L L) 4).1) (L' := (q_L L)) (R' := zw_RC 4 14 (fr_end (zx_uI (zx_uI (zx_uI (q_ask I 4 rule) 34 5 s) 34 6 n) 34 7 p) (q_L L) 4).2) rfl zc_9_159 gd_X3_run rfl rfl rfl (Nat.le_of_ble_eq_true rfl) (ct_X3_run (d := _) (Or.inl rfl) hr) ⟨Nat.le_refl _, Nat.le_refl _⟩ ?_
                refine zv_run 0 (pc' := 88) (lo' := [some (.ref 0), some (.int rule), some (.int s), some (.int n), some (.int p)]) (st' := [.int (fr_score (zx_uI (zx_uI (zx_uI (q_ask I 4 rule) 34 5 s) 34 6 n) 34 7 p) (q_L L) 4)]) (I' := (fr_end (zx_uI (zx_uI (zx_uI (q_ask I 4 rule) 34 5 s) 34 6 n) 34 7 p) (q_L L) 4).1) (L' := (q_L L)) (R' := zw_RC 4 14 (fr_end (zx_uI (zx_uI (zx_uI (q_ask I 4 rule) 34 5 s) 34 6 n) 34 7 p) (q_L L) 4).2) rfl ?_
                exact zv_iret (zs_at rfl) rfl ⟨Nat.le_refl _, Nat.le_refl _⟩ (zw_to rfl rfl rfl rfl)
              · have _c := c38
                refine zv_run 1 (pc' := 42) (lo' := [some (.ref 0), some (.int rule), some (.int s), some (.int n), some (.int p)]) (st' := [.int (-1)]) (I' := I) (L' := L) (R' := zw_RC 4 14 la) rfl ?_
                exact zv_iret (zs_at rfl) rfl ⟨Nat.le_refl _, Nat.le_refl _⟩ (absurd hok (fun q => by first | exact q.1 c4 | exact q.2.1 c8 | exact q.2.2.1 c14 | exact q.2.2.2.1 c19 | exact q.2.2.2.2.1 c25 | exact q.2.2.2.2.2.1 c31 | exact c38 q.2.2.2.2.2.2))
theorem ct_X9_tap_14 {d : Nat} {I : zx_I} {L : zx_L} {la : Option Nat} {rule s n p : Int32} (hok : q_tpok rule s n p) (hr : rn_ok (q_tpm I 14 rule s n p) (q_L L) 14) : zx_M0 mm_X9_tap (d + 5) 0 0 [.ref 0, .int rule, .int s, .int n, .int p] zw_SC I L (zw_RC 14 4 la) (zw_ret (some (.int (fr_score (q_tpm I 14 rule s n p) (q_L L) 14))) zw_SC (fr_end (q_tpm I 14 rule s n p) (q_L L) 14).1 (q_L L) (zw_RC 14 4 (fr_end (q_tpm I 14 rule s n p) (q_L L) 14).2)) := by
  refine zv_entry gd_X9_tap (Nat.le_of_ble_eq_true rfl) ?_
  refine zv_run 1 (pc' := 1) (lo' := [some (.ref 0), some (.int rule), some (.int s), some (.int n), some (.int p)]) (st' := [.int rule]) (I' := I) (L' := L) (R' := zw_RC 14 4 la) rfl ?_
  refine zv_cS (M' := mm_X9_isRule) (av := [.int rule]) (st := []) (r := some (.int (q_rule rule))) (I' := I) (L' := L) (R' := zw_RC 14 4 la) rfl zc_9_152 gd_X9_isRule rfl (Nat.le_of_ble_eq_true rfl) (ct_X9_isRule (d := _)) ⟨Nat.le_refl _, Nat.le_refl _⟩ ?_
  refine zv_run 0 (pc' := 4) (lo' := [some (.ref 0), some (.int rule), some (.int s), some (.int n), some (.int p)]) (st' := [.int (q_rule rule)]) (I' := I) (L' := L) (R' := zw_RC 14 4 la) rfl ?_
  refine zv_if_eq (tgt := 41) (zs_at rfl) (by decide) (fun c4 => ?_) (fun c4 => ?_)
  · have _c := c4
    refine zv_run 1 (pc' := 42) (lo' := [some (.ref 0), some (.int rule), some (.int s), some (.int n), some (.int p)]) (st' := [.int (-1)]) (I' := I) (L' := L) (R' := zw_RC 14 4 la) rfl ?_
    exact zv_iret (zs_at rfl) rfl ⟨Nat.le_refl _, Nat.le_refl _⟩ (absurd hok (fun q => by first | exact q.1 c4 | exact q.2.1 c8 | exact q.2.2.1 c14 | exact q.2.2.2.1 c19 | exact q.2.2.2.2.1 c25 | exact q.2.2.2.2.2.1 c31 | exact c38 q.2.2.2.2.2.2))
  · have _c := c4
    refine zv_run 1 (pc' := 8) (lo' := [some (.ref 0), some (.int rule), some (.int s), some (.int n), some (.int p)]) (st' := [.int s]) (I' := I) (L' := L) (R' := zw_RC 14 4 la) rfl ?_
    refine zv_if_lt (tgt := 41) (zs_at rfl) (by decide) (fun c8 => ?_) (fun c8 => ?_)
    · have _c := c8
      refine zv_run 1 (pc' := 42) (lo' := [some (.ref 0), some (.int rule), some (.int s), some (.int n), some (.int p)]) (st' := [.int (-1)]) (I' := I) (L' := L) (R' := zw_RC 14 4 la) rfl ?_
      exact zv_iret (zs_at rfl) rfl ⟨Nat.le_refl _, Nat.le_refl _⟩ (absurd hok (fun q => by first | exact q.1 c4 | exact q.2.1 c8 | exact q.2.2.1 c14 | exact q.2.2.2.1 c19 | exact q.2.2.2.2.1 c25 | exact q.2.2.2.2.2.1 c31 | exact c38 q.2.2.2.2.2.2))
    · have _c := c8
      refine zv_run 2 (pc' := 14) (lo' := [some (.ref 0), some (.int rule), some (.int s), some (.int n), some (.int p)]) (st' := [.int 59, .int s]) (I' := I) (L' := L) (R' := zw_RC 14 4 la) rfl ?_
      refine zv_icmp_gt (tgt := 41) (zs_at rfl) (by decide) (fun c14 => ?_) (fun c14 => ?_)
      · have _c := c14
        refine zv_run 1 (pc' := 42) (lo' := [some (.ref 0), some (.int rule), some (.int s), some (.int n), some (.int p)]) (st' := [.int (-1)]) (I' := I) (L' := L) (R' := zw_RC 14 4 la) rfl ?_
        exact zv_iret (zs_at rfl) rfl ⟨Nat.le_refl _, Nat.le_refl _⟩ (absurd hok (fun q => by first | exact q.1 c4 | exact q.2.1 c8 | exact q.2.2.1 c14 | exact q.2.2.2.1 c19 | exact q.2.2.2.2.1 c25 | exact q.2.2.2.2.2.1 c31 | exact c38 q.2.2.2.2.2.2))
      · have _c := c14
        refine zv_run 2 (pc' := 19) (lo' := [some (.ref 0), some (.int rule), some (.int s), some (.int n), some (.int p)]) (st' := [.int 1, .int n]) (I' := I) (L' := L) (R' := zw_RC 14 4 la) rfl ?_
        refine zv_icmp_lt (tgt := 41) (zs_at rfl) (by decide) (fun c19 => ?_) (fun c19 => ?_)
        · have _c := c19
          refine zv_run 1 (pc' := 42) (lo' := [some (.ref 0), some (.int rule), some (.int s), some (.int n), some (.int p)]) (st' := [.int (-1)]) (I' := I) (L' := L) (R' := zw_RC 14 4 la) rfl ?_
          exact zv_iret (zs_at rfl) rfl ⟨Nat.le_refl _, Nat.le_refl _⟩ (absurd hok (fun q => by first | exact q.1 c4 | exact q.2.1 c8 | exact q.2.2.1 c14 | exact q.2.2.2.1 c19 | exact q.2.2.2.2.1 c25 | exact q.2.2.2.2.2.1 c31 | exact c38 q.2.2.2.2.2.2))
        · have _c := c19
          refine zv_run 2 (pc' := 25) (lo' := [some (.ref 0), some (.int rule), some (.int s), some (.int n), some (.int p)]) (st' := [.int 60, .int n]) (I' := I) (L' := L) (R' := zw_RC 14 4 la) rfl ?_
          refine zv_icmp_gt (tgt := 41) (zs_at rfl) (by decide) (fun c25 => ?_) (fun c25 => ?_)
          · have _c := c25
            refine zv_run 1 (pc' := 42) (lo' := [some (.ref 0), some (.int rule), some (.int s), some (.int n), some (.int p)]) (st' := [.int (-1)]) (I' := I) (L' := L) (R' := zw_RC 14 4 la) rfl ?_
            exact zv_iret (zs_at rfl) rfl ⟨Nat.le_refl _, Nat.le_refl _⟩ (absurd hok (fun q => by first | exact q.1 c4 | exact q.2.1 c8 | exact q.2.2.1 c14 | exact q.2.2.2.1 c19 | exact q.2.2.2.2.1 c25 | exact q.2.2.2.2.2.1 c31 | exact c38 q.2.2.2.2.2.2))
          · have _c := c25
            refine zv_run 2 (pc' := 31) (lo' := [some (.ref 0), some (.int rule), some (.int s), some (.int n), some (.int p)]) (st' := [.int 1, .int p]) (I' := I) (L' := L) (R' := zw_RC 14 4 la) rfl ?_
            refine zv_icmp_lt (tgt := 41) (zs_at rfl) (by decide) (fun c31 => ?_) (fun c31 => ?_)
            · have _c := c31
              refine zv_run 1 (pc' := 42) (lo' := [some (.ref 0), some (.int rule), some (.int s), some (.int n), some (.int p)]) (st' := [.int (-1)]) (I' := I) (L' := L) (R' := zw_RC 14 4 la) rfl ?_
              exact zv_iret (zs_at rfl) rfl ⟨Nat.le_refl _, Nat.le_refl _⟩ (absurd hok (fun q => by first | exact q.1 c4 | exact q.2.1 c8 | exact q.2.2.1 c14 | exact q.2.2.2.1 c19 | exact q.2.2.2.2.1 c25 | exact q.2.2.2.2.2.1 c31 | exact c38 q.2.2.2.2.2.2))
            · have _c := c31
              refine zv_run 2 (pc' := 38) (lo' := [some (.ref 0), some (.int rule), some (.int s), some (.int n), some (.int p)]) (st' := [.int 99, .int p]) (I' := I) (L' := L) (R' := zw_RC 14 4 la) rfl ?_
              refine zv_icmp_le (tgt := 43) (zs_at rfl) (by decide) (fun c38 => ?_) (fun c38 => ?_)
              · have _c := c38
                refine zv_run 2 (pc' := 45) (lo' := [some (.ref 0), some (.int rule), some (.int s), some (.int n), some (.int p)]) (st' := [.int rule, .ref 0]) (I' := I) (L' := L) (R' := zw_RC 14 4 la) rfl ?_
                refine zv_cV (M' := mm_X9_ask) (ci := 9) (a := 0) (av := [.int rule]) (st := []) (r := none) (I' := (q_ask I 14 rule)) (L' := (q_L L)) (R' := zw_RC 14 4 la) rfl zc_9_156 gd_X9_ask rfl rfl rfl (Nat.le_of_ble_eq_true rfl) (ct_X9_ask_14 (d := _)) ⟨Nat.le_refl _, Nat.le_refl _⟩ ?_
                refine zv_run 0 (pc' := 48) (lo' := [some (.ref 0), some (.int rule), some (.int s), some (.int n), some (.int p)]) (st' := []) (I' := (q_ask I 14 rule)) (L' := (q_L L)) (R' := zw_RC 14 4 la) rfl ?_
                refine zv_run 18 (pc' := 85) (lo' := [some (.ref 0), some (.int rule), some (.int s), some (.int n), some (.int p)]) (st' := [.ref 34, .ref 14, .ref 36]) (I' := (zx_uI (zx_uI (zx_uI (q_ask I 14 rule) 34 5 s) 34 6 n) 34 7 p)) (L' := (q_L L)) (R' := zw_RC 14 4 la) rfl ?_
                refine zv_cV (M' := mm_X3_run) (ci := 3) (a := 36) (av := [.ref 14, .ref 34]) (st := []) (r := some (.int (fr_score (zx_uI (zx_uI (zx_uI (q_ask I 14 rule) 34 5 s) 34 6 n) 34 7 p) (q_L L) 14))) (I' := (fr_end (zx_uI (zx_uI (zx_uI (q_ask I 14 rule) 34 5 s) 34 6 n) 34 7 p) (q_L L) 14).1) (L' := (q_L L)) (R' := zw_RC 14 4 (fr_end (zx_uI (zx_uI (zx_uI (q_ask I 14 rule) 34 5 s) 34 6 n) 34 7 p) (q_L L) 14).2) rfl zc_9_159 gd_X3_run rfl rfl rfl (Nat.le_of_ble_eq_true rfl) (ct_X3_run (d := _) (Or.inr rfl) hr) ⟨Nat.le_refl _, Nat.le_refl _⟩ ?_
                refine zv_run 0 (pc' := 88) (lo' := [some (.ref 0), some (.int rule), some (.int s), some (.int n), some (.int p)]) (st' := [.int (fr_score (zx_uI (zx_uI (zx_uI (q_ask I 14 rule) 34 5 s) 34 6 n) 34 7 p) (q_L L) 14)]) (I' := (fr_end (zx_uI (zx_uI (zx_uI (q_ask I 14 rule) 34 5 s) 34 6 n) 34 7 p) (q_L L) 14).1) (L' := (q_L L)) (R' := zw_RC 14 4 (fr_end (zx_uI (zx_uI (zx_uI (q_ask I 14 rule) 34 5 s) 34 6 n) 34 7 p) (q_L L) 14).2) rfl ?_
                exact zv_iret (zs_at rfl) rfl ⟨Nat.le_refl _, Nat.le_refl _⟩ (zw_to rfl rfl rfl rfl)
              · have _c := c38
                refine zv_run 1 (pc' := 42) (lo' := [some (.ref 0), some (.int rule), some (.int s), some (.int n), some (.int p)]) (st' := [.int (-1)]) (I' := I) (L' := L) (R' := zw_RC 14 4 la) rfl ?_
                exact zv_iret (zs_at rfl) rfl ⟨Nat.le_refl _, Nat.le_refl _⟩ (absurd hok (fun q => by first | exact q.1 c4 | exact q.2.1 c8 | exact q.2.2.1 c14 | exact q.2.2.2.1 c19 | exact q.2.2.2.2.1 c25 | exact q.2.2.2.2.2.1 c31 | exact c38 q.2.2.2.2.2.2))
theorem ct_X9_tap {d : Nat} {I : zx_I} {L : zx_L} {h sp : Nat} {la : Option Nat} {rule s n p : Int32} (hh : hsp h sp) (hok : q_tpok rule s n p) (hr : rn_ok (q_tpm I h rule s n p) (q_L L) h) : zx_M0 mm_X9_tap (d + 5) 0 0 [.ref 0, .int rule, .int s, .int n, .int p] zw_SC I L (zw_RC h sp la) (zw_ret (some (.int (fr_score (q_tpm I h rule s n p) (q_L L) h))) zw_SC (fr_end (q_tpm I h rule s n p) (q_L L) h).1 (q_L L) (zw_RC h sp (fr_end (q_tpm I h rule s n p) (q_L L) h).2)) := by
  rcases hh with ⟨rfl, rfl⟩ | ⟨rfl, rfl⟩
  · exact ct_X9_tap_4 hok hr
  · exact ct_X9_tap_14 hok hr
