/-! methods of the model, by program -/
def mf_lateNow_4_b (n : Nat) (J : zx_I) (K : Int32 → Option (Int32)) (Z : Int32 → Int32 → Option (Int32)) (x1 : Int32) (x2 : Int32) : Option (Int32) := (if (mf_many J) ≤ x2 then K x1 else (mo_g (mo_in x2 6) (if (J 14 x2.toNatClampNeg) = (-4 : Int32) then Z (x1 + 1) (x2 + 1) else (mo_g (mo_in x2 6) ((mf_of x2 (5 : Int32) J).bind fun p33 => (if (J 14 x2.toNatClampNeg) ≤ p33 then Z (x1 + 0) (x2 + 1) else Z (x1 + 1) (x2 + 1)))))))
def mf_lateNow_4 (n : Nat) (J : zx_I) (K : Int32 → Option (Int32)) : Nat → Int32 → Int32 → Option (Int32)
  | 0 => fun _ _ => none
  | k + 1 => mf_lateNow_4_b n J K (mf_lateNow_4 n J K k)
def mf_lateNow (n : Nat) (J : zx_I) : Option (Int32) := (mf_lateNow_4 n J (fun x1_4 => some (x1_4)) n (0 : Int32) (0 : Int32))
theorem ml_lateNow_4 {n d : Nat} {J : zx_I} {L : zx_L} {K : Int32 → Option (Int32)} (hK : ∀ (x1 : Int32) (p : Int32), K x1 = some p → zx_V mm_X10_lateNow (d + 1) z0 (zw_ret (some (.int p)) zw_SM J L zw_RM) zw_SM 52 [some (.ref 0), some (.int x1), none] [] J L zw_RM) : ∀ (k : Nat) (x1 : Int32) (x2 : Int32) (p : Int32), mf_lateNow_4 n J K k x1 x2 = some p → zx_V mm_X10_lateNow (d + 1) z0 (zw_ret (some (.int p)) zw_SM J L zw_RM) zw_SM 4 [some (.ref 0), some (.int x1), some (.int x2)] [] J L zw_RM := by
  intro k
  induction k with
  | zero =>
    intro x1 x2 p h
    exact absurd (show (none : Option (Int32)) = some p from h) (by intro q; cases q)
  | succ k ih =>
    intro x1 x2 p h
    have h : mf_lateNow_4_b n J K (mf_lateNow_4 n J K k) x1 x2 = some p := h
    unfold mf_lateNow_4_b at h
    refine zv_run 2 (pc' := 6) (lo' := [some (.ref 0), some (.int x1), some (.int x2)]) (st' := [.ref 0, .int x2]) (I' := J) (L' := L) (R' := zw_RM) rfl ?_
    refine zv_cV (M' := mm_X10_many) (ci := 10) (a := 0) (av := []) (st := [.int x2]) (r := some (.int (mf_many J))) (I' := J) (L' := L) (R' := zw_RM) rfl zc_10_133 gd_X10_many rfl rfl rfl (Nat.le_of_ble_eq_true rfl) (mt_many (d := _) rfl) ⟨Nat.le_refl _, Nat.le_refl _⟩ ?_
    refine zv_run 0 (pc' := 9) (lo' := [some (.ref 0), some (.int x1), some (.int x2)]) (st' := [.int (mf_many J), .int x2]) (I' := J) (L' := L) (R' := zw_RM) rfl ?_
    refine zv_icmp_ge (tgt := 52) (zs_at rfl) (by decide) (fun c9 => ?_) (fun c9 => ?_)
    · have h := mo_t h c9
      refine zv_fg (lo' := [some (.ref 0), some (.int x1), none]) (And.intro rfl (And.intro rfl (And.intro trivial rfl))) ?_
      exact hK _ p h
    · have h := mo_f h c9
      refine zv_run 4 (pc' := 18) (lo' := [some (.ref 0), some (.int x1), some (.int x2)]) (st' := [.int x2, .ref 14, .int x1]) (I' := J) (L' := L) (R' := zw_RM) rfl ?_
      obtain ⟨g18, h⟩ := mo_gs h
      refine zv_iald (zs_at rfl) rfl (mo_in_vp g18) ?_
      refine zv_run 0 (pc' := 19) (lo' := [some (.ref 0), some (.int x1), some (.int x2)]) (st' := [.int (J 14 x2.toNatClampNeg), .int x1]) (I' := J) (L' := L) (R' := zw_RM) rfl ?_
      refine zv_run 1 (pc' := 21) (lo' := [some (.ref 0), some (.int x1), some (.int x2)]) (st' := [.int (-4), .int (J 14 x2.toNatClampNeg), .int x1]) (I' := J) (L' := L) (R' := zw_RM) rfl ?_
      refine zv_icmp_eq (tgt := 39) (zs_at rfl) (by decide) (fun c21 => ?_) (fun c21 => ?_)
      · have h := mo_t h c21
        refine zv_run 2 (pc' := 44) (lo' := [some (.ref 0), some (.int x1), some (.int x2)]) (st' := [.int 1, .int x1]) (I' := J) (L' := L) (R' := zw_RM) rfl ?_
        refine zv_run 4 (pc' := 4) (lo' := [some (.ref 0), some (.int (x1 + 1)), some (.int (x2 + 1))]) (st' := []) (I' := J) (L' := L) (R' := zw_RM) rfl ?_
        exact ih _ _ p h
      · have h := mo_f h c21
        refine zv_run 3 (pc' := 29) (lo' := [some (.ref 0), some (.int x1), some (.int x2)]) (st' := [.int x2, .ref 14, .int x1]) (I' := J) (L' := L) (R' := zw_RM) rfl ?_
        obtain ⟨g29, h⟩ := mo_gs h
        refine zv_iald (zs_at rfl) rfl (mo_in_vp g29) ?_
        refine zv_run 0 (pc' := 30) (lo' := [some (.ref 0), some (.int x1), some (.int x2)]) (st' := [.int (J 14 x2.toNatClampNeg), .int x1]) (I' := J) (L' := L) (R' := zw_RM) rfl ?_
        refine zv_run 3 (pc' := 33) (lo' := [some (.ref 0), some (.int x1), some (.int x2)]) (st' := [.int 5, .int x2, .ref 0, .int (J 14 x2.toNatClampNeg), .int x1]) (I' := J) (L' := L) (R' := zw_RM) rfl ?_
        obtain ⟨p33, e33, h⟩ := mo_b h
        refine zv_cV (M' := mm_X10_of) (ci := 10) (a := 0) (av := [.int x2, .int 5]) (st := [.int (J 14 x2.toNatClampNeg), .int x1]) (r := some (.int p33)) (I' := J) (L' := L) (R' := zw_RM) rfl zc_10_139 gd_X10_of rfl rfl rfl (Nat.le_of_ble_eq_true rfl) (mt_of (d := _) e33) ⟨Nat.le_refl _, Nat.le_refl _⟩ ?_
        refine zv_run 0 (pc' := 36) (lo' := [some (.ref 0), some (.int x1), some (.int x2)]) (st' := [.int p33, .int (J 14 x2.toNatClampNeg), .int x1]) (I' := J) (L' := L) (R' := zw_RM) rfl ?_
        refine zv_icmp_le (tgt := 43) (zs_at rfl) (by decide) (fun c36 => ?_) (fun c36 => ?_)
        · have h := mo_t h c36
          refine zv_run 5 (pc' := 4) (lo' := [some (.ref 0), some (.int (x1 + 0)), some (.int (x2 + 1))]) (st' := []) (I' := J) (L' := L) (R' := zw_RM) rfl ?_
          exact ih _ _ p h
        · have h := mo_f h c36
          refine zv_run 2 (pc' := 44) (lo' := [some (.ref 0), some (.int x1), some (.int x2)]) (st' := [.int 1, .int x1]) (I' := J) (L' := L) (R' := zw_RM) rfl ?_
          refine zv_run 4 (pc' := 4) (lo' := [some (.ref 0), some (.int (x1 + 1)), some (.int (x2 + 1))]) (st' := []) (I' := J) (L' := L) (R' := zw_RM) rfl ?_
          exact ih _ _ p h
theorem mt_lateNow {d n : Nat} {J : zx_I} {L : zx_L} {p : Int32} (h : mf_lateNow n J = some p) : zx_M0 mm_X10_lateNow (d + 1) 0 0 [.ref 0] zw_SM J L zw_RM (zw_ret (some (.int p)) zw_SM J L zw_RM) := by
  unfold mf_lateNow at h
  refine zv_entry gd_X10_lateNow (Nat.le_of_ble_eq_true rfl) ?_
  refine zv_run 4 (pc' := 4) (lo' := [some (.ref 0), some (.int 0), some (.int 0)]) (st' := []) (I' := J) (L' := L) (R' := zw_RM) rfl ?_
  refine ml_lateNow_4 (fun x1_4 p h => ?_) n _ _ p h
  refine zv_run 1 (pc' := 53) (lo' := [some (.ref 0), some (.int x1_4), none]) (st' := [.int x1_4]) (I' := J) (L' := L) (R' := zw_RM) rfl ?_
  obtain rfl := Option.some.inj h
  exact zv_iret (zs_at rfl) rfl ⟨Nat.le_refl _, Nat.le_refl _⟩ zw_here
def mf_doneNow_4_b (n : Nat) (J : zx_I) (K : Int32 → Option (Int32)) (Z : Int32 → Int32 → Option (Int32)) (x1 : Int32) (x2 : Int32) : Option (Int32) := (if (mf_many J) ≤ x2 then K x1 else (mo_g (mo_in x2 6) (if (J 14 x2.toNatClampNeg) = (-4 : Int32) then some ((99 : Int32)) else (mo_g (mo_in x2 6) (if (J 14 x2.toNatClampNeg) ≤ x1 then Z x1 (x2 + 1) else (mo_g (mo_in x2 6) (Z (J 14 x2.toNatClampNeg) (x2 + 1))))))))
def mf_doneNow_4 (n : Nat) (J : zx_I) (K : Int32 → Option (Int32)) : Nat → Int32 → Int32 → Option (Int32)
  | 0 => fun _ _ => none
  | k + 1 => mf_doneNow_4_b n J K (mf_doneNow_4 n J K k)
def mf_doneNow (n : Nat) (J : zx_I) : Option (Int32) := (mf_doneNow_4 n J (fun x1_4 => some (x1_4)) n (0 : Int32) (0 : Int32))
theorem ml_doneNow_4 {n d : Nat} {J : zx_I} {L : zx_L} {K : Int32 → Option (Int32)} (hK : ∀ (x1 : Int32) (p : Int32), K x1 = some p → zx_V mm_X10_doneNow (d + 1) z0 (zw_ret (some (.int p)) zw_SM J L zw_RM) zw_SM 53 [some (.ref 0), some (.int x1), none] [] J L zw_RM) : ∀ (k : Nat) (x1 : Int32) (x2 : Int32) (p : Int32), mf_doneNow_4 n J K k x1 x2 = some p → zx_V mm_X10_doneNow (d + 1) z0 (zw_ret (some (.int p)) zw_SM J L zw_RM) zw_SM 4 [some (.ref 0), some (.int x1), some (.int x2)] [] J L zw_RM := by
  intro k
  induction k with
  | zero =>
    intro x1 x2 p h
    exact absurd (show (none : Option (Int32)) = some p from h) (by intro q; cases q)
  | succ k ih =>
    intro x1 x2 p h
    have h : mf_doneNow_4_b n J K (mf_doneNow_4 n J K k) x1 x2 = some p := h
    unfold mf_doneNow_4_b at h
    refine zv_run 2 (pc' := 6) (lo' := [some (.ref 0), some (.int x1), some (.int x2)]) (st' := [.ref 0, .int x2]) (I' := J) (L' := L) (R' := zw_RM) rfl ?_
    refine zv_cV (M' := mm_X10_many) (ci := 10) (a := 0) (av := []) (st := [.int x2]) (r := some (.int (mf_many J))) (I' := J) (L' := L) (R' := zw_RM) rfl zc_10_133 gd_X10_many rfl rfl rfl (Nat.le_of_ble_eq_true rfl) (mt_many (d := _) rfl) ⟨Nat.le_refl _, Nat.le_refl _⟩ ?_
    refine zv_run 0 (pc' := 9) (lo' := [some (.ref 0), some (.int x1), some (.int x2)]) (st' := [.int (mf_many J), .int x2]) (I' := J) (L' := L) (R' := zw_RM) rfl ?_
    refine zv_icmp_ge (tgt := 53) (zs_at rfl) (by decide) (fun c9 => ?_) (fun c9 => ?_)
    · have h := mo_t h c9
      refine zv_fg (lo' := [some (.ref 0), some (.int x1), none]) (And.intro rfl (And.intro rfl (And.intro trivial rfl))) ?_
      exact hK _ p h
    · have h := mo_f h c9
      refine zv_run 3 (pc' := 17) (lo' := [some (.ref 0), some (.int x1), some (.int x2)]) (st' := [.int x2, .ref 14]) (I' := J) (L' := L) (R' := zw_RM) rfl ?_
      obtain ⟨g17, h⟩ := mo_gs h
      refine zv_iald (zs_at rfl) rfl (mo_in_vp g17) ?_
      refine zv_run 0 (pc' := 18) (lo' := [some (.ref 0), some (.int x1), some (.int x2)]) (st' := [.int (J 14 x2.toNatClampNeg)]) (I' := J) (L' := L) (R' := zw_RM) rfl ?_
      refine zv_run 1 (pc' := 20) (lo' := [some (.ref 0), some (.int x1), some (.int x2)]) (st' := [.int (-4), .int (J 14 x2.toNatClampNeg)]) (I' := J) (L' := L) (R' := zw_RM) rfl ?_
      refine zv_icmp_ne (tgt := 26) (zs_at rfl) (by decide) (fun c20 => ?_) (fun c20 => ?_)
      · have h := mo_f h c20
        refine zv_run 3 (pc' := 31) (lo' := [some (.ref 0), some (.int x1), some (.int x2)]) (st' := [.int x2, .ref 14]) (I' := J) (L' := L) (R' := zw_RM) rfl ?_
        obtain ⟨g31, h⟩ := mo_gs h
        refine zv_iald (zs_at rfl) rfl (mo_in_vp g31) ?_
        refine zv_run 0 (pc' := 32) (lo' := [some (.ref 0), some (.int x1), some (.int x2)]) (st' := [.int (J 14 x2.toNatClampNeg)]) (I' := J) (L' := L) (R' := zw_RM) rfl ?_
        refine zv_run 1 (pc' := 33) (lo' := [some (.ref 0), some (.int x1), some (.int x2)]) (st' := [.int x1, .int (J 14 x2.toNatClampNeg)]) (I' := J) (L' := L) (R' := zw_RM) rfl ?_
        refine zv_icmp_le (tgt := 45) (zs_at rfl) (by decide) (fun c33 => ?_) (fun c33 => ?_)
        · have h := mo_t h c33
          refine zv_run 4 (pc' := 4) (lo' := [some (.ref 0), some (.int x1), some (.int (x2 + 1))]) (st' := []) (I' := J) (L' := L) (R' := zw_RM) rfl ?_
          exact ih _ _ p h
        · have h := mo_f h c33
          refine zv_run 3 (pc' := 41) (lo' := [some (.ref 0), some (.int x1), some (.int x2)]) (st' := [.int x2, .ref 14]) (I' := J) (L' := L) (R' := zw_RM) rfl ?_
          obtain ⟨g41, h⟩ := mo_gs h
          refine zv_iald (zs_at rfl) rfl (mo_in_vp g41) ?_
          refine zv_run 0 (pc' := 42) (lo' := [some (.ref 0), some (.int x1), some (.int x2)]) (st' := [.int (J 14 x2.toNatClampNeg)]) (I' := J) (L' := L) (R' := zw_RM) rfl ?_
          refine zv_run 1 (pc' := 46) (lo' := [some (.ref 0), some (.int x1), some (.int x2)]) (st' := [.int (J 14 x2.toNatClampNeg)]) (I' := J) (L' := L) (R' := zw_RM) rfl ?_
          refine zv_run 3 (pc' := 4) (lo' := [some (.ref 0), some (.int (J 14 x2.toNatClampNeg)), some (.int (x2 + 1))]) (st' := []) (I' := J) (L' := L) (R' := zw_RM) rfl ?_
          exact ih _ _ p h
      · have h := mo_t h c20
        refine zv_run 1 (pc' := 25) (lo' := [some (.ref 0), some (.int x1), some (.int x2)]) (st' := [.int 99]) (I' := J) (L' := L) (R' := zw_RM) rfl ?_
        obtain rfl := Option.some.inj h
        exact zv_iret (zs_at rfl) rfl ⟨Nat.le_refl _, Nat.le_refl _⟩ zw_here
theorem mt_doneNow {d n : Nat} {J : zx_I} {L : zx_L} {p : Int32} (h : mf_doneNow n J = some p) : zx_M0 mm_X10_doneNow (d + 1) 0 0 [.ref 0] zw_SM J L zw_RM (zw_ret (some (.int p)) zw_SM J L zw_RM) := by
  unfold mf_doneNow at h
  refine zv_entry gd_X10_doneNow (Nat.le_of_ble_eq_true rfl) ?_
  refine zv_run 4 (pc' := 4) (lo' := [some (.ref 0), some (.int 0), some (.int 0)]) (st' := []) (I' := J) (L' := L) (R' := zw_RM) rfl ?_
  refine ml_doneNow_4 (fun x1_4 p h => ?_) n _ _ p h
  refine zv_run 1 (pc' := 54) (lo' := [some (.ref 0), some (.int x1_4), none]) (st' := [.int x1_4]) (I' := J) (L' := L) (R' := zw_RM) rfl ?_
  obtain rfl := Option.some.inj h
  exact zv_iret (zs_at rfl) rfl ⟨Nat.le_refl _, Nat.le_refl _⟩ zw_here
def mf_scoreNow (n : Nat) (J : zx_I) : Option (Int32) := ((mf_lateNow n J).bind fun p3 => ((mf_doneNow n J).bind fun p8 => some (((100 * p3) + p8))))
theorem mt_scoreNow {d n : Nat} {J : zx_I} {L : zx_L} {p : Int32} (h : mf_scoreNow n J = some p) : zx_M0 mm_X10_scoreNow (d + 2) 0 0 [.ref 0] zw_SM J L zw_RM (zw_ret (some (.int p)) zw_SM J L zw_RM) := by
  unfold mf_scoreNow at h
  refine zv_entry gd_X10_scoreNow (Nat.le_of_ble_eq_true rfl) ?_
  refine zv_run 2 (pc' := 3) (lo' := [some (.ref 0)]) (st' := [.ref 0, .int 100]) (I' := J) (L' := L) (R' := zw_RM) rfl ?_
  obtain ⟨p3, e3, h⟩ := mo_b h
  refine zv_cV (M' := mm_X10_lateNow) (ci := 10) (a := 0) (av := []) (st := [.int 100]) (r := some (.int p3)) (I' := J) (L' := L) (R' := zw_RM) rfl zc_10_206 gd_X10_lateNow rfl rfl rfl (Nat.le_of_ble_eq_true rfl) (mt_lateNow (d := _) e3) ⟨Nat.le_refl _, Nat.le_refl _⟩ ?_
  refine zv_run 0 (pc' := 6) (lo' := [some (.ref 0)]) (st' := [.int p3, .int 100]) (I' := J) (L' := L) (R' := zw_RM) rfl ?_
  refine zv_run 2 (pc' := 8) (lo' := [some (.ref 0)]) (st' := [.ref 0, .int (100 * p3)]) (I' := J) (L' := L) (R' := zw_RM) rfl ?_
  obtain ⟨p8, e8, h⟩ := mo_b h
  refine zv_cV (M' := mm_X10_doneNow) (ci := 10) (a := 0) (av := []) (st := [.int (100 * p3)]) (r := some (.int p8)) (I' := J) (L' := L) (R' := zw_RM) rfl zc_10_209 gd_X10_doneNow rfl rfl rfl (Nat.le_of_ble_eq_true rfl) (mt_doneNow (d := _) e8) ⟨Nat.le_refl _, Nat.le_refl _⟩ ?_
  refine zv_run 0 (pc' := 11) (lo' := [some (.ref 0)]) (st' := [.int p8, .int (100 * p3)]) (I' := J) (L' := L) (R' := zw_RM) rfl ?_
  refine zv_run 1 (pc' := 12) (lo' := [some (.ref 0)]) (st' := [.int ((100 * p3) + p8)]) (I' := J) (L' := L) (R' := zw_RM) rfl ?_
  obtain rfl := Option.some.inj h
  exact zv_iret (zs_at rfl) rfl ⟨Nat.le_refl _, Nat.le_refl _⟩ zw_here
def mf_goThrough_28_b (n : Nat) (x1 : Int32) (x2 : Int64) (K : zx_I → Option (Int32 × zx_I)) (Z : Int32 → zx_I → Option (Int32 × zx_I)) (x5 : Int32) (J : zx_I) : Option (Int32 × zx_I) := (if (6 : Int32) ≤ x5 then K J else (mo_g (mo_in x5 6) (mo_g (mo_in x5 6) (mo_g (mo_in x5 6) (mo_g (mo_in x5 6) (Z (x5 + 1) (zx_uI (zx_uI (zx_uI (zx_uI J 13 x5.toNatClampNeg (-4)) 14 x5.toNatClampNeg (-4)) 15 x5.toNatClampNeg (-4)) 16 x5.toNatClampNeg (-4))))))))
def mf_goThrough_28 (n : Nat) (x1 : Int32) (x2 : Int64) (K : zx_I → Option (Int32 × zx_I)) : Nat → Int32 → zx_I → Option (Int32 × zx_I)
  | 0 => fun _ _ => none
  | k + 1 => mf_goThrough_28_b n x1 x2 K (mf_goThrough_28 n x1 x2 K k)
def mf_goThrough_87_b (n : Nat) (x1 : Int32) (x2 : Int64) (K : zx_I → Option (Int32 × zx_I)) (Z : Int32 → Int32 → Int32 → zx_I → Option (Int32 × zx_I)) (x5 : Int32) (x6 : Int32) (x7 : Int32) (J : zx_I) : Option (Int32 × zx_I) := (if (J 3 15) ≤ x7 then K J else (((if (lg_cmp ((x2 >>> (x7.toInt64 &&& 63)) &&& (1 : Int64)) (1 : Int64)) = 0 then (if (J 0 26) ≤ 0 then some (J) else some ((zx_uI (zx_uI (zx_uI J 0 24 3) 0 25 (J 3 10)) 0 26 ((J 0 26) - 1)))) else some (J)) : Option (zx_I)).bind fun v107 => (((if x5 = (-4 : Int32) then ((mf_chosen n x1 x7 x5 x6 v107).bind fun p170 => some (p170.1, p170.2)) else (mo_g (mo_in x5 6) (if x7 < (v107 14 x5.toNatClampNeg) then some ((-4 : Int32), v107) else ((mf_chosen n x1 x7 x5 x6 v107).bind fun p170 => some (p170.1, p170.2))))) : Option (Int32 × zx_I)).bind fun v147 => (((if v147.1 = (-4 : Int32) then some (x5, x6, v147.2) else ((mf_canGo n v147.1 x7 x5 v147.2).bind fun p194 => (((if (p194.2 0 33) = 0 then (if (x7 - (p194.2 0 27)) < (p194.2 3 14) then some ((0 : Int32)) else ((mf_of v147.1 (0 : Int32) p194.2).bind fun p238 => (if p238 < (p194.2 3 13) then some ((0 : Int32)) else some ((1 : Int32))))) else some ((0 : Int32))) : Option (Int32)).bind fun v212 => ((mf_draw n (p194.2 0 31) p194.2).bind fun p256 => (mo_g (mo_in v147.1 6) ((mf_of v147.1 (3 : Int32) (zx_uI p256 13 v147.1.toNatClampNeg x7)).bind fun p280 => (mo_g (mo_in v147.1 6) (mo_g (mo_in v147.1 6) (mo_g (mo_in v147.1 6) (((if p194.1 = 0 then some ((p256 0 27)) else (if v212 = 0 then some ((p256 0 27)) else some (x7))) : Option (Int32)).bind fun v310 => some (v147.1, (x6 + 1), (zx_uI (zx_uI (zx_uI (zx_uI (zx_uI p256 13 v147.1.toNatClampNeg x7) 14 v147.1.toNatClampNeg (x7 + p280)) 15 v147.1.toNatClampNeg (p256 0 32)) 16 v147.1.toNatClampNeg (p256 0 31)) 0 27 v310)))))))))))) : Option (Int32 × Int32 × zx_I)).bind fun v184 => (((if x7 < (v184.2.2 0 28) then some (v184.2.2) else (if ((v184.2.2 0 28) + (v184.2.2 0 29)) ≤ x7 then some (v184.2.2) else (((if (mf_holds v184.2.2) ≤ (v184.2.2 0 30) then some ((mf_holds v184.2.2)) else some ((v184.2.2 0 30))) : Option (Int32)).bind fun v369 => ((mf_draw n v369 v184.2.2).bind fun p383 => some (p383))))) : Option (zx_I)).bind fun v343 => ((mf_warm n v343).bind fun p387 => Z v184.1 v184.2.1 (x7 + 1) p387))))))
def mf_goThrough_87 (n : Nat) (x1 : Int32) (x2 : Int64) (K : zx_I → Option (Int32 × zx_I)) : Nat → Int32 → Int32 → Int32 → zx_I → Option (Int32 × zx_I)
  | 0 => fun _ _ _ _ => none
  | k + 1 => mf_goThrough_87_b n x1 x2 K (mf_goThrough_87 n x1 x2 K k)
def mf_goThrough (n : Nat) (x1 : Int32) (x2 : Int64) (x4 : Int32) (J : zx_I) : Option (Int32 × zx_I) := ((mf_fill n J).bind fun p1 => (mf_goThrough_28 n x1 x2 (fun J_28 => (mf_goThrough_87 n x1 x2 (fun J_87 => ((mf_scoreNow n J_87).bind fun p397 => some (p397, J_87))) n (-4 : Int32) (0 : Int32) (0 : Int32) J_28)) n (0 : Int32) (zx_uI (zx_uI (zx_uI (zx_uI p1 0 24 0) 0 25 0) 0 26 x4) 0 27 0)))
theorem ml_goThrough_28 {n d : Nat} {x1 : Int32} {x2 : Int64} {L : zx_L} {K : zx_I → Option (Int32 × zx_I)} (hK : ∀ (J : zx_I) (p : Int32 × zx_I), K J = some p → zx_V mm_X10_goThrough (d + 5) z0 (zw_ret (some (.int p.1)) zw_SM p.2 L zw_RM) zw_SM 77 [some (.ref 0), some (.int x1), some (.long x2), none, none, none, none, none, none, none, none, none] [] J L zw_RM) : ∀ (k : Nat) (x5 : Int32) (J : zx_I) (p : Int32 × zx_I), mf_goThrough_28 n x1 x2 K k x5 J = some p → zx_V mm_X10_goThrough (d + 5) z0 (zw_ret (some (.int p.1)) zw_SM p.2 L zw_RM) zw_SM 28 [some (.ref 0), some (.int x1), some (.long x2), none, none, some (.int x5), none, none, none, none, none, none] [] J L zw_RM := by
  intro k
  induction k with
  | zero =>
    intro x5 J p h
    exact absurd (show (none : Option (Int32 × zx_I)) = some p from h) (by intro q; cases q)
  | succ k ih =>
    intro x5 J p h
    have h : mf_goThrough_28_b n x1 x2 K (mf_goThrough_28 n x1 x2 K k) x5 J = some p := h
    unfold mf_goThrough_28_b at h
    refine zv_run 2 (pc' := 32) (lo' := [some (.ref 0), some (.int x1), some (.long x2), none, none, some (.int x5), none, none, none, none, none, none]) (st' := [.int 6, .int x5]) (I' := J) (L' := L) (R' := zw_RM) rfl ?_
    refine zv_icmp_ge (tgt := 77) (zs_at rfl) (by decide) (fun c32 => ?_) (fun c32 => ?_)
    · have h := mo_t h c32
      refine zv_fg (lo' := [some (.ref 0), some (.int x1), some (.long x2), none, none, none, none, none, none, none, none, none]) (And.intro rfl (And.intro rfl (And.intro rfl (And.intro trivial (And.intro trivial (And.intro trivial (And.intro trivial (And.intro trivial (And.intro trivial (And.intro trivial (And.intro trivial (And.intro trivial rfl)))))))))))) ?_
      exact hK _ p h
    · have h := mo_f h c32
      refine zv_run 4 (pc' := 43) (lo' := [some (.ref 0), some (.int x1), some (.long x2), none, none, some (.int x5), none, none, none, none, none, none]) (st' := [.int (-4), .int x5, .ref 13]) (I' := J) (L' := L) (R' := zw_RM) rfl ?_
      obtain ⟨g43, h⟩ := mo_gs h
      refine zv_iast (zs_at rfl) rfl (mo_in_vp g43) ?_
      refine zv_run 4 (pc' := 52) (lo' := [some (.ref 0), some (.int x1), some (.long x2), none, none, some (.int x5), none, none, none, none, none, none]) (st' := [.int (-4), .int x5, .ref 14]) (I' := (zx_uI J 13 x5.toNatClampNeg (-4))) (L' := L) (R' := zw_RM) rfl ?_
      obtain ⟨g52, h⟩ := mo_gs h
      refine zv_iast (zs_at rfl) rfl (mo_in_vp g52) ?_
      refine zv_run 4 (pc' := 61) (lo' := [some (.ref 0), some (.int x1), some (.long x2), none, none, some (.int x5), none, none, none, none, none, none]) (st' := [.int (-4), .int x5, .ref 15]) (I' := (zx_uI (zx_uI J 13 x5.toNatClampNeg (-4)) 14 x5.toNatClampNeg (-4))) (L' := L) (R' := zw_RM) rfl ?_
      obtain ⟨g61, h⟩ := mo_gs h
      refine zv_iast (zs_at rfl) rfl (mo_in_vp g61) ?_
      refine zv_run 4 (pc' := 70) (lo' := [some (.ref 0), some (.int x1), some (.long x2), none, none, some (.int x5), none, none, none, none, none, none]) (st' := [.int (-4), .int x5, .ref 16]) (I' := (zx_uI (zx_uI (zx_uI J 13 x5.toNatClampNeg (-4)) 14 x5.toNatClampNeg (-4)) 15 x5.toNatClampNeg (-4))) (L' := L) (R' := zw_RM) rfl ?_
      obtain ⟨g70, h⟩ := mo_gs h
      refine zv_iast (zs_at rfl) rfl (mo_in_vp g70) ?_
      refine zv_run 2 (pc' := 28) (lo' := [some (.ref 0), some (.int x1), some (.long x2), none, none, some (.int (x5 + 1)), none, none, none, none, none, none]) (st' := []) (I' := (zx_uI (zx_uI (zx_uI (zx_uI J 13 x5.toNatClampNeg (-4)) 14 x5.toNatClampNeg (-4)) 15 x5.toNatClampNeg (-4)) 16 x5.toNatClampNeg (-4))) (L' := L) (R' := zw_RM) rfl ?_
      exact ih _ _ p h
theorem ml_goThrough_87 {n d : Nat} {x1 : Int32} {x2 : Int64} {L : zx_L} {K : zx_I → Option (Int32 × zx_I)} (hK : ∀ (J : zx_I) (p : Int32 × zx_I), K J = some p → zx_V mm_X10_goThrough (d + 5) z0 (zw_ret (some (.int p.1)) zw_SM p.2 L zw_RM) zw_SM 396 [some (.ref 0), some (.int x1), some (.long x2), none, none, none, none, none, none, none, none, none] [] J L zw_RM) : ∀ (k : Nat) (x5 : Int32) (x6 : Int32) (x7 : Int32) (J : zx_I) (p : Int32 × zx_I), mf_goThrough_87 n x1 x2 K k x5 x6 x7 J = some p → zx_V mm_X10_goThrough (d + 5) z0 (zw_ret (some (.int p.1)) zw_SM p.2 L zw_RM) zw_SM 87 [some (.ref 0), some (.int x1), some (.long x2), none, none, some (.int x5), some (.int x6), some (.int x7), none, none, none, none] [] J L zw_RM := by
  intro k
  induction k with
  | zero =>
    intro x5 x6 x7 J p h
    exact absurd (show (none : Option (Int32 × zx_I)) = some p from h) (by intro q; cases q)
  | succ k ih =>
    intro x5 x6 x7 J p h
    have h : mf_goThrough_87_b n x1 x2 K (mf_goThrough_87 n x1 x2 K k) x5 x6 x7 J = some p := h
    unfold mf_goThrough_87_b at h
    refine zv_run 5 (pc' := 96) (lo' := [some (.ref 0), some (.int x1), some (.long x2), none, none, some (.int x5), some (.int x6), some (.int x7), none, none, none, none]) (st' := [.int (J 3 15), .int x7]) (I' := J) (L' := L) (R' := zw_RM) rfl ?_
    refine zv_icmp_ge (tgt := 396) (zs_at rfl) (by decide) (fun c96 => ?_) (fun c96 => ?_)
    · have h := mo_t h c96
      refine zv_fg (lo' := [some (.ref 0), some (.int x1), some (.long x2), none, none, none, none, none, none, none, none, none]) (And.intro rfl (And.intro rfl (And.intro rfl (And.intro trivial (And.intro trivial (And.intro trivial (And.intro trivial (And.intro trivial (And.intro trivial (And.intro trivial (And.intro trivial (And.intro trivial rfl)))))))))))) ?_
      exact hK _ p h
    · have h := mo_f h c96
      refine zv_run 7 (pc' := 107) (lo' := [some (.ref 0), some (.int x1), some (.long x2), none, none, some (.int x5), some (.int x6), some (.int x7), none, none, none, none]) (st' := [.int (lg_cmp ((x2 >>> (x7.toInt64 &&& 63)) &&& (1 : Int64)) (1 : Int64))]) (I' := J) (L' := L) (R' := zw_RM) rfl ?_
      obtain ⟨v107, e107, h⟩ := mo_b h
      have k107 : zx_V mm_X10_goThrough (d + 5) z0 (zw_ret (some (.int p.1)) zw_SM p.2 L zw_RM) zw_SM 143 [some (.ref 0), some (.int x1), some (.long x2), none, none, some (.int x5), some (.int x6), some (.int x7), none, none, none, none] [] v107 L zw_RM := by
        clear e107
        refine zv_run 2 (pc' := 147) (lo' := [some (.ref 0), some (.int x1), some (.long x2), none, none, some (.int x5), some (.int x6), some (.int x7), none, none, none, none]) (st' := [.int (-4), .int x5]) (I' := v107) (L' := L) (R' := zw_RM) rfl ?_
        obtain ⟨v147, e147, h⟩ := mo_b h
        have k147 : zx_V mm_X10_goThrough (d + 5) z0 (zw_ret (some (.int p.1)) zw_SM p.2 L zw_RM) zw_SM 178 [some (.ref 0), some (.int x1), some (.long x2), none, none, some (.int x5), some (.int x6), some (.int x7), none, none, none, none] [.int v147.1] v147.2 L zw_RM := by
          clear e147
          refine zv_run 3 (pc' := 184) (lo' := [some (.ref 0), some (.int x1), some (.long x2), none, none, some (.int x5), some (.int x6), some (.int x7), some (.int v147.1), none, none, none]) (st' := [.int (-4), .int v147.1]) (I' := v147.2) (L' := L) (R' := zw_RM) rfl ?_
          obtain ⟨v184, e184, h⟩ := mo_b h
          have k184 : zx_V mm_X10_goThrough (d + 5) z0 (zw_ret (some (.int p.1)) zw_SM p.2 L zw_RM) zw_SM 337 [some (.ref 0), some (.int x1), some (.long x2), none, none, some (.int v184.1), some (.int v184.2.1), some (.int x7), none, none, none, none] [] v184.2.2 L zw_RM := by
            clear e184
            refine zv_run 3 (pc' := 343) (lo' := [some (.ref 0), some (.int x1), some (.long x2), none, none, some (.int v184.1), some (.int v184.2.1), some (.int x7), none, none, none, none]) (st' := [.int (v184.2.2 0 28), .int x7]) (I' := v184.2.2) (L' := L) (R' := zw_RM) rfl ?_
            obtain ⟨v343, e343, h⟩ := mo_b h
            have k343 : zx_V mm_X10_goThrough (d + 5) z0 (zw_ret (some (.int p.1)) zw_SM p.2 L zw_RM) zw_SM 386 [some (.ref 0), some (.int x1), some (.long x2), none, none, some (.int v184.1), some (.int v184.2.1), some (.int x7), none, none, none, none] [] v343 L zw_RM := by
              clear e343
              refine zv_run 1 (pc' := 387) (lo' := [some (.ref 0), some (.int x1), some (.long x2), none, none, some (.int v184.1), some (.int v184.2.1), some (.int x7), none, none, none, none]) (st' := [.ref 0]) (I' := v343) (L' := L) (R' := zw_RM) rfl ?_
              obtain ⟨p387, e387, h⟩ := mo_b h
              refine zv_cV (M' := mm_X10_warm) (ci := 10) (a := 0) (av := []) (st := []) (r := none) (I' := p387) (L' := L) (R' := zw_RM) rfl zc_10_200 gd_X10_warm rfl rfl rfl (Nat.le_of_ble_eq_true rfl) (mt_warm (d := _) e387) ⟨Nat.le_refl _, Nat.le_refl _⟩ ?_
              refine zv_run 0 (pc' := 390) (lo' := [some (.ref 0), some (.int x1), some (.long x2), none, none, some (.int v184.1), some (.int v184.2.1), some (.int x7), none, none, none, none]) (st' := []) (I' := p387) (L' := L) (R' := zw_RM) rfl ?_
              refine zv_run 2 (pc' := 87) (lo' := [some (.ref 0), some (.int x1), some (.long x2), none, none, some (.int v184.1), some (.int v184.2.1), some (.int (x7 + 1)), none, none, none, none]) (st' := []) (I' := p387) (L' := L) (R' := zw_RM) rfl ?_
              exact ih _ _ _ _ p h
            have h := e343
            refine zv_icmp_lt (tgt := 386) (zs_at rfl) (by decide) (fun c343 => ?_) (fun c343 => ?_)
            · have h := mo_t h c343
              obtain rfl := Option.some.inj h
              exact k343
            · have h := mo_f h c343
              refine zv_run 6 (pc' := 357) (lo' := [some (.ref 0), some (.int x1), some (.long x2), none, none, some (.int v184.1), some (.int v184.2.1), some (.int x7), none, none, none, none]) (st' := [.int ((v184.2.2 0 28) + (v184.2.2 0 29)), .int x7]) (I' := v184.2.2) (L' := L) (R' := zw_RM) rfl ?_
              refine zv_icmp_ge (tgt := 386) (zs_at rfl) (by decide) (fun c357 => ?_) (fun c357 => ?_)
              · have h := mo_t h c357
                obtain rfl := Option.some.inj h
                exact k343
              · have h := mo_f h c357
                refine zv_run 4 (pc' := 366) (lo' := [some (.ref 0), some (.int x1), some (.long x2), none, none, some (.int v184.1), some (.int v184.2.1), some (.int x7), none, none, none, none]) (st' := [.ref 0, .int (v184.2.2 0 30), .ref 0]) (I' := v184.2.2) (L' := L) (R' := zw_RM) rfl ?_
                refine zv_cV (M' := mm_X10_holds) (ci := 10) (a := 0) (av := []) (st := [.int (v184.2.2 0 30), .ref 0]) (r := some (.int (mf_holds v184.2.2))) (I' := v184.2.2) (L' := L) (R' := zw_RM) rfl zc_10_143 gd_X10_holds rfl rfl rfl (Nat.le_of_ble_eq_true rfl) (mt_holds (d := _) rfl) ⟨Nat.le_refl _, Nat.le_refl _⟩ ?_
                refine zv_run 0 (pc' := 369) (lo' := [some (.ref 0), some (.int x1), some (.long x2), none, none, some (.int v184.1), some (.int v184.2.1), some (.int x7), none, none, none, none]) (st' := [.int (mf_holds v184.2.2), .int (v184.2.2 0 30), .ref 0]) (I' := v184.2.2) (L' := L) (R' := zw_RM) rfl ?_
                obtain ⟨v369, e369, h⟩ := mo_b h
                have k369 : zx_V mm_X10_goThrough (d + 5) z0 (zw_ret (some (.int p.1)) zw_SM p.2 L zw_RM) zw_SM 383 [some (.ref 0), some (.int x1), some (.long x2), none, none, some (.int v184.1), some (.int v184.2.1), some (.int x7), none, none, none, none] [.int v369, .ref 0] v184.2.2 L zw_RM := by
                  clear e369
                  obtain ⟨p383, e383, h⟩ := mo_b h
                  refine zv_cV (M' := mm_X10_draw) (ci := 10) (a := 0) (av := [.int v369]) (st := []) (r := none) (I' := p383) (L' := L) (R' := zw_RM) rfl zc_10_152 gd_X10_draw rfl rfl rfl (Nat.le_of_ble_eq_true rfl) (mt_draw (d := _) e383) ⟨Nat.le_refl _, Nat.le_refl _⟩ ?_
                  refine zv_run 0 (pc' := 386) (lo' := [some (.ref 0), some (.int x1), some (.long x2), none, none, some (.int v184.1), some (.int v184.2.1), some (.int x7), none, none, none, none]) (st' := []) (I' := p383) (L' := L) (R' := zw_RM) rfl ?_
                  obtain rfl := Option.some.inj h
                  exact k343
                have h := e369
                refine zv_icmp_ge (tgt := 379) (zs_at rfl) (by decide) (fun c369 => ?_) (fun c369 => ?_)
                · have h := mo_t h c369
                  refine zv_run 1 (pc' := 380) (lo' := [some (.ref 0), some (.int x1), some (.long x2), none, none, some (.int v184.1), some (.int v184.2.1), some (.int x7), none, none, none, none]) (st' := [.ref 0, .ref 0]) (I' := v184.2.2) (L' := L) (R' := zw_RM) rfl ?_
                  refine zv_cV (M' := mm_X10_holds) (ci := 10) (a := 0) (av := []) (st := [.ref 0]) (r := some (.int (mf_holds v184.2.2))) (I' := v184.2.2) (L' := L) (R' := zw_RM) rfl zc_10_143 gd_X10_holds rfl rfl rfl (Nat.le_of_ble_eq_true rfl) (mt_holds (d := _) rfl) ⟨Nat.le_refl _, Nat.le_refl _⟩ ?_
                  refine zv_run 0 (pc' := 383) (lo' := [some (.ref 0), some (.int x1), some (.long x2), none, none, some (.int v184.1), some (.int v184.2.1), some (.int x7), none, none, none, none]) (st' := [.int (mf_holds v184.2.2), .ref 0]) (I' := v184.2.2) (L' := L) (R' := zw_RM) rfl ?_
                  obtain rfl := Option.some.inj h
                  exact k369
                · have h := mo_f h c369
                  refine zv_run 3 (pc' := 383) (lo' := [some (.ref 0), some (.int x1), some (.long x2), none, none, some (.int v184.1), some (.int v184.2.1), some (.int x7), none, none, none, none]) (st' := [.int (v184.2.2 0 30), .ref 0]) (I' := v184.2.2) (L' := L) (R' := zw_RM) rfl ?_
                  obtain rfl := Option.some.inj h
                  exact k369
          have h := e184
          refine zv_icmp_eq (tgt := 337) (zs_at rfl) (by decide) (fun c184 => ?_) (fun c184 => ?_)
          · have h := mo_t h c184
            obtain rfl := Option.some.inj h
            refine zv_fg (lo' := [some (.ref 0), some (.int x1), some (.long x2), none, none, some (.int x5), some (.int x6), some (.int x7), none, none, none, none]) (And.intro rfl (And.intro rfl (And.intro rfl (And.intro trivial (And.intro trivial (And.intro rfl (And.intro rfl (And.intro rfl (And.intro trivial (And.intro trivial (And.intro trivial (And.intro trivial rfl)))))))))))) ?_
            exact k184
          · have h := mo_f h c184
            refine zv_run 4 (pc' := 194) (lo' := [some (.ref 0), some (.int x1), some (.long x2), none, none, some (.int x5), some (.int x6), some (.int x7), some (.int v147.1), none, none, none]) (st' := [.int x5, .int x7, .int v147.1, .ref 0]) (I' := v147.2) (L' := L) (R' := zw_RM) rfl ?_
            obtain ⟨p194, e194, h⟩ := mo_b h
            refine zv_cVz (M' := mm_X10_canGo) (ci := 10) (a := 0) (av := [.int v147.1, .int x7, .int x5]) (st := []) (v := p194.1) (I' := p194.2) (L' := L) (R' := zw_RM) rfl zc_10_175 gd_X10_canGo rfl rfl rfl (Nat.le_of_ble_eq_true rfl) (mt_canGo (d := _) e194) ⟨Nat.le_refl _, Nat.le_refl _⟩ ?_
            intro b194
            refine zv_run 0 (pc' := 197) (lo' := [some (.ref 0), some (.int x1), some (.long x2), none, none, some (.int x5), some (.int x6), some (.int x7), some (.int v147.1), none, none, none]) (st' := [.int p194.1]) (I' := p194.2) (L' := L) (R' := zw_RM) rfl ?_
            refine zv_run 8 (pc' := 212) (lo' := [some (.ref 0), some (.int x1), some (.long x2), none, none, some (.int x5), some (.int x6), some (.int x7), some (.int v147.1), some (.int p194.1), some (.int (p194.2 3 13)), none]) (st' := [.int (p194.2 0 33)]) (I' := p194.2) (L' := L) (R' := zw_RM) rfl ?_
            obtain ⟨v212, e212, h⟩ := mo_b h
            have k212 : (v212 = 0 ∨ v212 = 1) → zx_V mm_X10_goThrough (d + 5) z0 (zw_ret (some (.int p.1)) zw_SM p.2 L zw_RM) zw_SM 249 [some (.ref 0), some (.int x1), some (.long x2), none, none, none, some (.int x6), some (.int x7), some (.int v147.1), some (.int p194.1), none, none] [.int v212] p194.2 L zw_RM := by
              intro b212_0
              clear e212
              refine zv_run 4 (pc' := 256) (lo' := [some (.ref 0), some (.int x1), some (.long x2), none, none, none, some (.int x6), some (.int x7), some (.int v147.1), some (.int p194.1), none, some (.int v212)]) (st' := [.int (p194.2 0 31), .ref 0]) (I' := p194.2) (L' := L) (R' := zw_RM) rfl ?_
              obtain ⟨p256, e256, h⟩ := mo_b h
              refine zv_cV (M' := mm_X10_draw) (ci := 10) (a := 0) (av := [.int (p194.2 0 31)]) (st := []) (r := none) (I' := p256) (L' := L) (R' := zw_RM) rfl zc_10_152 gd_X10_draw rfl rfl rfl (Nat.le_of_ble_eq_true rfl) (mt_draw (d := _) e256) ⟨Nat.le_refl _, Nat.le_refl _⟩ ?_
              refine zv_run 0 (pc' := 259) (lo' := [some (.ref 0), some (.int x1), some (.long x2), none, none, none, some (.int x6), some (.int x7), some (.int v147.1), some (.int p194.1), none, some (.int v212)]) (st' := []) (I' := p256) (L' := L) (R' := zw_RM) rfl ?_
              refine zv_run 4 (pc' := 267) (lo' := [some (.ref 0), some (.int x1), some (.long x2), none, none, none, some (.int x6), some (.int x7), some (.int v147.1), some (.int p194.1), none, some (.int v212)]) (st' := [.int x7, .int v147.1, .ref 13]) (I' := p256) (L' := L) (R' := zw_RM) rfl ?_
              obtain ⟨g267, h⟩ := mo_gs h
              refine zv_iast (zs_at rfl) rfl (mo_in_vp g267) ?_
              refine zv_run 7 (pc' := 280) (lo' := [some (.ref 0), some (.int x1), some (.long x2), none, none, none, some (.int x6), some (.int x7), some (.int v147.1), some (.int p194.1), none, some (.int v212)]) (st' := [.int 3, .int v147.1, .ref 0, .int x7, .int v147.1, .ref 14]) (I' := (zx_uI p256 13 v147.1.toNatClampNeg x7)) (L' := L) (R' := zw_RM) rfl ?_
              obtain ⟨p280, e280, h⟩ := mo_b h
              refine zv_cV (M' := mm_X10_of) (ci := 10) (a := 0) (av := [.int v147.1, .int 3]) (st := [.int x7, .int v147.1, .ref 14]) (r := some (.int p280)) (I' := (zx_uI p256 13 v147.1.toNatClampNeg x7)) (L' := L) (R' := zw_RM) rfl zc_10_139 gd_X10_of rfl rfl rfl (Nat.le_of_ble_eq_true rfl) (mt_of (d := _) e280) ⟨Nat.le_refl _, Nat.le_refl _⟩ ?_
              refine zv_run 0 (pc' := 283) (lo' := [some (.ref 0), some (.int x1), some (.long x2), none, none, none, some (.int x6), some (.int x7), some (.int v147.1), some (.int p194.1), none, some (.int v212)]) (st' := [.int p280, .int x7, .int v147.1, .ref 14]) (I' := (zx_uI p256 13 v147.1.toNatClampNeg x7)) (L' := L) (R' := zw_RM) rfl ?_
              refine zv_run 1 (pc' := 284) (lo' := [some (.ref 0), some (.int x1), some (.long x2), none, none, none, some (.int x6), some (.int x7), some (.int v147.1), some (.int p194.1), none, some (.int v212)]) (st' := [.int (x7 + p280), .int v147.1, .ref 14]) (I' := (zx_uI p256 13 v147.1.toNatClampNeg x7)) (L' := L) (R' := zw_RM) rfl ?_
              obtain ⟨g284, h⟩ := mo_gs h
              refine zv_iast (zs_at rfl) rfl (mo_in_vp g284) ?_
              refine zv_run 5 (pc' := 295) (lo' := [some (.ref 0), some (.int x1), some (.long x2), none, none, none, some (.int x6), some (.int x7), some (.int v147.1), some (.int p194.1), none, some (.int v212)]) (st' := [.int (p256 0 32), .int v147.1, .ref 15]) (I' := (zx_uI (zx_uI p256 13 v147.1.toNatClampNeg x7) 14 v147.1.toNatClampNeg (x7 + p280))) (L' := L) (R' := zw_RM) rfl ?_
              obtain ⟨g295, h⟩ := mo_gs h
              refine zv_iast (zs_at rfl) rfl (mo_in_vp g295) ?_
              refine zv_run 5 (pc' := 306) (lo' := [some (.ref 0), some (.int x1), some (.long x2), none, none, none, some (.int x6), some (.int x7), some (.int v147.1), some (.int p194.1), none, some (.int v212)]) (st' := [.int (p256 0 31), .int v147.1, .ref 16]) (I' := (zx_uI (zx_uI (zx_uI p256 13 v147.1.toNatClampNeg x7) 14 v147.1.toNatClampNeg (x7 + p280)) 15 v147.1.toNatClampNeg (p256 0 32))) (L' := L) (R' := zw_RM) rfl ?_
              obtain ⟨g306, h⟩ := mo_gs h
              refine zv_iast (zs_at rfl) rfl (mo_in_vp g306) ?_
              refine zv_run 2 (pc' := 310) (lo' := [some (.ref 0), some (.int x1), some (.long x2), none, none, none, some (.int x6), some (.int x7), some (.int v147.1), some (.int p194.1), none, some (.int v212)]) (st' := [.int p194.1, .ref 0]) (I' := (zx_uI (zx_uI (zx_uI (zx_uI p256 13 v147.1.toNatClampNeg x7) 14 v147.1.toNatClampNeg (x7 + p280)) 15 v147.1.toNatClampNeg (p256 0 32)) 16 v147.1.toNatClampNeg (p256 0 31))) (L' := L) (R' := zw_RM) rfl ?_
              obtain ⟨v310, e310, h⟩ := mo_b h
              have k310 : zx_V mm_X10_goThrough (d + 5) z0 (zw_ret (some (.int p.1)) zw_SM p.2 L zw_RM) zw_SM 327 [some (.ref 0), some (.int x1), some (.long x2), none, none, none, some (.int x6), some (.int x7), some (.int v147.1), none, none, none] [.int v310, .ref 0] (zx_uI (zx_uI (zx_uI (zx_uI p256 13 v147.1.toNatClampNeg x7) 14 v147.1.toNatClampNeg (x7 + p280)) 15 v147.1.toNatClampNeg (p256 0 32)) 16 v147.1.toNatClampNeg (p256 0 31)) L zw_RM := by
                clear e310
                refine zv_run 4 (pc' := 337) (lo' := [some (.ref 0), some (.int x1), some (.long x2), none, none, some (.int v147.1), some (.int (x6 + 1)), some (.int x7), some (.int v147.1), none, none, none]) (st' := []) (I' := (zx_uI (zx_uI (zx_uI (zx_uI (zx_uI p256 13 v147.1.toNatClampNeg x7) 14 v147.1.toNatClampNeg (x7 + p280)) 15 v147.1.toNatClampNeg (p256 0 32)) 16 v147.1.toNatClampNeg (p256 0 31)) 0 27 v310)) (L' := L) (R' := zw_RM) rfl ?_
                obtain rfl := Option.some.inj h
                refine zv_fg (lo' := [some (.ref 0), some (.int x1), some (.long x2), none, none, some (.int v147.1), some (.int (x6 + 1)), some (.int x7), none, none, none, none]) (And.intro rfl (And.intro rfl (And.intro rfl (And.intro trivial (And.intro trivial (And.intro rfl (And.intro rfl (And.intro rfl (And.intro trivial (And.intro trivial (And.intro trivial (And.intro trivial rfl)))))))))))) ?_
                exact k184
              have h := e310
              refine zv_if_eq (tgt := 323) (zs_at rfl) (by decide) (fun c310 => ?_) (fun c310 => ?_)
              · have h := mo_t h c310
                refine zv_run 2 (pc' := 327) (lo' := [some (.ref 0), some (.int x1), some (.long x2), none, none, none, some (.int x6), some (.int x7), some (.int v147.1), some (.int p194.1), none, some (.int v212)]) (st' := [.int (p256 0 27), .ref 0]) (I' := (zx_uI (zx_uI (zx_uI (zx_uI p256 13 v147.1.toNatClampNeg x7) 14 v147.1.toNatClampNeg (x7 + p280)) 15 v147.1.toNatClampNeg (p256 0 32)) 16 v147.1.toNatClampNeg (p256 0 31))) (L' := L) (R' := zw_RM) rfl ?_
                obtain rfl := Option.some.inj h
                refine zv_fg (lo' := [some (.ref 0), some (.int x1), some (.long x2), none, none, none, some (.int x6), some (.int x7), some (.int v147.1), none, none, none]) (And.intro rfl (And.intro rfl (And.intro rfl (And.intro trivial (And.intro trivial (And.intro trivial (And.intro rfl (And.intro rfl (And.intro rfl (And.intro trivial (And.intro trivial (And.intro trivial rfl)))))))))))) ?_
                exact k310
              · have h := mo_f h c310
                refine zv_run 1 (pc' := 315) (lo' := [some (.ref 0), some (.int x1), some (.long x2), none, none, none, some (.int x6), some (.int x7), some (.int v147.1), some (.int p194.1), none, some (.int v212)]) (st' := [.int v212, .ref 0]) (I' := (zx_uI (zx_uI (zx_uI (zx_uI p256 13 v147.1.toNatClampNeg x7) 14 v147.1.toNatClampNeg (x7 + p280)) 15 v147.1.toNatClampNeg (p256 0 32)) 16 v147.1.toNatClampNeg (p256 0 31))) (L' := L) (R' := zw_RM) rfl ?_
                refine zv_if_eq (tgt := 323) (zs_at rfl) (by decide) (fun c315 => ?_) (fun c315 => ?_)
                · have h := mo_t h c315
                  refine zv_run 2 (pc' := 327) (lo' := [some (.ref 0), some (.int x1), some (.long x2), none, none, none, some (.int x6), some (.int x7), some (.int v147.1), some (.int p194.1), none, some (.int v212)]) (st' := [.int (p256 0 27), .ref 0]) (I' := (zx_uI (zx_uI (zx_uI (zx_uI p256 13 v147.1.toNatClampNeg x7) 14 v147.1.toNatClampNeg (x7 + p280)) 15 v147.1.toNatClampNeg (p256 0 32)) 16 v147.1.toNatClampNeg (p256 0 31))) (L' := L) (R' := zw_RM) rfl ?_
                  obtain rfl := Option.some.inj h
                  refine zv_fg (lo' := [some (.ref 0), some (.int x1), some (.long x2), none, none, none, some (.int x6), some (.int x7), some (.int v147.1), none, none, none]) (And.intro rfl (And.intro rfl (And.intro rfl (And.intro trivial (And.intro trivial (And.intro trivial (And.intro rfl (And.intro rfl (And.intro rfl (And.intro trivial (And.intro trivial (And.intro trivial rfl)))))))))))) ?_
                  exact k310
                · have h := mo_f h c315
                  refine zv_run 2 (pc' := 327) (lo' := [some (.ref 0), some (.int x1), some (.long x2), none, none, none, some (.int x6), some (.int x7), some (.int v147.1), some (.int p194.1), none, some (.int v212)]) (st' := [.int x7, .ref 0]) (I' := (zx_uI (zx_uI (zx_uI (zx_uI p256 13 v147.1.toNatClampNeg x7) 14 v147.1.toNatClampNeg (x7 + p280)) 15 v147.1.toNatClampNeg (p256 0 32)) 16 v147.1.toNatClampNeg (p256 0 31))) (L' := L) (R' := zw_RM) rfl ?_
                  obtain rfl := Option.some.inj h
                  refine zv_fg (lo' := [some (.ref 0), some (.int x1), some (.long x2), none, none, none, some (.int x6), some (.int x7), some (.int v147.1), none, none, none]) (And.intro rfl (And.intro rfl (And.intro rfl (And.intro trivial (And.intro trivial (And.intro trivial (And.intro rfl (And.intro rfl (And.intro rfl (And.intro trivial (And.intro trivial (And.intro trivial rfl)))))))))))) ?_
                  exact k310
            have h := e212
            refine zv_if_ne (tgt := 248) (zs_at rfl) (by decide) (fun c212 => ?_) (fun c212 => ?_)
            · have h := mo_f h c212
              refine zv_run 1 (pc' := 249) (lo' := [some (.ref 0), some (.int x1), some (.long x2), none, none, some (.int x5), some (.int x6), some (.int x7), some (.int v147.1), some (.int p194.1), some (.int (p194.2 3 13)), none]) (st' := [.int 0]) (I' := p194.2) (L' := L) (R' := zw_RM) rfl ?_
              obtain rfl := Option.some.inj h
              refine zv_fg (lo' := [some (.ref 0), some (.int x1), some (.long x2), none, none, none, some (.int x6), some (.int x7), some (.int v147.1), some (.int p194.1), none, none]) (And.intro rfl (And.intro rfl (And.intro rfl (And.intro trivial (And.intro trivial (And.intro trivial (And.intro rfl (And.intro rfl (And.intro rfl (And.intro rfl (And.intro trivial (And.intro trivial rfl)))))))))))) ?_
              exact k212 (Or.inl rfl)
            · have h := mo_t h c212
              refine zv_run 8 (pc' := 229) (lo' := [some (.ref 0), some (.int x1), some (.long x2), none, none, some (.int x5), some (.int x6), some (.int x7), some (.int v147.1), some (.int p194.1), some (.int (p194.2 3 13)), none]) (st' := [.int (p194.2 3 14), .int (x7 - (p194.2 0 27))]) (I' := p194.2) (L' := L) (R' := zw_RM) rfl ?_
              refine zv_icmp_lt (tgt := 248) (zs_at rfl) (by decide) (fun c229 => ?_) (fun c229 => ?_)
              · have h := mo_t h c229
                refine zv_run 1 (pc' := 249) (lo' := [some (.ref 0), some (.int x1), some (.long x2), none, none, some (.int x5), some (.int x6), some (.int x7), some (.int v147.1), some (.int p194.1), some (.int (p194.2 3 13)), none]) (st' := [.int 0]) (I' := p194.2) (L' := L) (R' := zw_RM) rfl ?_
                obtain rfl := Option.some.inj h
                refine zv_fg (lo' := [some (.ref 0), some (.int x1), some (.long x2), none, none, none, some (.int x6), some (.int x7), some (.int v147.1), some (.int p194.1), none, none]) (And.intro rfl (And.intro rfl (And.intro rfl (And.intro trivial (And.intro trivial (And.intro trivial (And.intro rfl (And.intro rfl (And.intro rfl (And.intro rfl (And.intro trivial (And.intro trivial rfl)))))))))))) ?_
                exact k212 (Or.inl rfl)
              · have h := mo_f h c229
                refine zv_run 4 (pc' := 238) (lo' := [some (.ref 0), some (.int x1), some (.long x2), none, none, some (.int x5), some (.int x6), some (.int x7), some (.int v147.1), some (.int p194.1), some (.int (p194.2 3 13)), none]) (st' := [.int 0, .int v147.1, .ref 0, .int (p194.2 3 13)]) (I' := p194.2) (L' := L) (R' := zw_RM) rfl ?_
                obtain ⟨p238, e238, h⟩ := mo_b h
                refine zv_cV (M' := mm_X10_of) (ci := 10) (a := 0) (av := [.int v147.1, .int 0]) (st := [.int (p194.2 3 13)]) (r := some (.int p238)) (I' := p194.2) (L' := L) (R' := zw_RM) rfl zc_10_139 gd_X10_of rfl rfl rfl (Nat.le_of_ble_eq_true rfl) (mt_of (d := _) e238) ⟨Nat.le_refl _, Nat.le_refl _⟩ ?_
                refine zv_run 0 (pc' := 241) (lo' := [some (.ref 0), some (.int x1), some (.long x2), none, none, some (.int x5), some (.int x6), some (.int x7), some (.int v147.1), some (.int p194.1), some (.int (p194.2 3 13)), none]) (st' := [.int p238, .int (p194.2 3 13)]) (I' := p194.2) (L' := L) (R' := zw_RM) rfl ?_
                refine zv_icmp_gt (tgt := 248) (zs_at rfl) (by decide) (fun c241 => ?_) (fun c241 => ?_)
                · have h := mo_t h c241
                  refine zv_run 1 (pc' := 249) (lo' := [some (.ref 0), some (.int x1), some (.long x2), none, none, some (.int x5), some (.int x6), some (.int x7), some (.int v147.1), some (.int p194.1), some (.int (p194.2 3 13)), none]) (st' := [.int 0]) (I' := p194.2) (L' := L) (R' := zw_RM) rfl ?_
                  obtain rfl := Option.some.inj h
                  refine zv_fg (lo' := [some (.ref 0), some (.int x1), some (.long x2), none, none, none, some (.int x6), some (.int x7), some (.int v147.1), some (.int p194.1), none, none]) (And.intro rfl (And.intro rfl (And.intro rfl (And.intro trivial (And.intro trivial (And.intro trivial (And.intro rfl (And.intro rfl (And.intro rfl (And.intro rfl (And.intro trivial (And.intro trivial rfl)))))))))))) ?_
                  exact k212 (Or.inl rfl)
                · have h := mo_f h c241
                  refine zv_run 2 (pc' := 249) (lo' := [some (.ref 0), some (.int x1), some (.long x2), none, none, some (.int x5), some (.int x6), some (.int x7), some (.int v147.1), some (.int p194.1), some (.int (p194.2 3 13)), none]) (st' := [.int 1]) (I' := p194.2) (L' := L) (R' := zw_RM) rfl ?_
                  obtain rfl := Option.some.inj h
                  refine zv_fg (lo' := [some (.ref 0), some (.int x1), some (.long x2), none, none, none, some (.int x6), some (.int x7), some (.int v147.1), some (.int p194.1), none, none]) (And.intro rfl (And.intro rfl (And.intro rfl (And.intro trivial (And.intro trivial (And.intro trivial (And.intro rfl (And.intro rfl (And.intro rfl (And.intro rfl (And.intro trivial (And.intro trivial rfl)))))))))))) ?_
                  exact k212 (Or.inr rfl)
        have h := e147
        refine zv_icmp_eq (tgt := 162) (zs_at rfl) (by decide) (fun c147 => ?_) (fun c147 => ?_)
        · have h := mo_t h c147
          refine zv_run 5 (pc' := 170) (lo' := [some (.ref 0), some (.int x1), some (.long x2), none, none, some (.int x5), some (.int x6), some (.int x7), none, none, none, none]) (st' := [.int x6, .int x5, .int x7, .int x1, .ref 0]) (I' := v107) (L' := L) (R' := zw_RM) rfl ?_
          obtain ⟨p170, e170, h⟩ := mo_b h
          refine zv_cV (M' := mm_X10_chosen) (ci := 10) (a := 0) (av := [.int x1, .int x7, .int x5, .int x6]) (st := []) (r := some (.int p170.1)) (I' := p170.2) (L' := L) (R' := zw_RM) rfl zc_10_187 gd_X10_chosen rfl rfl rfl (Nat.le_of_ble_eq_true rfl) (mt_chosen (d := _) e170) ⟨Nat.le_refl _, Nat.le_refl _⟩ ?_
          refine zv_run 0 (pc' := 173) (lo' := [some (.ref 0), some (.int x1), some (.long x2), none, none, some (.int x5), some (.int x6), some (.int x7), none, none, none, none]) (st' := [.int p170.1]) (I' := p170.2) (L' := L) (R' := zw_RM) rfl ?_
          refine zv_run 1 (pc' := 178) (lo' := [some (.ref 0), some (.int x1), some (.long x2), none, none, some (.int x5), some (.int x6), some (.int x7), none, none, none, none]) (st' := [.int p170.1]) (I' := p170.2) (L' := L) (R' := zw_RM) rfl ?_
          obtain rfl := Option.some.inj h
          exact k147
        · have h := mo_f h c147
          refine zv_run 3 (pc' := 156) (lo' := [some (.ref 0), some (.int x1), some (.long x2), none, none, some (.int x5), some (.int x6), some (.int x7), none, none, none, none]) (st' := [.int x5, .ref 14]) (I' := v107) (L' := L) (R' := zw_RM) rfl ?_
          obtain ⟨g156, h⟩ := mo_gs h
          refine zv_iald (zs_at rfl) rfl (mo_in_vp g156) ?_
          refine zv_run 0 (pc' := 157) (lo' := [some (.ref 0), some (.int x1), some (.long x2), none, none, some (.int x5), some (.int x6), some (.int x7), none, none, none, none]) (st' := [.int (v107 14 x5.toNatClampNeg)]) (I' := v107) (L' := L) (R' := zw_RM) rfl ?_
          refine zv_run 1 (pc' := 159) (lo' := [some (.ref 0), some (.int x1), some (.long x2), none, none, some (.int x5), some (.int x6), some (.int x7), none, none, none, none]) (st' := [.int x7, .int (v107 14 x5.toNatClampNeg)]) (I' := v107) (L' := L) (R' := zw_RM) rfl ?_
          refine zv_icmp_gt (tgt := 176) (zs_at rfl) (by decide) (fun c159 => ?_) (fun c159 => ?_)
          · have h := mo_t h c159
            refine zv_run 1 (pc' := 178) (lo' := [some (.ref 0), some (.int x1), some (.long x2), none, none, some (.int x5), some (.int x6), some (.int x7), none, none, none, none]) (st' := [.int (-4)]) (I' := v107) (L' := L) (R' := zw_RM) rfl ?_
            obtain rfl := Option.some.inj h
            exact k147
          · have h := mo_f h c159
            refine zv_run 5 (pc' := 170) (lo' := [some (.ref 0), some (.int x1), some (.long x2), none, none, some (.int x5), some (.int x6), some (.int x7), none, none, none, none]) (st' := [.int x6, .int x5, .int x7, .int x1, .ref 0]) (I' := v107) (L' := L) (R' := zw_RM) rfl ?_
            obtain ⟨p170, e170, h⟩ := mo_b h
            refine zv_cV (M' := mm_X10_chosen) (ci := 10) (a := 0) (av := [.int x1, .int x7, .int x5, .int x6]) (st := []) (r := some (.int p170.1)) (I' := p170.2) (L' := L) (R' := zw_RM) rfl zc_10_187 gd_X10_chosen rfl rfl rfl (Nat.le_of_ble_eq_true rfl) (mt_chosen (d := _) e170) ⟨Nat.le_refl _, Nat.le_refl _⟩ ?_
            refine zv_run 0 (pc' := 173) (lo' := [some (.ref 0), some (.int x1), some (.long x2), none, none, some (.int x5), some (.int x6), some (.int x7), none, none, none, none]) (st' := [.int p170.1]) (I' := p170.2) (L' := L) (R' := zw_RM) rfl ?_
            refine zv_run 1 (pc' := 178) (lo' := [some (.ref 0), some (.int x1), some (.long x2), none, none, some (.int x5), some (.int x6), some (.int x7), none, none, none, none]) (st' := [.int p170.1]) (I' := p170.2) (L' := L) (R' := zw_RM) rfl ?_
            obtain rfl := Option.some.inj h
            exact k147
      have h := e107
      refine zv_if_ne (tgt := 143) (zs_at rfl) (by decide) (fun c107 => ?_) (fun c107 => ?_)
      · have h := mo_f h c107
        obtain rfl := Option.some.inj h
        exact k107
      · have h := mo_t h c107
        refine zv_run 2 (pc' := 114) (lo' := [some (.ref 0), some (.int x1), some (.long x2), none, none, some (.int x5), some (.int x6), some (.int x7), none, none, none, none]) (st' := [.int (J 0 26)]) (I' := J) (L' := L) (R' := zw_RM) rfl ?_
        refine zv_if_le (tgt := 143) (zs_at rfl) (by decide) (fun c114 => ?_) (fun c114 => ?_)
        · have h := mo_t h c114
          obtain rfl := Option.some.inj h
          exact k107
        · have h := mo_f h c114
          refine zv_run 15 (pc' := 143) (lo' := [some (.ref 0), some (.int x1), some (.long x2), none, none, some (.int x5), some (.int x6), some (.int x7), none, none, none, none]) (st' := []) (I' := (zx_uI (zx_uI (zx_uI J 0 24 3) 0 25 (J 3 10)) 0 26 ((J 0 26) - 1))) (L' := L) (R' := zw_RM) rfl ?_
          obtain rfl := Option.some.inj h
          exact k107
theorem mt_goThrough {d n : Nat} {x1 : Int32} {x2 : Int64} {x4 : Int32} {J : zx_I} {L : zx_L} {p : Int32 × zx_I} (h : mf_goThrough n x1 x2 x4 J = some p) : zx_M0 mm_X10_goThrough (d + 5) 0 0 [.ref 0, .int x1, .long x2, .int x4] zw_SM J L zw_RM (zw_ret (some (.int p.1)) zw_SM p.2 L zw_RM) := by
  unfold mf_goThrough at h
  refine zv_entry gd_X10_goThrough (Nat.le_of_ble_eq_true rfl) ?_
  refine zv_run 1 (pc' := 1) (lo' := [some (.ref 0), some (.int x1), some (.long x2), none, some (.int x4), none, none, none, none, none, none, none]) (st' := [.ref 0]) (I' := J) (L' := L) (R' := zw_RM) rfl ?_
  obtain ⟨p1, e1, h⟩ := mo_b h
  refine zv_cV (M' := mm_X10_fill) (ci := 10) (a := 0) (av := []) (st := []) (r := none) (I' := p1) (L' := L) (R' := zw_RM) rfl zc_10_149 gd_X10_fill rfl rfl rfl (Nat.le_of_ble_eq_true rfl) (mt_fill (d := _) e1) ⟨Nat.le_refl _, Nat.le_refl _⟩ ?_
  refine zv_run 0 (pc' := 4) (lo' := [some (.ref 0), some (.int x1), some (.long x2), none, some (.int x4), none, none, none, none, none, none, none]) (st' := []) (I' := p1) (L' := L) (R' := zw_RM) rfl ?_
  refine zv_run 14 (pc' := 28) (lo' := [some (.ref 0), some (.int x1), some (.long x2), none, some (.int x4), some (.int 0), none, none, none, none, none, none]) (st' := []) (I' := (zx_uI (zx_uI (zx_uI (zx_uI p1 0 24 0) 0 25 0) 0 26 x4) 0 27 0)) (L' := L) (R' := zw_RM) rfl ?_
  refine zv_fg (lo' := [some (.ref 0), some (.int x1), some (.long x2), none, none, some (.int 0), none, none, none, none, none, none]) (And.intro rfl (And.intro rfl (And.intro rfl (And.intro trivial (And.intro trivial (And.intro rfl (And.intro trivial (And.intro trivial (And.intro trivial (And.intro trivial (And.intro trivial (And.intro trivial rfl)))))))))))) ?_
  refine ml_goThrough_28 (fun J_28 p h => ?_) n _ _ p h
  refine zv_run 6 (pc' := 87) (lo' := [some (.ref 0), some (.int x1), some (.long x2), none, none, some (.int (-4)), some (.int 0), some (.int 0), none, none, none, none]) (st' := []) (I' := J_28) (L' := L) (R' := zw_RM) rfl ?_
  refine ml_goThrough_87 (fun J_87 p h => ?_) n _ _ _ _ p h
  refine zv_run 1 (pc' := 397) (lo' := [some (.ref 0), some (.int x1), some (.long x2), none, none, none, none, none, none, none, none, none]) (st' := [.ref 0]) (I' := J_87) (L' := L) (R' := zw_RM) rfl ?_
  obtain ⟨p397, e397, h⟩ := mo_b h
  refine zv_cV (M' := mm_X10_scoreNow) (ci := 10) (a := 0) (av := []) (st := []) (r := some (.int p397)) (I' := J_87) (L' := L) (R' := zw_RM) rfl zc_10_203 gd_X10_scoreNow rfl rfl rfl (Nat.le_of_ble_eq_true rfl) (mt_scoreNow (d := _) e397) ⟨Nat.le_refl _, Nat.le_refl _⟩ ?_
  refine zv_run 0 (pc' := 400) (lo' := [some (.ref 0), some (.int x1), some (.long x2), none, none, none, none, none, none, none, none, none]) (st' := [.int p397]) (I' := J_87) (L' := L) (R' := zw_RM) rfl ?_
  obtain rfl := Option.some.inj h
  exact zv_iret (zs_at rfl) rfl ⟨Nat.le_refl _, Nat.le_refl _⟩ zw_here
def mf_asTold_2_b (n : Nat) (K : zx_I → Option (zx_I)) (Z : Int32 → zx_I → Option (zx_I)) (x1 : Int32) (J : zx_I) : Option (zx_I) := (if (6 : Int32) ≤ x1 then K J else ((mf_of x1 (4 : Int32) J).bind fun p16 => (mo_g (mo_in x1 6) (mo_g (mo_in x1 6) (mo_g (mo_in x1 6) (Z (x1 + 1) (zx_uI (zx_uI J 12 x1.toNatClampNeg p16) 17 x1.toNatClampNeg (J 4 x1.toNatClampNeg))))))))
def mf_asTold_2 (n : Nat) (K : zx_I → Option (zx_I)) : Nat → Int32 → zx_I → Option (zx_I)
  | 0 => fun _ _ => none
  | k + 1 => mf_asTold_2_b n K (mf_asTold_2 n K k)
def mf_asTold (n : Nat) (J : zx_I) : Option (zx_I) := (mf_asTold_2 n (fun J_2 => some ((zx_uI J_2 0 29 0))) n (0 : Int32) J)
theorem ml_asTold_2 {n d : Nat} {L : zx_L} {K : zx_I → Option (zx_I)} (hK : ∀ (J : zx_I) (p : zx_I), K J = some p → zx_V mm_X10_asTold (d + 1) z0 (zw_ret (none) zw_SM p L zw_RM) zw_SM 38 [some (.ref 0), none] [] J L zw_RM) : ∀ (k : Nat) (x1 : Int32) (J : zx_I) (p : zx_I), mf_asTold_2 n K k x1 J = some p → zx_V mm_X10_asTold (d + 1) z0 (zw_ret (none) zw_SM p L zw_RM) zw_SM 2 [some (.ref 0), some (.int x1)] [] J L zw_RM := by
  intro k
  induction k with
  | zero =>
    intro x1 J p h
    exact absurd (show (none : Option (zx_I)) = some p from h) (by intro q; cases q)
  | succ k ih =>
    intro x1 J p h
    have h : mf_asTold_2_b n K (mf_asTold_2 n K k) x1 J = some p := h
    unfold mf_asTold_2_b at h
    refine zv_run 2 (pc' := 5) (lo' := [some (.ref 0), some (.int x1)]) (st' := [.int 6, .int x1]) (I' := J) (L' := L) (R' := zw_RM) rfl ?_
    refine zv_icmp_ge (tgt := 38) (zs_at rfl) (by decide) (fun c5 => ?_) (fun c5 => ?_)
    · have h := mo_t h c5
      refine zv_fg (lo' := [some (.ref 0), none]) (And.intro rfl (And.intro trivial rfl)) ?_
      exact hK _ p h
    · have h := mo_f h c5
      refine zv_run 6 (pc' := 16) (lo' := [some (.ref 0), some (.int x1)]) (st' := [.int 4, .int x1, .ref 0, .int x1, .ref 12]) (I' := J) (L' := L) (R' := zw_RM) rfl ?_
      obtain ⟨p16, e16, h⟩ := mo_b h
      refine zv_cV (M' := mm_X10_of) (ci := 10) (a := 0) (av := [.int x1, .int 4]) (st := [.int x1, .ref 12]) (r := some (.int p16)) (I' := J) (L' := L) (R' := zw_RM) rfl zc_10_139 gd_X10_of rfl rfl rfl (Nat.le_of_ble_eq_true rfl) (mt_of (d := _) e16) ⟨Nat.le_refl _, Nat.le_refl _⟩ ?_
      refine zv_run 0 (pc' := 19) (lo' := [some (.ref 0), some (.int x1)]) (st' := [.int p16, .int x1, .ref 12]) (I' := J) (L' := L) (R' := zw_RM) rfl ?_
      obtain ⟨g19, h⟩ := mo_gs h
      refine zv_iast (zs_at rfl) rfl (mo_in_vp g19) ?_
      refine zv_run 6 (pc' := 30) (lo' := [some (.ref 0), some (.int x1)]) (st' := [.int x1, .ref 4, .int x1, .ref 17]) (I' := (zx_uI J 12 x1.toNatClampNeg p16)) (L' := L) (R' := zw_RM) rfl ?_
      obtain ⟨g30, h⟩ := mo_gs h
      refine zv_iald (zs_at rfl) rfl (mo_in_vp g30) ?_
      refine zv_run 0 (pc' := 31) (lo' := [some (.ref 0), some (.int x1)]) (st' := [.int (J 4 x1.toNatClampNeg), .int x1, .ref 17]) (I' := (zx_uI J 12 x1.toNatClampNeg p16)) (L' := L) (R' := zw_RM) rfl ?_
      obtain ⟨g31, h⟩ := mo_gs h
      refine zv_iast (zs_at rfl) rfl (mo_in_vp g31) ?_
      refine zv_run 2 (pc' := 2) (lo' := [some (.ref 0), some (.int (x1 + 1))]) (st' := []) (I' := (zx_uI (zx_uI J 12 x1.toNatClampNeg p16) 17 x1.toNatClampNeg (J 4 x1.toNatClampNeg))) (L' := L) (R' := zw_RM) rfl ?_
      exact ih _ _ p h
theorem mt_asTold {d n : Nat} {J : zx_I} {L : zx_L} {p : zx_I} (h : mf_asTold n J = some p) : zx_M0 mm_X10_asTold (d + 1) 0 0 [.ref 0] zw_SM J L zw_RM (zw_ret (none) zw_SM p L zw_RM) := by
  unfold mf_asTold at h
  refine zv_entry gd_X10_asTold (Nat.le_of_ble_eq_true rfl) ?_
  refine zv_run 2 (pc' := 2) (lo' := [some (.ref 0), some (.int 0)]) (st' := []) (I' := J) (L' := L) (R' := zw_RM) rfl ?_
  refine ml_asTold_2 (fun J_2 p h => ?_) n _ _ p h
  refine zv_run 3 (pc' := 43) (lo' := [some (.ref 0), none]) (st' := []) (I' := (zx_uI J_2 0 29 0)) (L' := L) (R' := zw_RM) rfl ?_
  obtain rfl := Option.some.inj h
  exact zv_vret (zs_at rfl) rfl ⟨Nat.le_refl _, Nat.le_refl _⟩ zw_here
def mf_scoreOf (n : Nat) (x1 : Int32) (J : zx_I) (L : zx_L) : Option (Int32 × zx_I) := ((mf_asTold n J).bind fun p1 => ((mf_goThrough n x1 (L 0 9) (p1 3 11) p1).bind fun p17 => some (p17.1, p17.2)))
theorem mt_scoreOf {d n : Nat} {x1 : Int32} {J : zx_I} {L : zx_L} {p : Int32 × zx_I} (h : mf_scoreOf n x1 J L = some p) : zx_M0 mm_X10_scoreOf (d + 6) 0 0 [.ref 0, .int x1] zw_SM J L zw_RM (zw_ret (some (.int p.1)) zw_SM p.2 L zw_RM) := by
  unfold mf_scoreOf at h
  refine zv_entry gd_X10_scoreOf (Nat.le_of_ble_eq_true rfl) ?_
  refine zv_run 1 (pc' := 1) (lo' := [some (.ref 0), some (.int x1)]) (st' := [.ref 0]) (I' := J) (L' := L) (R' := zw_RM) rfl ?_
  obtain ⟨p1, e1, h⟩ := mo_b h
  refine zv_cV (M' := mm_X10_asTold) (ci := 10) (a := 0) (av := []) (st := []) (r := none) (I' := p1) (L' := L) (R' := zw_RM) rfl zc_10_212 gd_X10_asTold rfl rfl rfl (Nat.le_of_ble_eq_true rfl) (mt_asTold (d := _) e1) ⟨Nat.le_refl _, Nat.le_refl _⟩ ?_
  refine zv_run 0 (pc' := 4) (lo' := [some (.ref 0), some (.int x1)]) (st' := []) (I' := p1) (L' := L) (R' := zw_RM) rfl ?_
  refine zv_run 8 (pc' := 17) (lo' := [some (.ref 0), some (.int x1)]) (st' := [.int (p1 3 11), .long (L 0 9), .int x1, .ref 0]) (I' := p1) (L' := L) (R' := zw_RM) rfl ?_
  obtain ⟨p17, e17, h⟩ := mo_b h
  refine zv_cV (M' := mm_X10_goThrough) (ci := 10) (a := 0) (av := [.int x1, .long (L 0 9), .int (p1 3 11)]) (st := []) (r := some (.int p17.1)) (I' := p17.2) (L' := L) (R' := zw_RM) rfl zc_10_215 gd_X10_goThrough rfl rfl rfl (Nat.le_of_ble_eq_true rfl) (mt_goThrough (d := _) e17) ⟨Nat.le_refl _, Nat.le_refl _⟩ ?_
  refine zv_run 0 (pc' := 20) (lo' := [some (.ref 0), some (.int x1)]) (st' := [.int p17.1]) (I' := p17.2) (L' := L) (R' := zw_RM) rfl ?_
  obtain rfl := Option.some.inj h
  exact zv_iret (zs_at rfl) rfl ⟨Nat.le_refl _, Nat.le_refl _⟩ zw_here
def mf_evening (n : Nat) (x1 : Int32) (x2 : Int32) (x3 : Int32) (J : zx_I) (L : zx_L) : Option (Int32 × zx_I) := (if (mf_isRule x1) = 0 then some ((-1 : Int32), J) else (if (mf_isBatherOf x2 J) = 0 then some ((-1 : Int32), J) else (if (mf_in x3 (0 : Int32) (3 : Int32)) = 0 then some ((-1 : Int32), J) else ((mf_scoreOf n x1 J L).bind fun p28 => (if x3 = 0 then (mo_g (mo_in x2 6) (some ((p28.2 13 x2.toNatClampNeg), p28.2))) else (if x3 = (1 : Int32) then (mo_g (mo_in x2 6) (some ((p28.2 14 x2.toNatClampNeg), p28.2))) else (if x3 = (2 : Int32) then (mo_g (mo_in x2 6) (some ((p28.2 15 x2.toNatClampNeg), p28.2))) else (mo_g (mo_in x2 6) (some ((p28.2 16 x2.toNatClampNeg), p28.2))))))))))
theorem mt_evening {d n : Nat} {x1 : Int32} {x2 : Int32} {x3 : Int32} {J : zx_I} {L : zx_L} {p : Int32 × zx_I} (h : mf_evening n x1 x2 x3 J L = some p) : zx_M0 mm_X10_evening (d + 7) 0 0 [.ref 0, .int x1, .int x2, .int x3] zw_SM J L zw_RM (zw_ret (some (.int p.1)) zw_SM p.2 L zw_RM) := by
  unfold mf_evening at h
  refine zv_entry gd_X10_evening (Nat.le_of_ble_eq_true rfl) ?_
  refine zv_run 1 (pc' := 1) (lo' := [some (.ref 0), some (.int x1), some (.int x2), some (.int x3)]) (st' := [.int x1]) (I' := J) (L' := L) (R' := zw_RM) rfl ?_
  refine zv_cSz (M' := mm_X10_isRule) (av := [.int x1]) (st := []) (v := (mf_isRule x1)) (I' := J) (L' := L) (R' := zw_RM) rfl zc_10_219 gd_X10_isRule rfl (Nat.le_of_ble_eq_true rfl) (mt_isRule (d := _) rfl) ⟨Nat.le_refl _, Nat.le_refl _⟩ ?_
  intro b1
  refine zv_run 0 (pc' := 4) (lo' := [some (.ref 0), some (.int x1), some (.int x2), some (.int x3)]) (st' := [.int (mf_isRule x1)]) (I' := J) (L' := L) (R' := zw_RM) rfl ?_
  refine zv_if_eq (tgt := 24) (zs_at rfl) (by decide) (fun c4 => ?_) (fun c4 => ?_)
  · have h := mo_t h c4
    refine zv_run 1 (pc' := 25) (lo' := [some (.ref 0), some (.int x1), some (.int x2), some (.int x3)]) (st' := [.int (-1)]) (I' := J) (L' := L) (R' := zw_RM) rfl ?_
    obtain rfl := Option.some.inj h
    exact zv_iret (zs_at rfl) rfl ⟨Nat.le_refl _, Nat.le_refl _⟩ zw_here
  · have h := mo_f h c4
    refine zv_run 2 (pc' := 9) (lo' := [some (.ref 0), some (.int x1), some (.int x2), some (.int x3)]) (st' := [.int x2, .ref 0]) (I' := J) (L' := L) (R' := zw_RM) rfl ?_
    refine zv_cVz (M' := mm_X10_isBatherOf) (ci := 10) (a := 0) (av := [.int x2]) (st := []) (v := (mf_isBatherOf x2 J)) (I' := J) (L' := L) (R' := zw_RM) rfl zc_10_136 gd_X10_isBatherOf rfl rfl rfl (Nat.le_of_ble_eq_true rfl) (mt_isBatherOf (d := _) rfl) ⟨Nat.le_refl _, Nat.le_refl _⟩ ?_
    intro b9
    refine zv_run 0 (pc' := 12) (lo' := [some (.ref 0), some (.int x1), some (.int x2), some (.int x3)]) (st' := [.int (mf_isBatherOf x2 J)]) (I' := J) (L' := L) (R' := zw_RM) rfl ?_
    refine zv_if_eq (tgt := 24) (zs_at rfl) (by decide) (fun c12 => ?_) (fun c12 => ?_)
    · have h := mo_t h c12
      refine zv_run 1 (pc' := 25) (lo' := [some (.ref 0), some (.int x1), some (.int x2), some (.int x3)]) (st' := [.int (-1)]) (I' := J) (L' := L) (R' := zw_RM) rfl ?_
      obtain rfl := Option.some.inj h
      exact zv_iret (zs_at rfl) rfl ⟨Nat.le_refl _, Nat.le_refl _⟩ zw_here
    · have h := mo_f h c12
      refine zv_run 3 (pc' := 18) (lo' := [some (.ref 0), some (.int x1), some (.int x2), some (.int x3)]) (st' := [.int 3, .int 0, .int x3]) (I' := J) (L' := L) (R' := zw_RM) rfl ?_
      refine zv_cSz (M' := mm_X10_in) (av := [.int x3, .int 0, .int 3]) (st := []) (v := (mf_in x3 (0 : Int32) (3 : Int32))) (I' := J) (L' := L) (R' := zw_RM) rfl zc_10_86 gd_X10_in rfl (Nat.le_of_ble_eq_true rfl) (mt_in (d := _) rfl) ⟨Nat.le_refl _, Nat.le_refl _⟩ ?_
      intro b18
      refine zv_run 0 (pc' := 21) (lo' := [some (.ref 0), some (.int x1), some (.int x2), some (.int x3)]) (st' := [.int (mf_in x3 (0 : Int32) (3 : Int32))]) (I' := J) (L' := L) (R' := zw_RM) rfl ?_
      refine zv_if_ne (tgt := 26) (zs_at rfl) (by decide) (fun c21 => ?_) (fun c21 => ?_)
      · have h := mo_f h c21
        refine zv_run 2 (pc' := 28) (lo' := [some (.ref 0), some (.int x1), some (.int x2), some (.int x3)]) (st' := [.int x1, .ref 0]) (I' := J) (L' := L) (R' := zw_RM) rfl ?_
        obtain ⟨p28, e28, h⟩ := mo_b h
        refine zv_cV (M' := mm_X10_scoreOf) (ci := 10) (a := 0) (av := [.int x1]) (st := []) (r := some (.int p28.1)) (I' := p28.2) (L' := L) (R' := zw_RM) rfl zc_10_222 gd_X10_scoreOf rfl rfl rfl (Nat.le_of_ble_eq_true rfl) (mt_scoreOf (d := _) e28) ⟨Nat.le_refl _, Nat.le_refl _⟩ ?_
        refine zv_run 0 (pc' := 31) (lo' := [some (.ref 0), some (.int x1), some (.int x2), some (.int x3)]) (st' := [.int p28.1]) (I' := p28.2) (L' := L) (R' := zw_RM) rfl ?_
        refine zv_run 2 (pc' := 33) (lo' := [some (.ref 0), some (.int x1), some (.int x2), some (.int x3)]) (st' := [.int x3]) (I' := p28.2) (L' := L) (R' := zw_RM) rfl ?_
        refine zv_if_ne (tgt := 45) (zs_at rfl) (by decide) (fun c33 => ?_) (fun c33 => ?_)
        · have h := mo_f h c33
          refine zv_run 2 (pc' := 47) (lo' := [some (.ref 0), some (.int x1), some (.int x2), some (.int x3)]) (st' := [.int 1, .int x3]) (I' := p28.2) (L' := L) (R' := zw_RM) rfl ?_
          refine zv_icmp_ne (tgt := 59) (zs_at rfl) (by decide) (fun c47 => ?_) (fun c47 => ?_)
          · have h := mo_f h c47
            refine zv_run 2 (pc' := 61) (lo' := [some (.ref 0), some (.int x1), some (.int x2), some (.int x3)]) (st' := [.int 2, .int x3]) (I' := p28.2) (L' := L) (R' := zw_RM) rfl ?_
            refine zv_icmp_ne (tgt := 73) (zs_at rfl) (by decide) (fun c61 => ?_) (fun c61 => ?_)
            · have h := mo_f h c61
              refine zv_run 3 (pc' := 78) (lo' := [some (.ref 0), some (.int x1), some (.int x2), some (.int x3)]) (st' := [.int x2, .ref 16]) (I' := p28.2) (L' := L) (R' := zw_RM) rfl ?_
              obtain ⟨g78, h⟩ := mo_gs h
              refine zv_iald (zs_at rfl) rfl (mo_in_vp g78) ?_
              refine zv_run 0 (pc' := 79) (lo' := [some (.ref 0), some (.int x1), some (.int x2), some (.int x3)]) (st' := [.int (p28.2 16 x2.toNatClampNeg)]) (I' := p28.2) (L' := L) (R' := zw_RM) rfl ?_
              obtain rfl := Option.some.inj h
              exact zv_iret (zs_at rfl) rfl ⟨Nat.le_refl _, Nat.le_refl _⟩ zw_here
            · have h := mo_t h c61
              refine zv_run 3 (pc' := 69) (lo' := [some (.ref 0), some (.int x1), some (.int x2), some (.int x3)]) (st' := [.int x2, .ref 15]) (I' := p28.2) (L' := L) (R' := zw_RM) rfl ?_
              obtain ⟨g69, h⟩ := mo_gs h
              refine zv_iald (zs_at rfl) rfl (mo_in_vp g69) ?_
              refine zv_run 0 (pc' := 70) (lo' := [some (.ref 0), some (.int x1), some (.int x2), some (.int x3)]) (st' := [.int (p28.2 15 x2.toNatClampNeg)]) (I' := p28.2) (L' := L) (R' := zw_RM) rfl ?_
              refine zv_run 1 (pc' := 79) (lo' := [some (.ref 0), some (.int x1), some (.int x2), some (.int x3)]) (st' := [.int (p28.2 15 x2.toNatClampNeg)]) (I' := p28.2) (L' := L) (R' := zw_RM) rfl ?_
              obtain rfl := Option.some.inj h
              exact zv_iret (zs_at rfl) rfl ⟨Nat.le_refl _, Nat.le_refl _⟩ zw_here
          · have h := mo_t h c47
            refine zv_run 3 (pc' := 55) (lo' := [some (.ref 0), some (.int x1), some (.int x2), some (.int x3)]) (st' := [.int x2, .ref 14]) (I' := p28.2) (L' := L) (R' := zw_RM) rfl ?_
            obtain ⟨g55, h⟩ := mo_gs h
            refine zv_iald (zs_at rfl) rfl (mo_in_vp g55) ?_
            refine zv_run 0 (pc' := 56) (lo' := [some (.ref 0), some (.int x1), some (.int x2), some (.int x3)]) (st' := [.int (p28.2 14 x2.toNatClampNeg)]) (I' := p28.2) (L' := L) (R' := zw_RM) rfl ?_
            refine zv_run 1 (pc' := 79) (lo' := [some (.ref 0), some (.int x1), some (.int x2), some (.int x3)]) (st' := [.int (p28.2 14 x2.toNatClampNeg)]) (I' := p28.2) (L' := L) (R' := zw_RM) rfl ?_
            obtain rfl := Option.some.inj h
            exact zv_iret (zs_at rfl) rfl ⟨Nat.le_refl _, Nat.le_refl _⟩ zw_here
        · have h := mo_t h c33
          refine zv_run 3 (pc' := 41) (lo' := [some (.ref 0), some (.int x1), some (.int x2), some (.int x3)]) (st' := [.int x2, .ref 13]) (I' := p28.2) (L' := L) (R' := zw_RM) rfl ?_
          obtain ⟨g41, h⟩ := mo_gs h
          refine zv_iald (zs_at rfl) rfl (mo_in_vp g41) ?_
          refine zv_run 0 (pc' := 42) (lo' := [some (.ref 0), some (.int x1), some (.int x2), some (.int x3)]) (st' := [.int (p28.2 13 x2.toNatClampNeg)]) (I' := p28.2) (L' := L) (R' := zw_RM) rfl ?_
          refine zv_run 1 (pc' := 79) (lo' := [some (.ref 0), some (.int x1), some (.int x2), some (.int x3)]) (st' := [.int (p28.2 13 x2.toNatClampNeg)]) (I' := p28.2) (L' := L) (R' := zw_RM) rfl ?_
          obtain rfl := Option.some.inj h
          exact zv_iret (zs_at rfl) rfl ⟨Nat.le_refl _, Nat.le_refl _⟩ zw_here
      · have h := mo_t h c21
        refine zv_run 1 (pc' := 25) (lo' := [some (.ref 0), some (.int x1), some (.int x2), some (.int x3)]) (st' := [.int (-1)]) (I' := J) (L' := L) (R' := zw_RM) rfl ?_
        obtain rfl := Option.some.inj h
        exact zv_iret (zs_at rfl) rfl ⟨Nat.le_refl _, Nat.le_refl _⟩ zw_here
def mf_score (n : Nat) (x1 : Int32) (x2 : Int32) (J : zx_I) (L : zx_L) : Option (Int32 × zx_I) := (if (mf_isRule x1) = 0 then some ((-1 : Int32), J) else (if (mf_in x2 (0 : Int32) (2 : Int32)) = 0 then some ((-1 : Int32), J) else ((mf_scoreOf n x1 J L).bind fun p20 => (if x2 = 0 then ((mf_lateNow n p20.2).bind fun p29 => some (p29, p20.2)) else (if x2 = (1 : Int32) then ((mf_doneNow n p20.2).bind fun p41 => some (p41, p20.2)) else some (p20.1, p20.2))))))
theorem mt_score {d n : Nat} {x1 : Int32} {x2 : Int32} {J : zx_I} {L : zx_L} {p : Int32 × zx_I} (h : mf_score n x1 x2 J L = some p) : zx_M0 mm_X10_score (d + 7) 0 0 [.ref 0, .int x1, .int x2] zw_SM J L zw_RM (zw_ret (some (.int p.1)) zw_SM p.2 L zw_RM) := by
  unfold mf_score at h
  refine zv_entry gd_X10_score (Nat.le_of_ble_eq_true rfl) ?_
  refine zv_run 1 (pc' := 1) (lo' := [some (.ref 0), some (.int x1), some (.int x2), none]) (st' := [.int x1]) (I' := J) (L' := L) (R' := zw_RM) rfl ?_
  refine zv_cSz (M' := mm_X10_isRule) (av := [.int x1]) (st := []) (v := (mf_isRule x1)) (I' := J) (L' := L) (R' := zw_RM) rfl zc_10_219 gd_X10_isRule rfl (Nat.le_of_ble_eq_true rfl) (mt_isRule (d := _) rfl) ⟨Nat.le_refl _, Nat.le_refl _⟩ ?_
  intro b1
  refine zv_run 0 (pc' := 4) (lo' := [some (.ref 0), some (.int x1), some (.int x2), none]) (st' := [.int (mf_isRule x1)]) (I' := J) (L' := L) (R' := zw_RM) rfl ?_
  refine zv_if_eq (tgt := 16) (zs_at rfl) (by decide) (fun c4 => ?_) (fun c4 => ?_)
  · have h := mo_t h c4
    refine zv_run 1 (pc' := 17) (lo' := [some (.ref 0), some (.int x1), some (.int x2), none]) (st' := [.int (-1)]) (I' := J) (L' := L) (R' := zw_RM) rfl ?_
    obtain rfl := Option.some.inj h
    exact zv_iret (zs_at rfl) rfl ⟨Nat.le_refl _, Nat.le_refl _⟩ zw_here
  · have h := mo_f h c4
    refine zv_run 3 (pc' := 10) (lo' := [some (.ref 0), some (.int x1), some (.int x2), none]) (st' := [.int 2, .int 0, .int x2]) (I' := J) (L' := L) (R' := zw_RM) rfl ?_
    refine zv_cSz (M' := mm_X10_in) (av := [.int x2, .int 0, .int 2]) (st := []) (v := (mf_in x2 (0 : Int32) (2 : Int32))) (I' := J) (L' := L) (R' := zw_RM) rfl zc_10_86 gd_X10_in rfl (Nat.le_of_ble_eq_true rfl) (mt_in (d := _) rfl) ⟨Nat.le_refl _, Nat.le_refl _⟩ ?_
    intro b10
    refine zv_run 0 (pc' := 13) (lo' := [some (.ref 0), some (.int x1), some (.int x2), none]) (st' := [.int (mf_in x2 (0 : Int32) (2 : Int32))]) (I' := J) (L' := L) (R' := zw_RM) rfl ?_
    refine zv_if_ne (tgt := 18) (zs_at rfl) (by decide) (fun c13 => ?_) (fun c13 => ?_)
    · have h := mo_f h c13
      refine zv_run 2 (pc' := 20) (lo' := [some (.ref 0), some (.int x1), some (.int x2), none]) (st' := [.int x1, .ref 0]) (I' := J) (L' := L) (R' := zw_RM) rfl ?_
      obtain ⟨p20, e20, h⟩ := mo_b h
      refine zv_cV (M' := mm_X10_scoreOf) (ci := 10) (a := 0) (av := [.int x1]) (st := []) (r := some (.int p20.1)) (I' := p20.2) (L' := L) (R' := zw_RM) rfl zc_10_222 gd_X10_scoreOf rfl rfl rfl (Nat.le_of_ble_eq_true rfl) (mt_scoreOf (d := _) e20) ⟨Nat.le_refl _, Nat.le_refl _⟩ ?_
      refine zv_run 0 (pc' := 23) (lo' := [some (.ref 0), some (.int x1), some (.int x2), none]) (st' := [.int p20.1]) (I' := p20.2) (L' := L) (R' := zw_RM) rfl ?_
      refine zv_run 2 (pc' := 25) (lo' := [some (.ref 0), some (.int x1), some (.int x2), some (.int p20.1)]) (st' := [.int x2]) (I' := p20.2) (L' := L) (R' := zw_RM) rfl ?_
      refine zv_if_ne (tgt := 35) (zs_at rfl) (by decide) (fun c25 => ?_) (fun c25 => ?_)
      · have h := mo_f h c25
        refine zv_run 2 (pc' := 37) (lo' := [some (.ref 0), some (.int x1), some (.int x2), some (.int p20.1)]) (st' := [.int 1, .int x2]) (I' := p20.2) (L' := L) (R' := zw_RM) rfl ?_
        refine zv_icmp_ne (tgt := 47) (zs_at rfl) (by decide) (fun c37 => ?_) (fun c37 => ?_)
        · have h := mo_f h c37
          refine zv_run 1 (pc' := 48) (lo' := [some (.ref 0), some (.int x1), some (.int x2), some (.int p20.1)]) (st' := [.int p20.1]) (I' := p20.2) (L' := L) (R' := zw_RM) rfl ?_
          obtain rfl := Option.some.inj h
          exact zv_iret (zs_at rfl) rfl ⟨Nat.le_refl _, Nat.le_refl _⟩ zw_here
        · have h := mo_t h c37
          refine zv_run 1 (pc' := 41) (lo' := [some (.ref 0), some (.int x1), some (.int x2), some (.int p20.1)]) (st' := [.ref 0]) (I' := p20.2) (L' := L) (R' := zw_RM) rfl ?_
          obtain ⟨p41, e41, h⟩ := mo_b h
          refine zv_cV (M' := mm_X10_doneNow) (ci := 10) (a := 0) (av := []) (st := []) (r := some (.int p41)) (I' := p20.2) (L' := L) (R' := zw_RM) rfl zc_10_209 gd_X10_doneNow rfl rfl rfl (Nat.le_of_ble_eq_true rfl) (mt_doneNow (d := _) e41) ⟨Nat.le_refl _, Nat.le_refl _⟩ ?_
          refine zv_run 0 (pc' := 44) (lo' := [some (.ref 0), some (.int x1), some (.int x2), some (.int p20.1)]) (st' := [.int p41]) (I' := p20.2) (L' := L) (R' := zw_RM) rfl ?_
          refine zv_run 1 (pc' := 48) (lo' := [some (.ref 0), some (.int x1), some (.int x2), some (.int p20.1)]) (st' := [.int p41]) (I' := p20.2) (L' := L) (R' := zw_RM) rfl ?_
          obtain rfl := Option.some.inj h
          exact zv_iret (zs_at rfl) rfl ⟨Nat.le_refl _, Nat.le_refl _⟩ zw_here
      · have h := mo_t h c25
        refine zv_run 1 (pc' := 29) (lo' := [some (.ref 0), some (.int x1), some (.int x2), some (.int p20.1)]) (st' := [.ref 0]) (I' := p20.2) (L' := L) (R' := zw_RM) rfl ?_
        obtain ⟨p29, e29, h⟩ := mo_b h
        refine zv_cV (M' := mm_X10_lateNow) (ci := 10) (a := 0) (av := []) (st := []) (r := some (.int p29)) (I' := p20.2) (L' := L) (R' := zw_RM) rfl zc_10_206 gd_X10_lateNow rfl rfl rfl (Nat.le_of_ble_eq_true rfl) (mt_lateNow (d := _) e29) ⟨Nat.le_refl _, Nat.le_refl _⟩ ?_
        refine zv_run 0 (pc' := 32) (lo' := [some (.ref 0), some (.int x1), some (.int x2), some (.int p20.1)]) (st' := [.int p29]) (I' := p20.2) (L' := L) (R' := zw_RM) rfl ?_
        refine zv_run 1 (pc' := 48) (lo' := [some (.ref 0), some (.int x1), some (.int x2), some (.int p20.1)]) (st' := [.int p29]) (I' := p20.2) (L' := L) (R' := zw_RM) rfl ?_
        obtain rfl := Option.some.inj h
        exact zv_iret (zs_at rfl) rfl ⟨Nat.le_refl _, Nat.le_refl _⟩ zw_here
    · have h := mo_t h c13
      refine zv_run 1 (pc' := 17) (lo' := [some (.ref 0), some (.int x1), some (.int x2), none]) (st' := [.int (-1)]) (I' := J) (L' := L) (R' := zw_RM) rfl ?_
      obtain rfl := Option.some.inj h
      exact zv_iret (zs_at rfl) rfl ⟨Nat.le_refl _, Nat.le_refl _⟩ zw_here
def mf_left (n : Nat) (x1 : Int32) (x2 : Int32) (J : zx_I) (L : zx_L) : Option (Int32 × zx_I) := (if (mf_isRule x1) = 0 then some ((-1 : Int32), J) else (if (mf_in x2 (0 : Int32) (7 : Int32)) = 0 then some ((-1 : Int32), J) else (if (6 : Int32) ≤ x2 then ((mf_scoreOf n x1 J L).bind fun p37 => (if x2 = (6 : Int32) then some ((p37.2 0 26), p37.2) else (if x2 = (7 : Int32) then some ((p37.2 0 24), p37.2) else (mo_g (mo_in x2 6) (mo_g (mo_nz (p37.2 3 1)) (some (((p37.2 10 x2.toNatClampNeg) / (p37.2 3 1)), p37.2))))))) else (if x2 < (J 3 0) then ((mf_scoreOf n x1 J L).bind fun p37 => (if x2 = (6 : Int32) then some ((p37.2 0 26), p37.2) else (if x2 = (7 : Int32) then some ((p37.2 0 24), p37.2) else (mo_g (mo_in x2 6) (mo_g (mo_nz (p37.2 3 1)) (some (((p37.2 10 x2.toNatClampNeg) / (p37.2 3 1)), p37.2))))))) else some ((-1 : Int32), J)))))
theorem mt_left {d n : Nat} {x1 : Int32} {x2 : Int32} {J : zx_I} {L : zx_L} {p : Int32 × zx_I} (h : mf_left n x1 x2 J L = some p) : zx_M0 mm_X10_left (d + 7) 0 0 [.ref 0, .int x1, .int x2] zw_SM J L zw_RM (zw_ret (some (.int p.1)) zw_SM p.2 L zw_RM) := by
  unfold mf_left at h
  refine zv_entry gd_X10_left (Nat.le_of_ble_eq_true rfl) ?_
  refine zv_run 1 (pc' := 1) (lo' := [some (.ref 0), some (.int x1), some (.int x2)]) (st' := [.int x1]) (I' := J) (L' := L) (R' := zw_RM) rfl ?_
  refine zv_cSz (M' := mm_X10_isRule) (av := [.int x1]) (st := []) (v := (mf_isRule x1)) (I' := J) (L' := L) (R' := zw_RM) rfl zc_10_219 gd_X10_isRule rfl (Nat.le_of_ble_eq_true rfl) (mt_isRule (d := _) rfl) ⟨Nat.le_refl _, Nat.le_refl _⟩ ?_
  intro b1
  refine zv_run 0 (pc' := 4) (lo' := [some (.ref 0), some (.int x1), some (.int x2)]) (st' := [.int (mf_isRule x1)]) (I' := J) (L' := L) (R' := zw_RM) rfl ?_
  refine zv_if_eq (tgt := 33) (zs_at rfl) (by decide) (fun c4 => ?_) (fun c4 => ?_)
  · have h := mo_t h c4
    refine zv_run 1 (pc' := 34) (lo' := [some (.ref 0), some (.int x1), some (.int x2)]) (st' := [.int (-1)]) (I' := J) (L' := L) (R' := zw_RM) rfl ?_
    obtain rfl := Option.some.inj h
    exact zv_iret (zs_at rfl) rfl ⟨Nat.le_refl _, Nat.le_refl _⟩ zw_here
  · have h := mo_f h c4
    refine zv_run 3 (pc' := 11) (lo' := [some (.ref 0), some (.int x1), some (.int x2)]) (st' := [.int 7, .int 0, .int x2]) (I' := J) (L' := L) (R' := zw_RM) rfl ?_
    refine zv_cSz (M' := mm_X10_in) (av := [.int x2, .int 0, .int 7]) (st := []) (v := (mf_in x2 (0 : Int32) (7 : Int32))) (I' := J) (L' := L) (R' := zw_RM) rfl zc_10_86 gd_X10_in rfl (Nat.le_of_ble_eq_true rfl) (mt_in (d := _) rfl) ⟨Nat.le_refl _, Nat.le_refl _⟩ ?_
    intro b11
    refine zv_run 0 (pc' := 14) (lo' := [some (.ref 0), some (.int x1), some (.int x2)]) (st' := [.int (mf_in x2 (0 : Int32) (7 : Int32))]) (I' := J) (L' := L) (R' := zw_RM) rfl ?_
    refine zv_if_eq (tgt := 33) (zs_at rfl) (by decide) (fun c14 => ?_) (fun c14 => ?_)
    · have h := mo_t h c14
      refine zv_run 1 (pc' := 34) (lo' := [some (.ref 0), some (.int x1), some (.int x2)]) (st' := [.int (-1)]) (I' := J) (L' := L) (R' := zw_RM) rfl ?_
      obtain rfl := Option.some.inj h
      exact zv_iret (zs_at rfl) rfl ⟨Nat.le_refl _, Nat.le_refl _⟩ zw_here
    · have h := mo_f h c14
      refine zv_run 2 (pc' := 20) (lo' := [some (.ref 0), some (.int x1), some (.int x2)]) (st' := [.int 6, .int x2]) (I' := J) (L' := L) (R' := zw_RM) rfl ?_
      refine zv_icmp_ge (tgt := 35) (zs_at rfl) (by decide) (fun c20 => ?_) (fun c20 => ?_)
      · have h := mo_t h c20
        refine zv_run 2 (pc' := 37) (lo' := [some (.ref 0), some (.int x1), some (.int x2)]) (st' := [.int x1, .ref 0]) (I' := J) (L' := L) (R' := zw_RM) rfl ?_
        obtain ⟨p37, e37, h⟩ := mo_b h
        refine zv_cV (M' := mm_X10_scoreOf) (ci := 10) (a := 0) (av := [.int x1]) (st := []) (r := some (.int p37.1)) (I' := p37.2) (L' := L) (R' := zw_RM) rfl zc_10_222 gd_X10_scoreOf rfl rfl rfl (Nat.le_of_ble_eq_true rfl) (mt_scoreOf (d := _) e37) ⟨Nat.le_refl _, Nat.le_refl _⟩ ?_
        refine zv_run 0 (pc' := 40) (lo' := [some (.ref 0), some (.int x1), some (.int x2)]) (st' := [.int p37.1]) (I' := p37.2) (L' := L) (R' := zw_RM) rfl ?_
        refine zv_run 3 (pc' := 44) (lo' := [some (.ref 0), some (.int x1), some (.int x2)]) (st' := [.int 6, .int x2]) (I' := p37.2) (L' := L) (R' := zw_RM) rfl ?_
        refine zv_icmp_ne (tgt := 54) (zs_at rfl) (by decide) (fun c44 => ?_) (fun c44 => ?_)
        · have h := mo_f h c44
          refine zv_run 2 (pc' := 57) (lo' := [some (.ref 0), some (.int x1), some (.int x2)]) (st' := [.int 7, .int x2]) (I' := p37.2) (L' := L) (R' := zw_RM) rfl ?_
          refine zv_icmp_ne (tgt := 67) (zs_at rfl) (by decide) (fun c57 => ?_) (fun c57 => ?_)
          · have h := mo_f h c57
            refine zv_run 3 (pc' := 72) (lo' := [some (.ref 0), some (.int x1), some (.int x2)]) (st' := [.int x2, .ref 10]) (I' := p37.2) (L' := L) (R' := zw_RM) rfl ?_
            obtain ⟨g72, h⟩ := mo_gs h
            refine zv_iald (zs_at rfl) rfl (mo_in_vp g72) ?_
            refine zv_run 0 (pc' := 73) (lo' := [some (.ref 0), some (.int x1), some (.int x2)]) (st' := [.int (p37.2 10 x2.toNatClampNeg)]) (I' := p37.2) (L' := L) (R' := zw_RM) rfl ?_
            refine zv_run 4 (pc' := 79) (lo' := [some (.ref 0), some (.int x1), some (.int x2)]) (st' := [.int (p37.2 3 1), .int (p37.2 10 x2.toNatClampNeg)]) (I' := p37.2) (L' := L) (R' := zw_RM) rfl ?_
            obtain ⟨g79, h⟩ := mo_gs h
            refine zv_idiv (zs_at rfl) (mo_nz_ne g79) ?_
            obtain rfl := Option.some.inj h
            exact zv_iret (zs_at rfl) rfl ⟨Nat.le_refl _, Nat.le_refl _⟩ zw_here
          · have h := mo_t h c57
            refine zv_run 3 (pc' := 80) (lo' := [some (.ref 0), some (.int x1), some (.int x2)]) (st' := [.int (p37.2 0 24)]) (I' := p37.2) (L' := L) (R' := zw_RM) rfl ?_
            obtain rfl := Option.some.inj h
            exact zv_iret (zs_at rfl) rfl ⟨Nat.le_refl _, Nat.le_refl _⟩ zw_here
        · have h := mo_t h c44
          refine zv_run 3 (pc' := 80) (lo' := [some (.ref 0), some (.int x1), some (.int x2)]) (st' := [.int (p37.2 0 26)]) (I' := p37.2) (L' := L) (R' := zw_RM) rfl ?_
          obtain rfl := Option.some.inj h
          exact zv_iret (zs_at rfl) rfl ⟨Nat.le_refl _, Nat.le_refl _⟩ zw_here
      · have h := mo_f h c20
        refine zv_run 5 (pc' := 30) (lo' := [some (.ref 0), some (.int x1), some (.int x2)]) (st' := [.int (J 3 0), .int x2]) (I' := J) (L' := L) (R' := zw_RM) rfl ?_
        refine zv_icmp_lt (tgt := 35) (zs_at rfl) (by decide) (fun c30 => ?_) (fun c30 => ?_)
        · have h := mo_t h c30
          refine zv_run 2 (pc' := 37) (lo' := [some (.ref 0), some (.int x1), some (.int x2)]) (st' := [.int x1, .ref 0]) (I' := J) (L' := L) (R' := zw_RM) rfl ?_
          obtain ⟨p37, e37, h⟩ := mo_b h
          refine zv_cV (M' := mm_X10_scoreOf) (ci := 10) (a := 0) (av := [.int x1]) (st := []) (r := some (.int p37.1)) (I' := p37.2) (L' := L) (R' := zw_RM) rfl zc_10_222 gd_X10_scoreOf rfl rfl rfl (Nat.le_of_ble_eq_true rfl) (mt_scoreOf (d := _) e37) ⟨Nat.le_refl _, Nat.le_refl _⟩ ?_
          refine zv_run 0 (pc' := 40) (lo' := [some (.ref 0), some (.int x1), some (.int x2)]) (st' := [.int p37.1]) (I' := p37.2) (L' := L) (R' := zw_RM) rfl ?_
          refine zv_run 3 (pc' := 44) (lo' := [some (.ref 0), some (.int x1), some (.int x2)]) (st' := [.int 6, .int x2]) (I' := p37.2) (L' := L) (R' := zw_RM) rfl ?_
          refine zv_icmp_ne (tgt := 54) (zs_at rfl) (by decide) (fun c44 => ?_) (fun c44 => ?_)
          · have h := mo_f h c44
            refine zv_run 2 (pc' := 57) (lo' := [some (.ref 0), some (.int x1), some (.int x2)]) (st' := [.int 7, .int x2]) (I' := p37.2) (L' := L) (R' := zw_RM) rfl ?_
            refine zv_icmp_ne (tgt := 67) (zs_at rfl) (by decide) (fun c57 => ?_) (fun c57 => ?_)
            · have h := mo_f h c57
              refine zv_run 3 (pc' := 72) (lo' := [some (.ref 0), some (.int x1), some (.int x2)]) (st' := [.int x2, .ref 10]) (I' := p37.2) (L' := L) (R' := zw_RM) rfl ?_
              obtain ⟨g72, h⟩ := mo_gs h
              refine zv_iald (zs_at rfl) rfl (mo_in_vp g72) ?_
              refine zv_run 0 (pc' := 73) (lo' := [some (.ref 0), some (.int x1), some (.int x2)]) (st' := [.int (p37.2 10 x2.toNatClampNeg)]) (I' := p37.2) (L' := L) (R' := zw_RM) rfl ?_
              refine zv_run 4 (pc' := 79) (lo' := [some (.ref 0), some (.int x1), some (.int x2)]) (st' := [.int (p37.2 3 1), .int (p37.2 10 x2.toNatClampNeg)]) (I' := p37.2) (L' := L) (R' := zw_RM) rfl ?_
              obtain ⟨g79, h⟩ := mo_gs h
              refine zv_idiv (zs_at rfl) (mo_nz_ne g79) ?_
              obtain rfl := Option.some.inj h
              exact zv_iret (zs_at rfl) rfl ⟨Nat.le_refl _, Nat.le_refl _⟩ zw_here
            · have h := mo_t h c57
              refine zv_run 3 (pc' := 80) (lo' := [some (.ref 0), some (.int x1), some (.int x2)]) (st' := [.int (p37.2 0 24)]) (I' := p37.2) (L' := L) (R' := zw_RM) rfl ?_
              obtain rfl := Option.some.inj h
              exact zv_iret (zs_at rfl) rfl ⟨Nat.le_refl _, Nat.le_refl _⟩ zw_here
          · have h := mo_t h c44
            refine zv_run 3 (pc' := 80) (lo' := [some (.ref 0), some (.int x1), some (.int x2)]) (st' := [.int (p37.2 0 26)]) (I' := p37.2) (L' := L) (R' := zw_RM) rfl ?_
            obtain rfl := Option.some.inj h
            exact zv_iret (zs_at rfl) rfl ⟨Nat.le_refl _, Nat.le_refl _⟩ zw_here
        · have h := mo_f h c30
          refine zv_run 1 (pc' := 34) (lo' := [some (.ref 0), some (.int x1), some (.int x2)]) (st' := [.int (-1)]) (I' := J) (L' := L) (R' := zw_RM) rfl ?_
          obtain rfl := Option.some.inj h
          exact zv_iret (zs_at rfl) rfl ⟨Nat.le_refl _, Nat.le_refl _⟩ zw_here
def mf_turns_9_b (n : Nat) (x1 : Int32) (J : zx_I) (K : Int32 → Option (Int32 × zx_I)) (Z : Int32 → Option (Int32 × zx_I)) (x2 : Int32) : Option (Int32 × zx_I) := (if x2 < 0 then K x2 else (mo_g (mo_in x2 6) (mo_g (mo_in (x2 + 1) 6) (if (J 17 x2.toNatClampNeg) ≤ (J 17 ((x2 + 1).toNatClampNeg)) then K x2 else Z (x2 + (-1))))))
def mf_turns_9 (n : Nat) (x1 : Int32) (J : zx_I) (K : Int32 → Option (Int32 × zx_I)) : Nat → Int32 → Option (Int32 × zx_I)
  | 0 => fun _ => none
  | k + 1 => mf_turns_9_b n x1 J K (mf_turns_9 n x1 J K k)
def mf_turns_46_b (n : Nat) (x1 : Int32) (x2 : Int32) (J : zx_I) (K : Int32 → Option (Int32 × zx_I)) (Z : Int32 → Option (Int32 × zx_I)) (x3 : Int32) : Option (Int32 × zx_I) := (mo_g (mo_in x3 6) (mo_g (mo_in x2 6) (if (J 17 x2.toNatClampNeg) ≤ (J 17 x3.toNatClampNeg) then K x3 else Z (x3 + (-1)))))
def mf_turns_46 (n : Nat) (x1 : Int32) (x2 : Int32) (J : zx_I) (K : Int32 → Option (Int32 × zx_I)) : Nat → Int32 → Option (Int32 × zx_I)
  | 0 => fun _ => none
  | k + 1 => mf_turns_46_b n x1 x2 J K (mf_turns_46 n x1 x2 J K k)
def mf_turns_105_b (n : Nat) (K : zx_I → Option (Int32 × zx_I)) (Z : Int32 → Int32 → zx_I → Option (Int32 × zx_I)) (x5 : Int32) (x6 : Int32) (J : zx_I) : Option (Int32 × zx_I) := (if x6 ≤ x5 then K J else (mo_g (mo_in x5 6) (mo_g (mo_in x6 6) (mo_g (mo_in x5 6) (mo_g (mo_in x6 6) (Z (x5 + 1) (x6 + (-1)) (zx_uI (zx_uI J 17 x5.toNatClampNeg (J 17 x6.toNatClampNeg)) 17 x6.toNatClampNeg (J 17 x5.toNatClampNeg))))))))
def mf_turns_105 (n : Nat) (K : zx_I → Option (Int32 × zx_I)) : Nat → Int32 → Int32 → zx_I → Option (Int32 × zx_I)
  | 0 => fun _ _ _ => none
  | k + 1 => mf_turns_105_b n K (mf_turns_105 n K k)
def mf_turns (n : Nat) (J : zx_I) : Option (Int32 × zx_I) := (mf_turns_9 n (mf_many J) J (fun x2_9 => (if 0 ≤ x2_9 then (mf_turns_46 n (mf_many J) x2_9 J (fun x3_46 => (mo_g (mo_in x2_9 6) (mo_g (mo_in x3_46 6) (mo_g (mo_in x2_9 6) (mo_g (mo_in x3_46 6) (mf_turns_105 n (fun J_105 => some ((1 : Int32), J_105)) n (x2_9 + 1) ((mf_many J) - 1) (zx_uI (zx_uI J 17 x2_9.toNatClampNeg (J 17 x3_46.toNatClampNeg)) 17 x3_46.toNatClampNeg (J 17 x2_9.toNatClampNeg)))))))) n ((mf_many J) - 1)) else some ((0 : Int32), J))) n ((mf_many J) - 2))
theorem ml_turns_9 {n d : Nat} {x1 : Int32} {J : zx_I} {L : zx_L} {K : Int32 → Option (Int32 × zx_I)} (hK : ∀ (x2 : Int32) (p : Int32 × zx_I), K x2 = some p → zx_V mm_X10_turns (d + 1) z0 (zw_rz p.1 zw_SM p.2 L zw_RM) zw_SM 36 [some (.ref 0), some (.int x1), some (.int x2), none, none, none, none] [] J L zw_RM) : ∀ (k : Nat) (x2 : Int32) (p : Int32 × zx_I), mf_turns_9 n x1 J K k x2 = some p → zx_V mm_X10_turns (d + 1) z0 (zw_rz p.1 zw_SM p.2 L zw_RM) zw_SM 9 [some (.ref 0), some (.int x1), some (.int x2), none, none, none, none] [] J L zw_RM := by
  intro k
  induction k with
  | zero =>
    intro x2 p h
    exact absurd (show (none : Option (Int32 × zx_I)) = some p from h) (by intro q; cases q)
  | succ k ih =>
    intro x2 p h
    have h : mf_turns_9_b n x1 J K (mf_turns_9 n x1 J K k) x2 = some p := h
    unfold mf_turns_9_b at h
    refine zv_run 1 (pc' := 10) (lo' := [some (.ref 0), some (.int x1), some (.int x2), none, none, none, none]) (st' := [.int x2]) (I' := J) (L' := L) (R' := zw_RM) rfl ?_
    refine zv_if_lt (tgt := 36) (zs_at rfl) (by decide) (fun c10 => ?_) (fun c10 => ?_)
    · have h := mo_t h c10
      exact hK _ p h
    · have h := mo_f h c10
      refine zv_run 3 (pc' := 18) (lo' := [some (.ref 0), some (.int x1), some (.int x2), none, none, none, none]) (st' := [.int x2, .ref 17]) (I' := J) (L' := L) (R' := zw_RM) rfl ?_
      obtain ⟨g18, h⟩ := mo_gs h
      refine zv_iald (zs_at rfl) rfl (mo_in_vp g18) ?_
      refine zv_run 0 (pc' := 19) (lo' := [some (.ref 0), some (.int x1), some (.int x2), none, none, none, none]) (st' := [.int (J 17 x2.toNatClampNeg)]) (I' := J) (L' := L) (R' := zw_RM) rfl ?_
      refine zv_run 5 (pc' := 26) (lo' := [some (.ref 0), some (.int x1), some (.int x2), none, none, none, none]) (st' := [.int (x2 + 1), .ref 17, .int (J 17 x2.toNatClampNeg)]) (I' := J) (L' := L) (R' := zw_RM) rfl ?_
      obtain ⟨g26, h⟩ := mo_gs h
      refine zv_iald (zs_at rfl) rfl (mo_in_vp g26) ?_
      refine zv_run 0 (pc' := 27) (lo' := [some (.ref 0), some (.int x1), some (.int x2), none, none, none, none]) (st' := [.int (J 17 ((x2 + 1).toNatClampNeg)), .int (J 17 x2.toNatClampNeg)]) (I' := J) (L' := L) (R' := zw_RM) rfl ?_
      refine zv_icmp_le (tgt := 36) (zs_at rfl) (by decide) (fun c27 => ?_) (fun c27 => ?_)
      · have h := mo_t h c27
        exact hK _ p h
      · have h := mo_f h c27
        refine zv_run 2 (pc' := 9) (lo' := [some (.ref 0), some (.int x1), some (.int (x2 + (-1))), none, none, none, none]) (st' := []) (I' := J) (L' := L) (R' := zw_RM) rfl ?_
        exact ih _ p h
theorem ml_turns_46 {n d : Nat} {x1 : Int32} {x2 : Int32} {J : zx_I} {L : zx_L} {K : Int32 → Option (Int32 × zx_I)} (hK : ∀ (x3 : Int32) (p : Int32 × zx_I), K x3 = some p → zx_V mm_X10_turns (d + 1) z0 (zw_rz p.1 zw_SM p.2 L zw_RM) zw_SM 67 [some (.ref 0), some (.int x1), some (.int x2), some (.int x3), none, none, none] [] J L zw_RM) : ∀ (k : Nat) (x3 : Int32) (p : Int32 × zx_I), mf_turns_46 n x1 x2 J K k x3 = some p → zx_V mm_X10_turns (d + 1) z0 (zw_rz p.1 zw_SM p.2 L zw_RM) zw_SM 46 [some (.ref 0), some (.int x1), some (.int x2), some (.int x3), none, none, none] [] J L zw_RM := by
  intro k
  induction k with
  | zero =>
    intro x3 p h
    exact absurd (show (none : Option (Int32 × zx_I)) = some p from h) (by intro q; cases q)
  | succ k ih =>
    intro x3 p h
    have h : mf_turns_46_b n x1 x2 J K (mf_turns_46 n x1 x2 J K k) x3 = some p := h
    unfold mf_turns_46_b at h
    refine zv_run 3 (pc' := 51) (lo' := [some (.ref 0), some (.int x1), some (.int x2), some (.int x3), none, none, none]) (st' := [.int x3, .ref 17]) (I' := J) (L' := L) (R' := zw_RM) rfl ?_
    obtain ⟨g51, h⟩ := mo_gs h
    refine zv_iald (zs_at rfl) rfl (mo_in_vp g51) ?_
    refine zv_run 0 (pc' := 52) (lo' := [some (.ref 0), some (.int x1), some (.int x2), some (.int x3), none, none, none]) (st' := [.int (J 17 x3.toNatClampNeg)]) (I' := J) (L' := L) (R' := zw_RM) rfl ?_
    refine zv_run 3 (pc' := 57) (lo' := [some (.ref 0), some (.int x1), some (.int x2), some (.int x3), none, none, none]) (st' := [.int x2, .ref 17, .int (J 17 x3.toNatClampNeg)]) (I' := J) (L' := L) (R' := zw_RM) rfl ?_
    obtain ⟨g57, h⟩ := mo_gs h
    refine zv_iald (zs_at rfl) rfl (mo_in_vp g57) ?_
    refine zv_run 0 (pc' := 58) (lo' := [some (.ref 0), some (.int x1), some (.int x2), some (.int x3), none, none, none]) (st' := [.int (J 17 x2.toNatClampNeg), .int (J 17 x3.toNatClampNeg)]) (I' := J) (L' := L) (R' := zw_RM) rfl ?_
    refine zv_icmp_ge (tgt := 67) (zs_at rfl) (by decide) (fun c58 => ?_) (fun c58 => ?_)
    · have h := mo_t h c58
      exact hK _ p h
    · have h := mo_f h c58
      refine zv_run 2 (pc' := 46) (lo' := [some (.ref 0), some (.int x1), some (.int x2), some (.int (x3 + (-1))), none, none, none]) (st' := []) (I' := J) (L' := L) (R' := zw_RM) rfl ?_
      exact ih _ p h
theorem ml_turns_105 {n d : Nat} {L : zx_L} {K : zx_I → Option (Int32 × zx_I)} (hK : ∀ (J : zx_I) (p : Int32 × zx_I), K J = some p → zx_V mm_X10_turns (d + 1) z0 (zw_rz p.1 zw_SM p.2 L zw_RM) zw_SM 153 [some (.ref 0), none, none, none, none, none, none] [] J L zw_RM) : ∀ (k : Nat) (x5 : Int32) (x6 : Int32) (J : zx_I) (p : Int32 × zx_I), mf_turns_105 n K k x5 x6 J = some p → zx_V mm_X10_turns (d + 1) z0 (zw_rz p.1 zw_SM p.2 L zw_RM) zw_SM 105 [some (.ref 0), none, none, none, none, some (.int x5), some (.int x6)] [] J L zw_RM := by
  intro k
  induction k with
  | zero =>
    intro x5 x6 J p h
    exact absurd (show (none : Option (Int32 × zx_I)) = some p from h) (by intro q; cases q)
  | succ k ih =>
    intro x5 x6 J p h
    have h : mf_turns_105_b n K (mf_turns_105 n K k) x5 x6 J = some p := h
    unfold mf_turns_105_b at h
    refine zv_run 2 (pc' := 109) (lo' := [some (.ref 0), none, none, none, none, some (.int x5), some (.int x6)]) (st' := [.int x6, .int x5]) (I' := J) (L' := L) (R' := zw_RM) rfl ?_
    refine zv_icmp_ge (tgt := 153) (zs_at rfl) (by decide) (fun c109 => ?_) (fun c109 => ?_)
    · have h := mo_t h c109
      refine zv_fg (lo' := [some (.ref 0), none, none, none, none, none, none]) (And.intro rfl (And.intro trivial (And.intro trivial (And.intro trivial (And.intro trivial (And.intro trivial (And.intro trivial rfl))))))) ?_
      exact hK _ p h
    · have h := mo_f h c109
      refine zv_run 3 (pc' := 118) (lo' := [some (.ref 0), none, none, none, none, some (.int x5), some (.int x6)]) (st' := [.int x5, .ref 17]) (I' := J) (L' := L) (R' := zw_RM) rfl ?_
      obtain ⟨g118, h⟩ := mo_gs h
      refine zv_iald (zs_at rfl) rfl (mo_in_vp g118) ?_
      refine zv_run 0 (pc' := 119) (lo' := [some (.ref 0), none, none, none, none, some (.int x5), some (.int x6)]) (st' := [.int (J 17 x5.toNatClampNeg)]) (I' := J) (L' := L) (R' := zw_RM) rfl ?_
      refine zv_run 7 (pc' := 133) (lo' := [some (.ref 0), none, none, none, some (.int (J 17 x5.toNatClampNeg)), some (.int x5), some (.int x6)]) (st' := [.int x6, .ref 17, .int x5, .ref 17]) (I' := J) (L' := L) (R' := zw_RM) rfl ?_
      obtain ⟨g133, h⟩ := mo_gs h
      refine zv_iald (zs_at rfl) rfl (mo_in_vp g133) ?_
      refine zv_run 0 (pc' := 134) (lo' := [some (.ref 0), none, none, none, some (.int (J 17 x5.toNatClampNeg)), some (.int x5), some (.int x6)]) (st' := [.int (J 17 x6.toNatClampNeg), .int x5, .ref 17]) (I' := J) (L' := L) (R' := zw_RM) rfl ?_
      obtain ⟨g134, h⟩ := mo_gs h
      refine zv_iast (zs_at rfl) rfl (mo_in_vp g134) ?_
      refine zv_run 4 (pc' := 143) (lo' := [some (.ref 0), none, none, none, some (.int (J 17 x5.toNatClampNeg)), some (.int x5), some (.int x6)]) (st' := [.int (J 17 x5.toNatClampNeg), .int x6, .ref 17]) (I' := (zx_uI J 17 x5.toNatClampNeg (J 17 x6.toNatClampNeg))) (L' := L) (R' := zw_RM) rfl ?_
      obtain ⟨g143, h⟩ := mo_gs h
      refine zv_iast (zs_at rfl) rfl (mo_in_vp g143) ?_
      refine zv_run 3 (pc' := 105) (lo' := [some (.ref 0), none, none, none, some (.int (J 17 x5.toNatClampNeg)), some (.int (x5 + 1)), some (.int (x6 + (-1)))]) (st' := []) (I' := (zx_uI (zx_uI J 17 x5.toNatClampNeg (J 17 x6.toNatClampNeg)) 17 x6.toNatClampNeg (J 17 x5.toNatClampNeg))) (L' := L) (R' := zw_RM) rfl ?_
      refine zv_fg (lo' := [some (.ref 0), none, none, none, none, some (.int (x5 + 1)), some (.int (x6 + (-1)))]) (And.intro rfl (And.intro trivial (And.intro trivial (And.intro trivial (And.intro trivial (And.intro rfl (And.intro rfl rfl))))))) ?_
      exact ih _ _ _ p h
theorem mt_turns {d n : Nat} {J : zx_I} {L : zx_L} {p : Int32 × zx_I} (h : mf_turns n J = some p) : zx_M0 mm_X10_turns (d + 1) 0 0 [.ref 0] zw_SM J L zw_RM (zw_rz p.1 zw_SM p.2 L zw_RM) := by
  unfold mf_turns at h
  refine zv_entry gd_X10_turns (Nat.le_of_ble_eq_true rfl) ?_
  refine zv_run 1 (pc' := 1) (lo' := [some (.ref 0), none, none, none, none, none, none]) (st' := [.ref 0]) (I' := J) (L' := L) (R' := zw_RM) rfl ?_
  refine zv_cV (M' := mm_X10_many) (ci := 10) (a := 0) (av := []) (st := []) (r := some (.int (mf_many J))) (I' := J) (L' := L) (R' := zw_RM) rfl zc_10_133 gd_X10_many rfl rfl rfl (Nat.le_of_ble_eq_true rfl) (mt_many (d := _) rfl) ⟨Nat.le_refl _, Nat.le_refl _⟩ ?_
  refine zv_run 0 (pc' := 4) (lo' := [some (.ref 0), none, none, none, none, none, none]) (st' := [.int (mf_many J)]) (I' := J) (L' := L) (R' := zw_RM) rfl ?_
  refine zv_run 5 (pc' := 9) (lo' := [some (.ref 0), some (.int (mf_many J)), some (.int ((mf_many J) - 2)), none, none, none, none]) (st' := []) (I' := J) (L' := L) (R' := zw_RM) rfl ?_
  refine ml_turns_9 (fun x2_9 p h => ?_) n _ p h
  refine zv_run 1 (pc' := 37) (lo' := [some (.ref 0), some (.int (mf_many J)), some (.int x2_9), none, none, none, none]) (st' := [.int x2_9]) (I' := J) (L' := L) (R' := zw_RM) rfl ?_
  refine zv_if_ge (tgt := 42) (zs_at rfl) (by decide) (fun c37 => ?_) (fun c37 => ?_)
  · have h := mo_t h c37
    refine zv_run 4 (pc' := 46) (lo' := [some (.ref 0), some (.int (mf_many J)), some (.int x2_9), some (.int ((mf_many J) - 1)), none, none, none]) (st' := []) (I' := J) (L' := L) (R' := zw_RM) rfl ?_
    refine ml_turns_46 (fun x3_46 p h => ?_) n _ p h
    refine zv_run 3 (pc' := 72) (lo' := [some (.ref 0), some (.int (mf_many J)), some (.int x2_9), some (.int x3_46), none, none, none]) (st' := [.int x2_9, .ref 17]) (I' := J) (L' := L) (R' := zw_RM) rfl ?_
    obtain ⟨g72, h⟩ := mo_gs h
    refine zv_iald (zs_at rfl) rfl (mo_in_vp g72) ?_
    refine zv_run 0 (pc' := 73) (lo' := [some (.ref 0), some (.int (mf_many J)), some (.int x2_9), some (.int x3_46), none, none, none]) (st' := [.int (J 17 x2_9.toNatClampNeg)]) (I' := J) (L' := L) (R' := zw_RM) rfl ?_
    refine zv_run 7 (pc' := 85) (lo' := [some (.ref 0), some (.int (mf_many J)), some (.int x2_9), some (.int x3_46), some (.int (J 17 x2_9.toNatClampNeg)), none, none]) (st' := [.int x3_46, .ref 17, .int x2_9, .ref 17]) (I' := J) (L' := L) (R' := zw_RM) rfl ?_
    obtain ⟨g85, h⟩ := mo_gs h
    refine zv_iald (zs_at rfl) rfl (mo_in_vp g85) ?_
    refine zv_run 0 (pc' := 86) (lo' := [some (.ref 0), some (.int (mf_many J)), some (.int x2_9), some (.int x3_46), some (.int (J 17 x2_9.toNatClampNeg)), none, none]) (st' := [.int (J 17 x3_46.toNatClampNeg), .int x2_9, .ref 17]) (I' := J) (L' := L) (R' := zw_RM) rfl ?_
    obtain ⟨g86, h⟩ := mo_gs h
    refine zv_iast (zs_at rfl) rfl (mo_in_vp g86) ?_
    refine zv_run 4 (pc' := 94) (lo' := [some (.ref 0), some (.int (mf_many J)), some (.int x2_9), some (.int x3_46), some (.int (J 17 x2_9.toNatClampNeg)), none, none]) (st' := [.int (J 17 x2_9.toNatClampNeg), .int x3_46, .ref 17]) (I' := (zx_uI J 17 x2_9.toNatClampNeg (J 17 x3_46.toNatClampNeg))) (L' := L) (R' := zw_RM) rfl ?_
    obtain ⟨g94, h⟩ := mo_gs h
    refine zv_iast (zs_at rfl) rfl (mo_in_vp g94) ?_
    refine zv_run 8 (pc' := 105) (lo' := [some (.ref 0), some (.int (mf_many J)), some (.int x2_9), some (.int x3_46), some (.int (J 17 x2_9.toNatClampNeg)), some (.int (x2_9 + 1)), some (.int ((mf_many J) - 1))]) (st' := []) (I' := (zx_uI (zx_uI J 17 x2_9.toNatClampNeg (J 17 x3_46.toNatClampNeg)) 17 x3_46.toNatClampNeg (J 17 x2_9.toNatClampNeg))) (L' := L) (R' := zw_RM) rfl ?_
    refine zv_fg (lo' := [some (.ref 0), none, none, none, none, some (.int (x2_9 + 1)), some (.int ((mf_many J) - 1))]) (And.intro rfl (And.intro trivial (And.intro trivial (And.intro trivial (And.intro trivial (And.intro rfl (And.intro rfl rfl))))))) ?_
    refine ml_turns_105 (fun J_105 p h => ?_) n _ _ _ p h
    refine zv_run 1 (pc' := 154) (lo' := [some (.ref 0), none, none, none, none, none, none]) (st' := [.int 1]) (I' := J_105) (L' := L) (R' := zw_RM) rfl ?_
    obtain rfl := Option.some.inj h
    exact zv_zret (zs_at rfl) rfl (Or.inr rfl) ⟨Nat.le_refl _, Nat.le_refl _⟩ ⟨zw_here, (Or.inr rfl)⟩
  · have h := mo_f h c37
    refine zv_run 1 (pc' := 41) (lo' := [some (.ref 0), some (.int (mf_many J)), some (.int x2_9), none, none, none, none]) (st' := [.int 0]) (I' := J) (L' := L) (R' := zw_RM) rfl ?_
    obtain rfl := Option.some.inj h
    exact zv_zret (zs_at rfl) rfl (Or.inl rfl) ⟨Nat.le_refl _, Nat.le_refl _⟩ ⟨zw_here, (Or.inl rfl)⟩
def mf_best_22_b (n : Nat) (x1 : Int32) (L : zx_L) (K : zx_I → Option (Int32 × zx_I)) (Z : Int32 → zx_I → Option (Int32 × zx_I)) (x2 : Int32) (J : zx_I) : Option (Int32 × zx_I) := (if (6 : Int32) ≤ x2 then K J else (mo_g (mo_in x2 6) (Z (x2 + 1) (zx_uI J 17 x2.toNatClampNeg x2))))
def mf_best_22 (n : Nat) (x1 : Int32) (L : zx_L) (K : zx_I → Option (Int32 × zx_I)) : Nat → Int32 → zx_I → Option (Int32 × zx_I)
  | 0 => fun _ _ => none
  | k + 1 => mf_best_22_b n x1 L K (mf_best_22 n x1 L K k)
def mf_best_86_b (n : Nat) (x1 : Int32) (x2 : Int32) (L : zx_L) (K : zx_I → Option (Int32 × zx_I)) (Z : Int32 → zx_I → Option (Int32 × zx_I)) (x5 : Int32) (J : zx_I) : Option (Int32 × zx_I) := (if (6 : Int32) ≤ x5 then K J else (mo_g (mo_in x5 6) (mo_g (mo_in x5 6) (Z (x5 + 1) (zx_uI J 18 x5.toNatClampNeg (J 17 x5.toNatClampNeg))))))
def mf_best_86 (n : Nat) (x1 : Int32) (x2 : Int32) (L : zx_L) (K : zx_I → Option (Int32 × zx_I)) : Nat → Int32 → zx_I → Option (Int32 × zx_I)
  | 0 => fun _ _ => none
  | k + 1 => mf_best_86_b n x1 x2 L K (mf_best_86 n x1 x2 L K k)
def mf_best_46_b (n : Nat) (x1 : Int32) (L : zx_L) (K : Int32 → zx_I → Option (Int32 × zx_I)) (Z : Int32 → Int32 → zx_I → Option (Int32 × zx_I)) (x2 : Int32) (x3 : Int32) (J : zx_I) : Option (Int32 × zx_I) := (if x3 = 0 then K x2 J else ((mf_goThrough n (0 : Int32) (L 0 9) (J 3 11) J).bind fun p63 => (if x2 = (-4 : Int32) then (mf_best_86 n x1 p63.1 L (fun J_86 => ((mf_turns n J_86).bind fun p114 => Z p63.1 p114.1 p114.2)) n (0 : Int32) p63.2) else (if x2 ≤ p63.1 then ((mf_turns n p63.2).bind fun p114 => Z x2 p114.1 p114.2) else (mf_best_86 n x1 p63.1 L (fun J_86 => ((mf_turns n J_86).bind fun p114 => Z p63.1 p114.1 p114.2)) n (0 : Int32) p63.2)))))
def mf_best_46 (n : Nat) (x1 : Int32) (L : zx_L) (K : Int32 → zx_I → Option (Int32 × zx_I)) : Nat → Int32 → Int32 → zx_I → Option (Int32 × zx_I)
  | 0 => fun _ _ _ => none
  | k + 1 => mf_best_46_b n x1 L K (mf_best_46 n x1 L K k)
def mf_best (n : Nat) (x1 : Int32) (J : zx_I) (L : zx_L) : Option (Int32 × zx_I) := (if (mf_in x1 (-1 : Int32) ((mf_many J) - 1)) = 0 then some ((-1 : Int32), J) else ((mf_asTold n J).bind fun p17 => (mf_best_22 n x1 L (fun J_22 => (mf_best_46 n x1 L (fun x2_46 J_46 => (if x1 = (-1 : Int32) then some (x2_46, J_46) else (mo_g (mo_in x1 6) (some ((J_46 18 x1.toNatClampNeg), J_46))))) n (-4 : Int32) (1 : Int32) J_22)) n (0 : Int32) p17)))
theorem ml_best_22 {n d : Nat} {x1 : Int32} {L : zx_L} {K : zx_I → Option (Int32 × zx_I)} (hK : ∀ (J : zx_I) (p : Int32 × zx_I), K J = some p → zx_V mm_X10_best (d + 6) z0 (zw_ret (some (.int p.1)) zw_SM p.2 L zw_RM) zw_SM 41 [some (.ref 0), some (.int x1), none, none, none, none] [] J L zw_RM) : ∀ (k : Nat) (x2 : Int32) (J : zx_I) (p : Int32 × zx_I), mf_best_22 n x1 L K k x2 J = some p → zx_V mm_X10_best (d + 6) z0 (zw_ret (some (.int p.1)) zw_SM p.2 L zw_RM) zw_SM 22 [some (.ref 0), some (.int x1), some (.int x2), none, none, none] [] J L zw_RM := by
  intro k
  induction k with
  | zero =>
    intro x2 J p h
    exact absurd (show (none : Option (Int32 × zx_I)) = some p from h) (by intro q; cases q)
  | succ k ih =>
    intro x2 J p h
    have h : mf_best_22_b n x1 L K (mf_best_22 n x1 L K k) x2 J = some p := h
    unfold mf_best_22_b at h
    refine zv_run 2 (pc' := 25) (lo' := [some (.ref 0), some (.int x1), some (.int x2), none, none, none]) (st' := [.int 6, .int x2]) (I' := J) (L' := L) (R' := zw_RM) rfl ?_
    refine zv_icmp_ge (tgt := 41) (zs_at rfl) (by decide) (fun c25 => ?_) (fun c25 => ?_)
    · have h := mo_t h c25
      refine zv_fg (lo' := [some (.ref 0), some (.int x1), none, none, none, none]) (And.intro rfl (And.intro rfl (And.intro trivial (And.intro trivial (And.intro trivial (And.intro trivial rfl)))))) ?_
      exact hK _ p h
    · have h := mo_f h c25
      refine zv_run 4 (pc' := 34) (lo' := [some (.ref 0), some (.int x1), some (.int x2), none, none, none]) (st' := [.int x2, .int x2, .ref 17]) (I' := J) (L' := L) (R' := zw_RM) rfl ?_
      obtain ⟨g34, h⟩ := mo_gs h
      refine zv_iast (zs_at rfl) rfl (mo_in_vp g34) ?_
      refine zv_run 2 (pc' := 22) (lo' := [some (.ref 0), some (.int x1), some (.int (x2 + 1)), none, none, none]) (st' := []) (I' := (zx_uI J 17 x2.toNatClampNeg x2)) (L' := L) (R' := zw_RM) rfl ?_
      exact ih _ _ p h
theorem ml_best_86 {n d : Nat} {x1 : Int32} {x2 : Int32} {L : zx_L} {K : zx_I → Option (Int32 × zx_I)} (hK : ∀ (J : zx_I) (p : Int32 × zx_I), K J = some p → zx_V mm_X10_best (d + 6) z0 (zw_ret (some (.int p.1)) zw_SM p.2 L zw_RM) zw_SM 113 [some (.ref 0), some (.int x1), some (.int x2), none, none, none] [] J L zw_RM) : ∀ (k : Nat) (x5 : Int32) (J : zx_I) (p : Int32 × zx_I), mf_best_86 n x1 x2 L K k x5 J = some p → zx_V mm_X10_best (d + 6) z0 (zw_ret (some (.int p.1)) zw_SM p.2 L zw_RM) zw_SM 86 [some (.ref 0), some (.int x1), some (.int x2), none, none, some (.int x5)] [] J L zw_RM := by
  intro k
  induction k with
  | zero =>
    intro x5 J p h
    exact absurd (show (none : Option (Int32 × zx_I)) = some p from h) (by intro q; cases q)
  | succ k ih =>
    intro x5 J p h
    have h : mf_best_86_b n x1 x2 L K (mf_best_86 n x1 x2 L K k) x5 J = some p := h
    unfold mf_best_86_b at h
    refine zv_run 2 (pc' := 90) (lo' := [some (.ref 0), some (.int x1), some (.int x2), none, none, some (.int x5)]) (st' := [.int 6, .int x5]) (I' := J) (L' := L) (R' := zw_RM) rfl ?_
    refine zv_icmp_ge (tgt := 113) (zs_at rfl) (by decide) (fun c90 => ?_) (fun c90 => ?_)
    · have h := mo_t h c90
      refine zv_fg (lo' := [some (.ref 0), some (.int x1), some (.int x2), none, none, none]) (And.intro rfl (And.intro rfl (And.intro rfl (And.intro trivial (And.intro trivial (And.intro trivial rfl)))))) ?_
      exact hK _ p h
    · have h := mo_f h c90
      refine zv_run 6 (pc' := 105) (lo' := [some (.ref 0), some (.int x1), some (.int x2), none, none, some (.int x5)]) (st' := [.int x5, .ref 17, .int x5, .ref 18]) (I' := J) (L' := L) (R' := zw_RM) rfl ?_
      obtain ⟨g105, h⟩ := mo_gs h
      refine zv_iald (zs_at rfl) rfl (mo_in_vp g105) ?_
      refine zv_run 0 (pc' := 106) (lo' := [some (.ref 0), some (.int x1), some (.int x2), none, none, some (.int x5)]) (st' := [.int (J 17 x5.toNatClampNeg), .int x5, .ref 18]) (I' := J) (L' := L) (R' := zw_RM) rfl ?_
      obtain ⟨g106, h⟩ := mo_gs h
      refine zv_iast (zs_at rfl) rfl (mo_in_vp g106) ?_
      refine zv_run 2 (pc' := 86) (lo' := [some (.ref 0), some (.int x1), some (.int x2), none, none, some (.int (x5 + 1))]) (st' := []) (I' := (zx_uI J 18 x5.toNatClampNeg (J 17 x5.toNatClampNeg))) (L' := L) (R' := zw_RM) rfl ?_
      exact ih _ _ p h
theorem ml_best_46 {n d : Nat} {x1 : Int32} {L : zx_L} {K : Int32 → zx_I → Option (Int32 × zx_I)} (hK : ∀ (x2 : Int32) (J : zx_I) (p : Int32 × zx_I), K x2 J = some p → zx_V mm_X10_best (d + 6) z0 (zw_ret (some (.int p.1)) zw_SM p.2 L zw_RM) zw_SM 121 [some (.ref 0), some (.int x1), some (.int x2), none, none, none] [] J L zw_RM) : ∀ (k : Nat) (x2 : Int32) (x3 : Int32) (J : zx_I) (p : Int32 × zx_I), mf_best_46 n x1 L K k x2 x3 J = some p → zx_V mm_X10_best (d + 6) z0 (zw_ret (some (.int p.1)) zw_SM p.2 L zw_RM) zw_SM 46 [some (.ref 0), some (.int x1), some (.int x2), some (.int x3), none, none] [] J L zw_RM := by
  intro k
  induction k with
  | zero =>
    intro x2 x3 J p h
    exact absurd (show (none : Option (Int32 × zx_I)) = some p from h) (by intro q; cases q)
  | succ k ih =>
    intro x2 x3 J p h
    have h : mf_best_46_b n x1 L K (mf_best_46 n x1 L K k) x2 x3 J = some p := h
    unfold mf_best_46_b at h
    refine zv_run 1 (pc' := 47) (lo' := [some (.ref 0), some (.int x1), some (.int x2), some (.int x3), none, none]) (st' := [.int x3]) (I' := J) (L' := L) (R' := zw_RM) rfl ?_
    refine zv_if_eq (tgt := 121) (zs_at rfl) (by decide) (fun c47 => ?_) (fun c47 => ?_)
    · have h := mo_t h c47
      refine zv_fg (lo' := [some (.ref 0), some (.int x1), some (.int x2), none, none, none]) (And.intro rfl (And.intro rfl (And.intro rfl (And.intro trivial (And.intro trivial (And.intro trivial rfl)))))) ?_
      exact hK _ _ p h
    · have h := mo_f h c47
      refine zv_run 8 (pc' := 63) (lo' := [some (.ref 0), some (.int x1), some (.int x2), some (.int x3), none, none]) (st' := [.int (J 3 11), .long (L 0 9), .int 0, .ref 0]) (I' := J) (L' := L) (R' := zw_RM) rfl ?_
      obtain ⟨p63, e63, h⟩ := mo_b h
      refine zv_cV (M' := mm_X10_goThrough) (ci := 10) (a := 0) (av := [.int 0, .long (L 0 9), .int (J 3 11)]) (st := []) (r := some (.int p63.1)) (I' := p63.2) (L' := L) (R' := zw_RM) rfl zc_10_215 gd_X10_goThrough rfl rfl rfl (Nat.le_of_ble_eq_true rfl) (mt_goThrough (d := _) e63) ⟨Nat.le_refl _, Nat.le_refl _⟩ ?_
      refine zv_run 0 (pc' := 66) (lo' := [some (.ref 0), some (.int x1), some (.int x2), some (.int x3), none, none]) (st' := [.int p63.1]) (I' := p63.2) (L' := L) (R' := zw_RM) rfl ?_
      refine zv_run 3 (pc' := 71) (lo' := [some (.ref 0), some (.int x1), some (.int x2), some (.int x3), some (.int p63.1), none]) (st' := [.int (-4), .int x2]) (I' := p63.2) (L' := L) (R' := zw_RM) rfl ?_
      refine zv_icmp_eq (tgt := 80) (zs_at rfl) (by decide) (fun c71 => ?_) (fun c71 => ?_)
      · have h := mo_t h c71
        refine zv_run 4 (pc' := 86) (lo' := [some (.ref 0), some (.int x1), some (.int p63.1), some (.int x3), some (.int p63.1), some (.int 0)]) (st' := []) (I' := p63.2) (L' := L) (R' := zw_RM) rfl ?_
        refine zv_fg (lo' := [some (.ref 0), some (.int x1), some (.int p63.1), none, none, some (.int 0)]) (And.intro rfl (And.intro rfl (And.intro rfl (And.intro trivial (And.intro trivial (And.intro rfl rfl)))))) ?_
        refine ml_best_86 (fun J_86 p h => ?_) n _ _ p h
        refine zv_run 1 (pc' := 114) (lo' := [some (.ref 0), some (.int x1), some (.int p63.1), none, none, none]) (st' := [.ref 0]) (I' := J_86) (L' := L) (R' := zw_RM) rfl ?_
        obtain ⟨p114, e114, h⟩ := mo_b h
        refine zv_cVz (M' := mm_X10_turns) (ci := 10) (a := 0) (av := []) (st := []) (v := p114.1) (I' := p114.2) (L' := L) (R' := zw_RM) rfl zc_10_226 gd_X10_turns rfl rfl rfl (Nat.le_of_ble_eq_true rfl) (mt_turns (d := _) e114) ⟨Nat.le_refl _, Nat.le_refl _⟩ ?_
        intro b114
        refine zv_run 0 (pc' := 117) (lo' := [some (.ref 0), some (.int x1), some (.int p63.1), none, none, none]) (st' := [.int p114.1]) (I' := p114.2) (L' := L) (R' := zw_RM) rfl ?_
        refine zv_run 2 (pc' := 46) (lo' := [some (.ref 0), some (.int x1), some (.int p63.1), some (.int p114.1), none, none]) (st' := []) (I' := p114.2) (L' := L) (R' := zw_RM) rfl ?_
        exact ih _ _ _ p h
      · have h := mo_f h c71
        refine zv_run 2 (pc' := 77) (lo' := [some (.ref 0), some (.int x1), some (.int x2), some (.int x3), some (.int p63.1), none]) (st' := [.int x2, .int p63.1]) (I' := p63.2) (L' := L) (R' := zw_RM) rfl ?_
        refine zv_icmp_ge (tgt := 113) (zs_at rfl) (by decide) (fun c77 => ?_) (fun c77 => ?_)
        · have h := mo_t h c77
          refine zv_run 1 (pc' := 114) (lo' := [some (.ref 0), some (.int x1), some (.int x2), some (.int x3), some (.int p63.1), none]) (st' := [.ref 0]) (I' := p63.2) (L' := L) (R' := zw_RM) rfl ?_
          obtain ⟨p114, e114, h⟩ := mo_b h
          refine zv_cVz (M' := mm_X10_turns) (ci := 10) (a := 0) (av := []) (st := []) (v := p114.1) (I' := p114.2) (L' := L) (R' := zw_RM) rfl zc_10_226 gd_X10_turns rfl rfl rfl (Nat.le_of_ble_eq_true rfl) (mt_turns (d := _) e114) ⟨Nat.le_refl _, Nat.le_refl _⟩ ?_
          intro b114
          refine zv_run 0 (pc' := 117) (lo' := [some (.ref 0), some (.int x1), some (.int x2), some (.int x3), some (.int p63.1), none]) (st' := [.int p114.1]) (I' := p114.2) (L' := L) (R' := zw_RM) rfl ?_
          refine zv_run 2 (pc' := 46) (lo' := [some (.ref 0), some (.int x1), some (.int x2), some (.int p114.1), some (.int p63.1), none]) (st' := []) (I' := p114.2) (L' := L) (R' := zw_RM) rfl ?_
          refine zv_fg (lo' := [some (.ref 0), some (.int x1), some (.int x2), some (.int p114.1), none, none]) (And.intro rfl (And.intro rfl (And.intro rfl (And.intro rfl (And.intro trivial (And.intro trivial rfl)))))) ?_
          exact ih _ _ _ p h
        · have h := mo_f h c77
          refine zv_run 4 (pc' := 86) (lo' := [some (.ref 0), some (.int x1), some (.int p63.1), some (.int x3), some (.int p63.1), some (.int 0)]) (st' := []) (I' := p63.2) (L' := L) (R' := zw_RM) rfl ?_
          refine zv_fg (lo' := [some (.ref 0), some (.int x1), some (.int p63.1), none, none, some (.int 0)]) (And.intro rfl (And.intro rfl (And.intro rfl (And.intro trivial (And.intro trivial (And.intro rfl rfl)))))) ?_
          refine ml_best_86 (fun J_86 p h => ?_) n _ _ p h
          refine zv_run 1 (pc' := 114) (lo' := [some (.ref 0), some (.int x1), some (.int p63.1), none, none, none]) (st' := [.ref 0]) (I' := J_86) (L' := L) (R' := zw_RM) rfl ?_
          obtain ⟨p114, e114, h⟩ := mo_b h
          refine zv_cVz (M' := mm_X10_turns) (ci := 10) (a := 0) (av := []) (st := []) (v := p114.1) (I' := p114.2) (L' := L) (R' := zw_RM) rfl zc_10_226 gd_X10_turns rfl rfl rfl (Nat.le_of_ble_eq_true rfl) (mt_turns (d := _) e114) ⟨Nat.le_refl _, Nat.le_refl _⟩ ?_
          intro b114
          refine zv_run 0 (pc' := 117) (lo' := [some (.ref 0), some (.int x1), some (.int p63.1), none, none, none]) (st' := [.int p114.1]) (I' := p114.2) (L' := L) (R' := zw_RM) rfl ?_
          refine zv_run 2 (pc' := 46) (lo' := [some (.ref 0), some (.int x1), some (.int p63.1), some (.int p114.1), none, none]) (st' := []) (I' := p114.2) (L' := L) (R' := zw_RM) rfl ?_
          exact ih _ _ _ p h
theorem mt_best {d n : Nat} {x1 : Int32} {J : zx_I} {L : zx_L} {p : Int32 × zx_I} (h : mf_best n x1 J L = some p) : zx_M0 mm_X10_best (d + 6) 0 0 [.ref 0, .int x1] zw_SM J L zw_RM (zw_ret (some (.int p.1)) zw_SM p.2 L zw_RM) := by
  unfold mf_best at h
  refine zv_entry gd_X10_best (Nat.le_of_ble_eq_true rfl) ?_
  refine zv_run 3 (pc' := 3) (lo' := [some (.ref 0), some (.int x1), none, none, none, none]) (st' := [.ref 0, .int (-1), .int x1]) (I' := J) (L' := L) (R' := zw_RM) rfl ?_
  refine zv_cV (M' := mm_X10_many) (ci := 10) (a := 0) (av := []) (st := [.int (-1), .int x1]) (r := some (.int (mf_many J))) (I' := J) (L' := L) (R' := zw_RM) rfl zc_10_133 gd_X10_many rfl rfl rfl (Nat.le_of_ble_eq_true rfl) (mt_many (d := _) rfl) ⟨Nat.le_refl _, Nat.le_refl _⟩ ?_
  refine zv_run 0 (pc' := 6) (lo' := [some (.ref 0), some (.int x1), none, none, none, none]) (st' := [.int (mf_many J), .int (-1), .int x1]) (I' := J) (L' := L) (R' := zw_RM) rfl ?_
  refine zv_run 2 (pc' := 8) (lo' := [some (.ref 0), some (.int x1), none, none, none, none]) (st' := [.int ((mf_many J) - 1), .int (-1), .int x1]) (I' := J) (L' := L) (R' := zw_RM) rfl ?_
  refine zv_cSz (M' := mm_X10_in) (av := [.int x1, .int (-1), .int ((mf_many J) - 1)]) (st := []) (v := (mf_in x1 (-1 : Int32) ((mf_many J) - 1))) (I' := J) (L' := L) (R' := zw_RM) rfl zc_10_86 gd_X10_in rfl (Nat.le_of_ble_eq_true rfl) (mt_in (d := _) rfl) ⟨Nat.le_refl _, Nat.le_refl _⟩ ?_
  intro b8
  refine zv_run 0 (pc' := 11) (lo' := [some (.ref 0), some (.int x1), none, none, none, none]) (st' := [.int (mf_in x1 (-1 : Int32) ((mf_many J) - 1))]) (I' := J) (L' := L) (R' := zw_RM) rfl ?_
  refine zv_if_ne (tgt := 16) (zs_at rfl) (by decide) (fun c11 => ?_) (fun c11 => ?_)
  · have h := mo_f h c11
    refine zv_run 1 (pc' := 17) (lo' := [some (.ref 0), some (.int x1), none, none, none, none]) (st' := [.ref 0]) (I' := J) (L' := L) (R' := zw_RM) rfl ?_
    obtain ⟨p17, e17, h⟩ := mo_b h
    refine zv_cV (M' := mm_X10_asTold) (ci := 10) (a := 0) (av := []) (st := []) (r := none) (I' := p17) (L' := L) (R' := zw_RM) rfl zc_10_212 gd_X10_asTold rfl rfl rfl (Nat.le_of_ble_eq_true rfl) (mt_asTold (d := _) e17) ⟨Nat.le_refl _, Nat.le_refl _⟩ ?_
    refine zv_run 0 (pc' := 20) (lo' := [some (.ref 0), some (.int x1), none, none, none, none]) (st' := []) (I' := p17) (L' := L) (R' := zw_RM) rfl ?_
    refine zv_run 2 (pc' := 22) (lo' := [some (.ref 0), some (.int x1), some (.int 0), none, none, none]) (st' := []) (I' := p17) (L' := L) (R' := zw_RM) rfl ?_
    refine ml_best_22 (fun J_22 p h => ?_) n _ _ p h
    refine zv_run 4 (pc' := 46) (lo' := [some (.ref 0), some (.int x1), some (.int (-4)), some (.int 1), none, none]) (st' := []) (I' := J_22) (L' := L) (R' := zw_RM) rfl ?_
    refine ml_best_46 (fun x2_46 J_46 p h => ?_) n _ _ _ p h
    refine zv_run 2 (pc' := 123) (lo' := [some (.ref 0), some (.int x1), some (.int x2_46), none, none, none]) (st' := [.int (-1), .int x1]) (I' := J_46) (L' := L) (R' := zw_RM) rfl ?_
    refine zv_icmp_ne (tgt := 130) (zs_at rfl) (by decide) (fun c123 => ?_) (fun c123 => ?_)
    · have h := mo_f h c123
      refine zv_run 3 (pc' := 135) (lo' := [some (.ref 0), some (.int x1), some (.int x2_46), none, none, none]) (st' := [.int x1, .ref 18]) (I' := J_46) (L' := L) (R' := zw_RM) rfl ?_
      obtain ⟨g135, h⟩ := mo_gs h
      refine zv_iald (zs_at rfl) rfl (mo_in_vp g135) ?_
      refine zv_run 0 (pc' := 136) (lo' := [some (.ref 0), some (.int x1), some (.int x2_46), none, none, none]) (st' := [.int (J_46 18 x1.toNatClampNeg)]) (I' := J_46) (L' := L) (R' := zw_RM) rfl ?_
      obtain rfl := Option.some.inj h
      exact zv_iret (zs_at rfl) rfl ⟨Nat.le_refl _, Nat.le_refl _⟩ zw_here
    · have h := mo_t h c123
      refine zv_run 2 (pc' := 136) (lo' := [some (.ref 0), some (.int x1), some (.int x2_46), none, none, none]) (st' := [.int x2_46]) (I' := J_46) (L' := L) (R' := zw_RM) rfl ?_
      obtain rfl := Option.some.inj h
      exact zv_iret (zs_at rfl) rfl ⟨Nat.le_refl _, Nat.le_refl _⟩ zw_here
  · have h := mo_t h c11
    refine zv_run 1 (pc' := 15) (lo' := [some (.ref 0), some (.int x1), none, none, none, none]) (st' := [.int (-1)]) (I' := J) (L' := L) (R' := zw_RM) rfl ?_
    obtain rfl := Option.some.inj h
    exact zv_iret (zs_at rfl) rfl ⟨Nat.le_refl _, Nat.le_refl _⟩ zw_here
def mf_change (x1 : Int32) (J : zx_I) : Option (zx_I) := (mo_g (mo_in x1 6) (mo_g (mo_in (x1 + 1) 6) (mo_g (mo_in x1 6) (mo_g (mo_in (x1 + 1) 6) (some ((zx_uI (zx_uI J 4 x1.toNatClampNeg (J 4 ((x1 + 1).toNatClampNeg))) 4 ((x1 + 1).toNatClampNeg) (J 4 x1.toNatClampNeg))))))))
theorem mt_change {d : Nat} {x1 : Int32} {J : zx_I} {L : zx_L} {p : zx_I} (h : mf_change x1 J = some p) : zx_M0 mm_X10_change (d + 0) 0 0 [.ref 0, .int x1] zw_SM J L zw_RM (zw_ret (none) zw_SM p L zw_RM) := by
  unfold mf_change at h
  refine zv_entry gd_X10_change (Nat.le_of_ble_eq_true rfl) ?_
  refine zv_run 3 (pc' := 5) (lo' := [some (.ref 0), some (.int x1), none]) (st' := [.int x1, .ref 4]) (I' := J) (L' := L) (R' := zw_RM) rfl ?_
  obtain ⟨g5, h⟩ := mo_gs h
  refine zv_iald (zs_at rfl) rfl (mo_in_vp g5) ?_
  refine zv_run 0 (pc' := 6) (lo' := [some (.ref 0), some (.int x1), none]) (st' := [.int (J 4 x1.toNatClampNeg)]) (I' := J) (L' := L) (R' := zw_RM) rfl ?_
  refine zv_run 9 (pc' := 19) (lo' := [some (.ref 0), some (.int x1), some (.int (J 4 x1.toNatClampNeg))]) (st' := [.int (x1 + 1), .ref 4, .int x1, .ref 4]) (I' := J) (L' := L) (R' := zw_RM) rfl ?_
  obtain ⟨g19, h⟩ := mo_gs h
  refine zv_iald (zs_at rfl) rfl (mo_in_vp g19) ?_
  refine zv_run 0 (pc' := 20) (lo' := [some (.ref 0), some (.int x1), some (.int (J 4 x1.toNatClampNeg))]) (st' := [.int (J 4 ((x1 + 1).toNatClampNeg)), .int x1, .ref 4]) (I' := J) (L' := L) (R' := zw_RM) rfl ?_
  obtain ⟨g20, h⟩ := mo_gs h
  refine zv_iast (zs_at rfl) rfl (mo_in_vp g20) ?_
  refine zv_run 6 (pc' := 29) (lo' := [some (.ref 0), some (.int x1), some (.int (J 4 x1.toNatClampNeg))]) (st' := [.int (J 4 x1.toNatClampNeg), .int (x1 + 1), .ref 4]) (I' := (zx_uI J 4 x1.toNatClampNeg (J 4 ((x1 + 1).toNatClampNeg)))) (L' := L) (R' := zw_RM) rfl ?_
  obtain ⟨g29, h⟩ := mo_gs h
  refine zv_iast (zs_at rfl) rfl (mo_in_vp g29) ?_
  obtain rfl := Option.some.inj h
  exact zv_vret (zs_at rfl) rfl ⟨Nat.le_refl _, Nat.le_refl _⟩ zw_here
def mf_swapped_10_b (n : Nat) (L : zx_L) (K : Int32 → zx_I → Option (Int32 × zx_I)) (Z : Int32 → Int32 → Int32 → zx_I → Option (Int32 × zx_I)) (x1 : Int32) (x2 : Int32) (x3 : Int32) (J : zx_I) : Option (Int32 × zx_I) := (if (mf_many J) ≤ (x3 + 1) then K x1 J else ((mf_change x3 J).bind fun p22 => ((mf_scoreOf n (0 : Int32) p22 L).bind fun p27 => (if x2 ≤ p27.1 then ((mf_change x3 p27.2).bind fun p51 => Z x1 x2 (x3 + 1) p51) else Z (x1 + 1) p27.1 (0 : Int32) p27.2))))
def mf_swapped_10 (n : Nat) (L : zx_L) (K : Int32 → zx_I → Option (Int32 × zx_I)) : Nat → Int32 → Int32 → Int32 → zx_I → Option (Int32 × zx_I)
  | 0 => fun _ _ _ _ => none
  | k + 1 => mf_swapped_10_b n L K (mf_swapped_10 n L K k)
def mf_swapped (n : Nat) (J : zx_I) (L : zx_L) : Option (Int32 × zx_I) := ((mf_scoreOf n (0 : Int32) J L).bind fun p4 => (mf_swapped_10 n L (fun x1_10 J_10 => some (x1_10, J_10)) n (0 : Int32) p4.1 (0 : Int32) p4.2))
theorem ml_swapped_10 {n d : Nat} {L : zx_L} {K : Int32 → zx_I → Option (Int32 × zx_I)} (hK : ∀ (x1 : Int32) (J : zx_I) (p : Int32 × zx_I), K x1 J = some p → zx_V mm_X10_swapped (d + 7) z0 (zw_ret (some (.int p.1)) zw_SM p.2 L zw_RM) zw_SM 60 [some (.ref 0), some (.int x1), none, none, none] [] J L zw_RM) : ∀ (k : Nat) (x1 : Int32) (x2 : Int32) (x3 : Int32) (J : zx_I) (p : Int32 × zx_I), mf_swapped_10 n L K k x1 x2 x3 J = some p → zx_V mm_X10_swapped (d + 7) z0 (zw_ret (some (.int p.1)) zw_SM p.2 L zw_RM) zw_SM 10 [some (.ref 0), some (.int x1), some (.int x2), some (.int x3), none] [] J L zw_RM := by
  intro k
  induction k with
  | zero =>
    intro x1 x2 x3 J p h
    exact absurd (show (none : Option (Int32 × zx_I)) = some p from h) (by intro q; cases q)
  | succ k ih =>
    intro x1 x2 x3 J p h
    have h : mf_swapped_10_b n L K (mf_swapped_10 n L K k) x1 x2 x3 J = some p := h
    unfold mf_swapped_10_b at h
    refine zv_run 4 (pc' := 14) (lo' := [some (.ref 0), some (.int x1), some (.int x2), some (.int x3), none]) (st' := [.ref 0, .int (x3 + 1)]) (I' := J) (L' := L) (R' := zw_RM) rfl ?_
    refine zv_cV (M' := mm_X10_many) (ci := 10) (a := 0) (av := []) (st := [.int (x3 + 1)]) (r := some (.int (mf_many J))) (I' := J) (L' := L) (R' := zw_RM) rfl zc_10_133 gd_X10_many rfl rfl rfl (Nat.le_of_ble_eq_true rfl) (mt_many (d := _) rfl) ⟨Nat.le_refl _, Nat.le_refl _⟩ ?_
    refine zv_run 0 (pc' := 17) (lo' := [some (.ref 0), some (.int x1), some (.int x2), some (.int x3), none]) (st' := [.int (mf_many J), .int (x3 + 1)]) (I' := J) (L' := L) (R' := zw_RM) rfl ?_
    refine zv_icmp_ge (tgt := 60) (zs_at rfl) (by decide) (fun c17 => ?_) (fun c17 => ?_)
    · have h := mo_t h c17
      refine zv_fg (lo' := [some (.ref 0), some (.int x1), none, none, none]) (And.intro rfl (And.intro rfl (And.intro trivial (And.intro trivial (And.intro trivial rfl))))) ?_
      exact hK _ _ p h
    · have h := mo_f h c17
      refine zv_run 2 (pc' := 22) (lo' := [some (.ref 0), some (.int x1), some (.int x2), some (.int x3), none]) (st' := [.int x3, .ref 0]) (I' := J) (L' := L) (R' := zw_RM) rfl ?_
      obtain ⟨p22, e22, h⟩ := mo_b h
      refine zv_cV (M' := mm_X10_change) (ci := 10) (a := 0) (av := [.int x3]) (st := []) (r := none) (I' := p22) (L' := L) (R' := zw_RM) rfl zc_10_229 gd_X10_change rfl rfl rfl (Nat.le_of_ble_eq_true rfl) (mt_change (d := _) e22) ⟨Nat.le_refl _, Nat.le_refl _⟩ ?_
      refine zv_run 0 (pc' := 25) (lo' := [some (.ref 0), some (.int x1), some (.int x2), some (.int x3), none]) (st' := []) (I' := p22) (L' := L) (R' := zw_RM) rfl ?_
      refine zv_run 2 (pc' := 27) (lo' := [some (.ref 0), some (.int x1), some (.int x2), some (.int x3), none]) (st' := [.int 0, .ref 0]) (I' := p22) (L' := L) (R' := zw_RM) rfl ?_
      obtain ⟨p27, e27, h⟩ := mo_b h
      refine zv_cV (M' := mm_X10_scoreOf) (ci := 10) (a := 0) (av := [.int 0]) (st := []) (r := some (.int p27.1)) (I' := p27.2) (L' := L) (R' := zw_RM) rfl zc_10_222 gd_X10_scoreOf rfl rfl rfl (Nat.le_of_ble_eq_true rfl) (mt_scoreOf (d := _) e27) ⟨Nat.le_refl _, Nat.le_refl _⟩ ?_
      refine zv_run 0 (pc' := 30) (lo' := [some (.ref 0), some (.int x1), some (.int x2), some (.int x3), none]) (st' := [.int p27.1]) (I' := p27.2) (L' := L) (R' := zw_RM) rfl ?_
      refine zv_run 3 (pc' := 35) (lo' := [some (.ref 0), some (.int x1), some (.int x2), some (.int x3), some (.int p27.1)]) (st' := [.int x2, .int p27.1]) (I' := p27.2) (L' := L) (R' := zw_RM) rfl ?_
      refine zv_icmp_ge (tgt := 49) (zs_at rfl) (by decide) (fun c35 => ?_) (fun c35 => ?_)
      · have h := mo_t h c35
        refine zv_run 2 (pc' := 51) (lo' := [some (.ref 0), some (.int x1), some (.int x2), some (.int x3), some (.int p27.1)]) (st' := [.int x3, .ref 0]) (I' := p27.2) (L' := L) (R' := zw_RM) rfl ?_
        obtain ⟨p51, e51, h⟩ := mo_b h
        refine zv_cV (M' := mm_X10_change) (ci := 10) (a := 0) (av := [.int x3]) (st := []) (r := none) (I' := p51) (L' := L) (R' := zw_RM) rfl zc_10_229 gd_X10_change rfl rfl rfl (Nat.le_of_ble_eq_true rfl) (mt_change (d := _) e51) ⟨Nat.le_refl _, Nat.le_refl _⟩ ?_
        refine zv_run 0 (pc' := 54) (lo' := [some (.ref 0), some (.int x1), some (.int x2), some (.int x3), some (.int p27.1)]) (st' := []) (I' := p51) (L' := L) (R' := zw_RM) rfl ?_
        refine zv_run 2 (pc' := 10) (lo' := [some (.ref 0), some (.int x1), some (.int x2), some (.int (x3 + 1)), some (.int p27.1)]) (st' := []) (I' := p51) (L' := L) (R' := zw_RM) rfl ?_
        refine zv_fg (lo' := [some (.ref 0), some (.int x1), some (.int x2), some (.int (x3 + 1)), none]) (And.intro rfl (And.intro rfl (And.intro rfl (And.intro rfl (And.intro trivial rfl))))) ?_
        exact ih _ _ _ _ p h
      · have h := mo_f h c35
        refine zv_run 6 (pc' := 57) (lo' := [some (.ref 0), some (.int (x1 + 1)), some (.int p27.1), some (.int 0), some (.int p27.1)]) (st' := []) (I' := p27.2) (L' := L) (R' := zw_RM) rfl ?_
        refine zv_run 1 (pc' := 10) (lo' := [some (.ref 0), some (.int (x1 + 1)), some (.int p27.1), some (.int 0), some (.int p27.1)]) (st' := []) (I' := p27.2) (L' := L) (R' := zw_RM) rfl ?_
        refine zv_fg (lo' := [some (.ref 0), some (.int (x1 + 1)), some (.int p27.1), some (.int 0), none]) (And.intro rfl (And.intro rfl (And.intro rfl (And.intro rfl (And.intro trivial rfl))))) ?_
        exact ih _ _ _ _ p h
theorem mt_swapped {d n : Nat} {J : zx_I} {L : zx_L} {p : Int32 × zx_I} (h : mf_swapped n J L = some p) : zx_M0 mm_X10_swapped (d + 7) 0 0 [.ref 0] zw_SM J L zw_RM (zw_ret (some (.int p.1)) zw_SM p.2 L zw_RM) := by
  unfold mf_swapped at h
  refine zv_entry gd_X10_swapped (Nat.le_of_ble_eq_true rfl) ?_
  refine zv_run 4 (pc' := 4) (lo' := [some (.ref 0), some (.int 0), none, none, none]) (st' := [.int 0, .ref 0]) (I' := J) (L' := L) (R' := zw_RM) rfl ?_
  obtain ⟨p4, e4, h⟩ := mo_b h
  refine zv_cV (M' := mm_X10_scoreOf) (ci := 10) (a := 0) (av := [.int 0]) (st := []) (r := some (.int p4.1)) (I' := p4.2) (L' := L) (R' := zw_RM) rfl zc_10_222 gd_X10_scoreOf rfl rfl rfl (Nat.le_of_ble_eq_true rfl) (mt_scoreOf (d := _) e4) ⟨Nat.le_refl _, Nat.le_refl _⟩ ?_
  refine zv_run 0 (pc' := 7) (lo' := [some (.ref 0), some (.int 0), none, none, none]) (st' := [.int p4.1]) (I' := p4.2) (L' := L) (R' := zw_RM) rfl ?_
  refine zv_run 3 (pc' := 10) (lo' := [some (.ref 0), some (.int 0), some (.int p4.1), some (.int 0), none]) (st' := []) (I' := p4.2) (L' := L) (R' := zw_RM) rfl ?_
  refine ml_swapped_10 (fun x1_10 J_10 p h => ?_) n _ _ _ _ p h
  refine zv_run 1 (pc' := 61) (lo' := [some (.ref 0), some (.int x1_10), none, none, none]) (st' := [.int x1_10]) (I' := J_10) (L' := L) (R' := zw_RM) rfl ?_
  obtain rfl := Option.some.inj h
  exact zv_iret (zs_at rfl) rfl ⟨Nat.le_refl _, Nat.le_refl _⟩ zw_here
