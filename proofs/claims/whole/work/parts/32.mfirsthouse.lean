/-! methods of the model, by program -/
def mf_firstHouse_2_b (n : Nat) (K : zx_I → Option (zx_I)) (Z : Int32 → zx_I → Option (zx_I)) (x1 : Int32) (J : zx_I) : Option (zx_I) := (if (65 : Int32) ≤ x1 then K J else (mo_g (mo_in x1 65) (Z (x1 + 1) (zx_uI J 2 x1.toNatClampNeg 0))))
def mf_firstHouse_2 (n : Nat) (K : zx_I → Option (zx_I)) : Nat → Int32 → zx_I → Option (zx_I)
  | 0 => fun _ _ => none
  | k + 1 => mf_firstHouse_2_b n K (mf_firstHouse_2 n K k)
def mf_firstHouse (n : Nat) (J : zx_I) : Option (zx_I) := (mf_firstHouse_2 n (fun J_2 => some ((zx_uI (zx_uI (zx_uI (zx_uI (zx_uI (zx_uI (zx_uI (zx_uI (zx_uI (zx_uI J_2 2 0 1) 2 1 10) 2 2 10) 2 3 10) 2 6 1) 2 8 1) 2 10 1) 2 12 1) 2 14 1) 2 15 40))) n (0 : Int32) J)
theorem ml_firstHouse_2 {n d : Nat} {L : zx_L} {K : zx_I → Option (zx_I)} (hK : ∀ (J : zx_I) (p : zx_I), K J = some p → zx_V mm_X10_firstHouse (d + 0) z0 (zw_ret (none) zw_SM p L zw_RM) zw_SM 18 [some (.ref 2), none] [] J L zw_RM) : ∀ (k : Nat) (x1 : Int32) (J : zx_I) (p : zx_I), mf_firstHouse_2 n K k x1 J = some p → zx_V mm_X10_firstHouse (d + 0) z0 (zw_ret (none) zw_SM p L zw_RM) zw_SM 2 [some (.ref 2), some (.int x1)] [] J L zw_RM := by
  intro k
  induction k with
  | zero =>
    intro x1 J p h
    exact absurd (show (none : Option (zx_I)) = some p from h) (by intro q; cases q)
  | succ k ih =>
    intro x1 J p h
    have h : mf_firstHouse_2_b n K (mf_firstHouse_2 n K k) x1 J = some p := h
    unfold mf_firstHouse_2_b at h
    refine zv_run 2 (pc' := 5) (lo' := [some (.ref 2), some (.int x1)]) (st' := [.int 65, .int x1]) (I' := J) (L' := L) (R' := zw_RM) rfl ?_
    refine zv_icmp_ge (tgt := 18) (zs_at rfl) (by decide) (fun c5 => ?_) (fun c5 => ?_)
    · have h := mo_t h c5
      refine zv_fg (lo' := [some (.ref 2), none]) (And.intro rfl (And.intro trivial rfl)) ?_
      exact hK _ p h
    · have h := mo_f h c5
      refine zv_run 3 (pc' := 11) (lo' := [some (.ref 2), some (.int x1)]) (st' := [.int 0, .int x1, .ref 2]) (I' := J) (L' := L) (R' := zw_RM) rfl ?_
      obtain ⟨g11, h⟩ := mo_gs h
      refine zv_iast (zs_at rfl) rfl (mo_in_vp g11) ?_
      refine zv_run 2 (pc' := 2) (lo' := [some (.ref 2), some (.int (x1 + 1))]) (st' := []) (I' := (zx_uI J 2 x1.toNatClampNeg 0)) (L' := L) (R' := zw_RM) rfl ?_
      exact ih _ _ p h
theorem mt_firstHouse {d n : Nat} {J : zx_I} {L : zx_L} {p : zx_I} (h : mf_firstHouse n J = some p) : zx_M0 mm_X10_firstHouse (d + 0) 0 0 [.ref 2] zw_SM J L zw_RM (zw_ret (none) zw_SM p L zw_RM) := by
  unfold mf_firstHouse at h
  refine zv_entry gd_X10_firstHouse (Nat.le_of_ble_eq_true rfl) ?_
  refine zv_run 2 (pc' := 2) (lo' := [some (.ref 2), some (.int 0)]) (st' := []) (I' := J) (L' := L) (R' := zw_RM) rfl ?_
  refine ml_firstHouse_2 (fun J_2 p h => ?_) n _ _ p h
  refine zv_run 40 (pc' := 68) (lo' := [some (.ref 2), none]) (st' := []) (I' := (zx_uI (zx_uI (zx_uI (zx_uI (zx_uI (zx_uI (zx_uI (zx_uI (zx_uI (zx_uI J_2 2 0 1) 2 1 10) 2 2 10) 2 3 10) 2 6 1) 2 8 1) 2 10 1) 2 12 1) 2 14 1) 2 15 40)) (L' := L) (R' := zw_RM) rfl ?_
  obtain rfl := Option.some.inj h
  exact zv_vret (zs_at rfl) rfl ⟨Nat.le_refl _, Nat.le_refl _⟩ zw_here
def mf_layDown_2_b (n : Nat) (L : zx_L) (K : zx_I → Option (zx_I × zx_L)) (Z : Int32 → zx_I → Option (zx_I × zx_L)) (x1 : Int32) (J : zx_I) : Option (zx_I × zx_L) := (if (65 : Int32) ≤ x1 then K J else (mo_g (mo_in x1 65) (mo_g (mo_in x1 65) (Z (x1 + 1) (zx_uI J 3 x1.toNatClampNeg (J 2 x1.toNatClampNeg))))))
def mf_layDown_2 (n : Nat) (L : zx_L) (K : zx_I → Option (zx_I × zx_L)) : Nat → Int32 → zx_I → Option (zx_I × zx_L)
  | 0 => fun _ _ => none
  | k + 1 => mf_layDown_2_b n L K (mf_layDown_2 n L K k)
def mf_layDown_28_b (n : Nat) (L : zx_L) (K : zx_I → Option (zx_I × zx_L)) (Z : Int32 → zx_I → Option (zx_I × zx_L)) (x1 : Int32) (J : zx_I) : Option (zx_I × zx_L) := (if (6 : Int32) ≤ x1 then K J else (mo_g (mo_in x1 6) (((if x1 = 0 then some ((10 : Int32)) else some ((0 : Int32))) : Option (Int32)).bind fun v47 => (mo_g (mo_in x1 6) (Z (x1 + 1) (zx_uI (zx_uI J 4 x1.toNatClampNeg x1) 5 x1.toNatClampNeg v47))))))
def mf_layDown_28 (n : Nat) (L : zx_L) (K : zx_I → Option (zx_I × zx_L)) : Nat → Int32 → zx_I → Option (zx_I × zx_L)
  | 0 => fun _ _ => none
  | k + 1 => mf_layDown_28_b n L K (mf_layDown_28 n L K k)
def mf_layDown (n : Nat) (J : zx_I) (L : zx_L) : Option (zx_I × zx_L) := (mf_layDown_2 n L (fun J_2 => (mf_layDown_28 n L (fun J_28 => some ((zx_uI (zx_uI J_28 0 8 50) 0 11 0), (zx_uL L 0 9 (0 : Int64)))) n (0 : Int32) J_2)) n (0 : Int32) J)
theorem ml_layDown_2 {n d : Nat} {L : zx_L} {K : zx_I → Option (zx_I × zx_L)} (hK : ∀ (J : zx_I) (p : zx_I × zx_L), K J = some p → zx_V mm_X10_layDown (d + 0) z0 (zw_ret (none) zw_SM p.1 p.2 zw_RM) zw_SM 26 [some (.ref 0), none] [] J L zw_RM) : ∀ (k : Nat) (x1 : Int32) (J : zx_I) (p : zx_I × zx_L), mf_layDown_2 n L K k x1 J = some p → zx_V mm_X10_layDown (d + 0) z0 (zw_ret (none) zw_SM p.1 p.2 zw_RM) zw_SM 2 [some (.ref 0), some (.int x1)] [] J L zw_RM := by
  intro k
  induction k with
  | zero =>
    intro x1 J p h
    exact absurd (show (none : Option (zx_I × zx_L)) = some p from h) (by intro q; cases q)
  | succ k ih =>
    intro x1 J p h
    have h : mf_layDown_2_b n L K (mf_layDown_2 n L K k) x1 J = some p := h
    unfold mf_layDown_2_b at h
    refine zv_run 2 (pc' := 5) (lo' := [some (.ref 0), some (.int x1)]) (st' := [.int 65, .int x1]) (I' := J) (L' := L) (R' := zw_RM) rfl ?_
    refine zv_icmp_ge (tgt := 26) (zs_at rfl) (by decide) (fun c5 => ?_) (fun c5 => ?_)
    · have h := mo_t h c5
      refine zv_fg (lo' := [some (.ref 0), none]) (And.intro rfl (And.intro trivial rfl)) ?_
      exact hK _ p h
    · have h := mo_f h c5
      refine zv_run 6 (pc' := 18) (lo' := [some (.ref 0), some (.int x1)]) (st' := [.int x1, .ref 2, .int x1, .ref 3]) (I' := J) (L' := L) (R' := zw_RM) rfl ?_
      obtain ⟨g18, h⟩ := mo_gs h
      refine zv_iald (zs_at rfl) rfl (mo_in_vp g18) ?_
      refine zv_run 0 (pc' := 19) (lo' := [some (.ref 0), some (.int x1)]) (st' := [.int (J 2 x1.toNatClampNeg), .int x1, .ref 3]) (I' := J) (L' := L) (R' := zw_RM) rfl ?_
      obtain ⟨g19, h⟩ := mo_gs h
      refine zv_iast (zs_at rfl) rfl (mo_in_vp g19) ?_
      refine zv_run 2 (pc' := 2) (lo' := [some (.ref 0), some (.int (x1 + 1))]) (st' := []) (I' := (zx_uI J 3 x1.toNatClampNeg (J 2 x1.toNatClampNeg))) (L' := L) (R' := zw_RM) rfl ?_
      exact ih _ _ p h
theorem ml_layDown_28 {n d : Nat} {L : zx_L} {K : zx_I → Option (zx_I × zx_L)} (hK : ∀ (J : zx_I) (p : zx_I × zx_L), K J = some p → zx_V mm_X10_layDown (d + 0) z0 (zw_ret (none) zw_SM p.1 p.2 zw_RM) zw_SM 63 [some (.ref 0), none] [] J L zw_RM) : ∀ (k : Nat) (x1 : Int32) (J : zx_I) (p : zx_I × zx_L), mf_layDown_28 n L K k x1 J = some p → zx_V mm_X10_layDown (d + 0) z0 (zw_ret (none) zw_SM p.1 p.2 zw_RM) zw_SM 28 [some (.ref 0), some (.int x1)] [] J L zw_RM := by
  intro k
  induction k with
  | zero =>
    intro x1 J p h
    exact absurd (show (none : Option (zx_I × zx_L)) = some p from h) (by intro q; cases q)
  | succ k ih =>
    intro x1 J p h
    have h : mf_layDown_28_b n L K (mf_layDown_28 n L K k) x1 J = some p := h
    unfold mf_layDown_28_b at h
    refine zv_run 2 (pc' := 31) (lo' := [some (.ref 0), some (.int x1)]) (st' := [.int 6, .int x1]) (I' := J) (L' := L) (R' := zw_RM) rfl ?_
    refine zv_icmp_ge (tgt := 63) (zs_at rfl) (by decide) (fun c31 => ?_) (fun c31 => ?_)
    · have h := mo_t h c31
      refine zv_fg (lo' := [some (.ref 0), none]) (And.intro rfl (And.intro trivial rfl)) ?_
      exact hK _ p h
    · have h := mo_f h c31
      refine zv_run 4 (pc' := 40) (lo' := [some (.ref 0), some (.int x1)]) (st' := [.int x1, .int x1, .ref 4]) (I' := J) (L' := L) (R' := zw_RM) rfl ?_
      obtain ⟨g40, h⟩ := mo_gs h
      refine zv_iast (zs_at rfl) rfl (mo_in_vp g40) ?_
      refine zv_run 4 (pc' := 47) (lo' := [some (.ref 0), some (.int x1)]) (st' := [.int x1, .int x1, .ref 5]) (I' := (zx_uI J 4 x1.toNatClampNeg x1)) (L' := L) (R' := zw_RM) rfl ?_
      obtain ⟨v47, e47, h⟩ := mo_b h
      have k47 : zx_V mm_X10_layDown (d + 0) z0 (zw_ret (none) zw_SM p.1 p.2 zw_RM) zw_SM 56 [some (.ref 0), some (.int x1)] [.int v47, .int x1, .ref 5] (zx_uI J 4 x1.toNatClampNeg x1) L zw_RM := by
        clear e47
        obtain ⟨g56, h⟩ := mo_gs h
        refine zv_iast (zs_at rfl) rfl (mo_in_vp g56) ?_
        refine zv_run 2 (pc' := 28) (lo' := [some (.ref 0), some (.int (x1 + 1))]) (st' := []) (I' := (zx_uI (zx_uI J 4 x1.toNatClampNeg x1) 5 x1.toNatClampNeg v47)) (L' := L) (R' := zw_RM) rfl ?_
        exact ih _ _ p h
      have h := e47
      refine zv_if_ne (tgt := 55) (zs_at rfl) (by decide) (fun c47 => ?_) (fun c47 => ?_)
      · have h := mo_f h c47
        refine zv_run 1 (pc' := 56) (lo' := [some (.ref 0), some (.int x1)]) (st' := [.int 0, .int x1, .ref 5]) (I' := (zx_uI J 4 x1.toNatClampNeg x1)) (L' := L) (R' := zw_RM) rfl ?_
        obtain rfl := Option.some.inj h
        exact k47
      · have h := mo_t h c47
        refine zv_run 2 (pc' := 56) (lo' := [some (.ref 0), some (.int x1)]) (st' := [.int 10, .int x1, .ref 5]) (I' := (zx_uI J 4 x1.toNatClampNeg x1)) (L' := L) (R' := zw_RM) rfl ?_
        obtain rfl := Option.some.inj h
        exact k47
theorem mt_layDown {d n : Nat} {J : zx_I} {L : zx_L} {p : zx_I × zx_L} (h : mf_layDown n J L = some p) : zx_M0 mm_X10_layDown (d + 0) 0 0 [.ref 0] zw_SM J L zw_RM (zw_ret (none) zw_SM p.1 p.2 zw_RM) := by
  unfold mf_layDown at h
  refine zv_entry gd_X10_layDown (Nat.le_of_ble_eq_true rfl) ?_
  refine zv_run 2 (pc' := 2) (lo' := [some (.ref 0), some (.int 0)]) (st' := []) (I' := J) (L' := L) (R' := zw_RM) rfl ?_
  refine ml_layDown_2 (fun J_2 p h => ?_) n _ _ p h
  refine zv_run 2 (pc' := 28) (lo' := [some (.ref 0), some (.int 0)]) (st' := []) (I' := J_2) (L' := L) (R' := zw_RM) rfl ?_
  refine ml_layDown_28 (fun J_28 p h => ?_) n _ _ p h
  refine zv_run 9 (pc' := 79) (lo' := [some (.ref 0), none]) (st' := []) (I' := (zx_uI (zx_uI J_28 0 8 50) 0 11 0)) (L' := (zx_uL L 0 9 (0 : Int64))) (R' := zw_RM) rfl ?_
  obtain rfl := Option.some.inj h
  exact zv_vret (zs_at rfl) rfl ⟨Nat.le_refl _, Nat.le_refl _⟩ zw_here
def mf_in (x0 : Int32) (x1 : Int32) (x2 : Int32) : Int32 := (if x0 < x1 then (0 : Int32) else (if x2 < x0 then (0 : Int32) else (1 : Int32)))
theorem mt_in {d : Nat} {x0 : Int32} {x1 : Int32} {x2 : Int32} {J : zx_I} {L : zx_L} {p : Int32} (h : mf_in x0 x1 x2 = p) : zx_M0 mm_X10_in (d + 0) 0 0 [.int x0, .int x1, .int x2] zw_SM J L zw_RM (zw_rz p zw_SM J L zw_RM) := by
  unfold mf_in at h
  refine zv_entry gd_X10_in (Nat.le_of_ble_eq_true rfl) ?_
  refine zv_run 2 (pc' := 2) (lo' := [some (.int x0), some (.int x1), some (.int x2)]) (st' := [.int x1, .int x0]) (I' := J) (L' := L) (R' := zw_RM) rfl ?_
  refine zv_icmp_lt (tgt := 14) (zs_at rfl) (by decide) (fun c2 => ?_) (fun c2 => ?_)
  · have h := mo_t h c2
    refine zv_run 1 (pc' := 15) (lo' := [some (.int x0), some (.int x1), some (.int x2)]) (st' := [.int 0]) (I' := J) (L' := L) (R' := zw_RM) rfl ?_
    obtain rfl := h
    exact zv_zret (zs_at rfl) rfl (Or.inl rfl) ⟨Nat.le_refl _, Nat.le_refl _⟩ ⟨zw_here, (Or.inl rfl)⟩
  · have h := mo_f h c2
    refine zv_run 2 (pc' := 7) (lo' := [some (.int x0), some (.int x1), some (.int x2)]) (st' := [.int x2, .int x0]) (I' := J) (L' := L) (R' := zw_RM) rfl ?_
    refine zv_icmp_gt (tgt := 14) (zs_at rfl) (by decide) (fun c7 => ?_) (fun c7 => ?_)
    · have h := mo_t h c7
      refine zv_run 1 (pc' := 15) (lo' := [some (.int x0), some (.int x1), some (.int x2)]) (st' := [.int 0]) (I' := J) (L' := L) (R' := zw_RM) rfl ?_
      obtain rfl := h
      exact zv_zret (zs_at rfl) rfl (Or.inl rfl) ⟨Nat.le_refl _, Nat.le_refl _⟩ ⟨zw_here, (Or.inl rfl)⟩
    · have h := mo_f h c7
      refine zv_run 2 (pc' := 15) (lo' := [some (.int x0), some (.int x1), some (.int x2)]) (st' := [.int 1]) (I' := J) (L' := L) (R' := zw_RM) rfl ?_
      obtain rfl := h
      exact zv_zret (zs_at rfl) rfl (Or.inr rfl) ⟨Nat.le_refl _, Nat.le_refl _⟩ ⟨zw_here, (Or.inr rfl)⟩
def mf_write_30_b (n : Nat) (x1 : Int32) (x2 : Int64) (K : zx_I → Option (Int32 × zx_I)) (Z : Int32 → zx_I → Option (Int32 × zx_I)) (x4 : Int32) (J : zx_I) : Option (Int32 × zx_I) := (if x1 ≤ x4 then K J else (mo_g (mo_in ((J 0 0) + x4) 400) (Z (x4 + 1) (zx_uI J 1 (((J 0 0) + x4).toNatClampNeg) (((x2 >>> ((8 * ((x1 - 1) - x4)).toInt64 &&& 63)) &&& (255 : Int64)).toInt32)))))
def mf_write_30 (n : Nat) (x1 : Int32) (x2 : Int64) (K : zx_I → Option (Int32 × zx_I)) : Nat → Int32 → zx_I → Option (Int32 × zx_I)
  | 0 => fun _ _ => none
  | k + 1 => mf_write_30_b n x1 x2 K (mf_write_30 n x1 x2 K k)
def mf_write (n : Nat) (x1 : Int32) (x2 : Int64) (J : zx_I) : Option (Int32 × zx_I) := (if (mf_in x1 (1 : Int32) (8 : Int32)) = 0 then some ((-1 : Int32), J) else (if ((J 0 0) + x1) ≤ (400 : Int32) then (mf_write_30 n x1 x2 (fun J_30 => some (((J_30 0 0) + x1), (zx_uI J_30 0 0 ((J_30 0 0) + x1)))) n (0 : Int32) J) else some ((-3 : Int32), J)))
theorem ml_write_30 {n d : Nat} {x1 : Int32} {x2 : Int64} {L : zx_L} {K : zx_I → Option (Int32 × zx_I)} (hK : ∀ (J : zx_I) (p : Int32 × zx_I), K J = some p → zx_V mm_X10_write (d + 1) z0 (zw_ret (some (.int p.1)) zw_SM p.2 L zw_RM) zw_SM 70 [some (.ref 0), some (.int x1), some (.long x2), none, none] [] J L zw_RM) : ∀ (k : Nat) (x4 : Int32) (J : zx_I) (p : Int32 × zx_I), mf_write_30 n x1 x2 K k x4 J = some p → zx_V mm_X10_write (d + 1) z0 (zw_ret (some (.int p.1)) zw_SM p.2 L zw_RM) zw_SM 30 [some (.ref 0), some (.int x1), some (.long x2), none, some (.int x4)] [] J L zw_RM := by
  intro k
  induction k with
  | zero =>
    intro x4 J p h
    exact absurd (show (none : Option (Int32 × zx_I)) = some p from h) (by intro q; cases q)
  | succ k ih =>
    intro x4 J p h
    have h : mf_write_30_b n x1 x2 K (mf_write_30 n x1 x2 K k) x4 J = some p := h
    unfold mf_write_30_b at h
    refine zv_run 2 (pc' := 33) (lo' := [some (.ref 0), some (.int x1), some (.long x2), none, some (.int x4)]) (st' := [.int x1, .int x4]) (I' := J) (L' := L) (R' := zw_RM) rfl ?_
    refine zv_icmp_ge (tgt := 70) (zs_at rfl) (by decide) (fun c33 => ?_) (fun c33 => ?_)
    · have h := mo_t h c33
      refine zv_fg (lo' := [some (.ref 0), some (.int x1), some (.long x2), none, none]) (And.intro rfl (And.intro rfl (And.intro rfl (And.intro trivial (And.intro trivial rfl))))) ?_
      exact hK _ p h
    · have h := mo_f h c33
      refine zv_run 18 (pc' := 63) (lo' := [some (.ref 0), some (.int x1), some (.long x2), none, some (.int x4)]) (st' := [.int (((x2 >>> ((8 * ((x1 - 1) - x4)).toInt64 &&& 63)) &&& (255 : Int64)).toInt32), .int ((J 0 0) + x4), .ref 1]) (I' := J) (L' := L) (R' := zw_RM) rfl ?_
      obtain ⟨g63, h⟩ := mo_gs h
      refine zv_iast (zs_at rfl) rfl (mo_in_vp g63) ?_
      refine zv_run 2 (pc' := 30) (lo' := [some (.ref 0), some (.int x1), some (.long x2), none, some (.int (x4 + 1))]) (st' := []) (I' := (zx_uI J 1 (((J 0 0) + x4).toNatClampNeg) (((x2 >>> ((8 * ((x1 - 1) - x4)).toInt64 &&& 63)) &&& (255 : Int64)).toInt32))) (L' := L) (R' := zw_RM) rfl ?_
      exact ih _ _ p h
theorem mt_write {d n : Nat} {x1 : Int32} {x2 : Int64} {J : zx_I} {L : zx_L} {p : Int32 × zx_I} (h : mf_write n x1 x2 J = some p) : zx_M0 mm_X10_write (d + 1) 0 0 [.ref 0, .int x1, .long x2] zw_SM J L zw_RM (zw_ret (some (.int p.1)) zw_SM p.2 L zw_RM) := by
  unfold mf_write at h
  refine zv_entry gd_X10_write (Nat.le_of_ble_eq_true rfl) ?_
  refine zv_run 3 (pc' := 4) (lo' := [some (.ref 0), some (.int x1), some (.long x2), none, none]) (st' := [.int 8, .int 1, .int x1]) (I' := J) (L' := L) (R' := zw_RM) rfl ?_
  refine zv_cSz (M' := mm_X10_in) (av := [.int x1, .int 1, .int 8]) (st := []) (v := (mf_in x1 (1 : Int32) (8 : Int32))) (I' := J) (L' := L) (R' := zw_RM) rfl zc_10_86 gd_X10_in rfl (Nat.le_of_ble_eq_true rfl) (mt_in (d := _) rfl) ⟨Nat.le_refl _, Nat.le_refl _⟩ ?_
  intro b4
  refine zv_run 0 (pc' := 7) (lo' := [some (.ref 0), some (.int x1), some (.long x2), none, none]) (st' := [.int (mf_in x1 (1 : Int32) (8 : Int32))]) (I' := J) (L' := L) (R' := zw_RM) rfl ?_
  refine zv_if_ne (tgt := 12) (zs_at rfl) (by decide) (fun c7 => ?_) (fun c7 => ?_)
  · have h := mo_f h c7
    refine zv_run 5 (pc' := 21) (lo' := [some (.ref 0), some (.int x1), some (.long x2), none, none]) (st' := [.int 400, .int ((J 0 0) + x1)]) (I' := J) (L' := L) (R' := zw_RM) rfl ?_
    refine zv_icmp_le (tgt := 27) (zs_at rfl) (by decide) (fun c21 => ?_) (fun c21 => ?_)
    · have h := mo_t h c21
      refine zv_run 2 (pc' := 30) (lo' := [some (.ref 0), some (.int x1), some (.long x2), none, some (.int 0)]) (st' := []) (I' := J) (L' := L) (R' := zw_RM) rfl ?_
      refine ml_write_30 (fun J_30 p h => ?_) n _ _ p h
      refine zv_run 8 (pc' := 84) (lo' := [some (.ref 0), some (.int x1), some (.long x2), none, none]) (st' := [.int ((J_30 0 0) + x1)]) (I' := (zx_uI J_30 0 0 ((J_30 0 0) + x1))) (L' := L) (R' := zw_RM) rfl ?_
      obtain rfl := Option.some.inj h
      exact zv_iret (zs_at rfl) rfl ⟨Nat.le_refl _, Nat.le_refl _⟩ zw_here
    · have h := mo_f h c21
      refine zv_run 1 (pc' := 26) (lo' := [some (.ref 0), some (.int x1), some (.long x2), none, none]) (st' := [.int (-3)]) (I' := J) (L' := L) (R' := zw_RM) rfl ?_
      obtain rfl := Option.some.inj h
      exact zv_iret (zs_at rfl) rfl ⟨Nat.le_refl _, Nat.le_refl _⟩ zw_here
  · have h := mo_t h c7
    refine zv_run 1 (pc' := 11) (lo' := [some (.ref 0), some (.int x1), some (.long x2), none, none]) (st' := [.int (-1)]) (I' := J) (L' := L) (R' := zw_RM) rfl ?_
    obtain rfl := Option.some.inj h
    exact zv_iret (zs_at rfl) rfl ⟨Nat.le_refl _, Nat.le_refl _⟩ zw_here
def mf_wipe (J : zx_I) : Option (Int32 × zx_I) := some ((J 0 0), (zx_uI J 0 0 0))
theorem mt_wipe {d : Nat} {J : zx_I} {L : zx_L} {p : Int32 × zx_I} (h : mf_wipe J = some p) : zx_M0 mm_X10_wipe (d + 0) 0 0 [.ref 0] zw_SM J L zw_RM (zw_ret (some (.int p.1)) zw_SM p.2 L zw_RM) := by
  unfold mf_wipe at h
  refine zv_entry gd_X10_wipe (Nat.le_of_ble_eq_true rfl) ?_
  refine zv_run 7 (pc' := 11) (lo' := [some (.ref 0), some (.int (J 0 0))]) (st' := [.int (J 0 0)]) (I' := (zx_uI J 0 0 0)) (L' := L) (R' := zw_RM) rfl ?_
  obtain rfl := Option.some.inj h
  exact zv_iret (zs_at rfl) rfl ⟨Nat.le_refl _, Nat.le_refl _⟩ zw_here
def mf_byteNow (J : zx_I) : Option (Int32) := (if (J 0 0) ≤ (J 0 2) then some ((-4 : Int32)) else (mo_g (mo_in (J 0 2) 400) (some ((J 1 ((J 0 2).toNatClampNeg))))))
theorem mt_byteNow {d : Nat} {J : zx_I} {L : zx_L} {p : Int32} (h : mf_byteNow J = some p) : zx_M0 mm_X10_byteNow (d + 0) 0 0 [.ref 0] zw_SM J L zw_RM (zw_ret (some (.int p)) zw_SM J L zw_RM) := by
  unfold mf_byteNow at h
  refine zv_entry gd_X10_byteNow (Nat.le_of_ble_eq_true rfl) ?_
  refine zv_run 4 (pc' := 8) (lo' := [some (.ref 0)]) (st' := [.int (J 0 0), .int (J 0 2)]) (I' := J) (L' := L) (R' := zw_RM) rfl ?_
  refine zv_icmp_ge (tgt := 23) (zs_at rfl) (by decide) (fun c8 => ?_) (fun c8 => ?_)
  · have h := mo_t h c8
    refine zv_run 1 (pc' := 25) (lo' := [some (.ref 0)]) (st' := [.int (-4)]) (I' := J) (L' := L) (R' := zw_RM) rfl ?_
    obtain rfl := Option.some.inj h
    exact zv_iret (zs_at rfl) rfl ⟨Nat.le_refl _, Nat.le_refl _⟩ zw_here
  · have h := mo_f h c8
    refine zv_run 4 (pc' := 19) (lo' := [some (.ref 0)]) (st' := [.int (J 0 2), .ref 1]) (I' := J) (L' := L) (R' := zw_RM) rfl ?_
    obtain ⟨g19, h⟩ := mo_gs h
    refine zv_iald (zs_at rfl) rfl (mo_in_vp g19) ?_
    refine zv_run 0 (pc' := 20) (lo' := [some (.ref 0)]) (st' := [.int (J 1 ((J 0 2).toNatClampNeg))]) (I' := J) (L' := L) (R' := zw_RM) rfl ?_
    refine zv_run 1 (pc' := 25) (lo' := [some (.ref 0)]) (st' := [.int (J 1 ((J 0 2).toNatClampNeg))]) (I' := J) (L' := L) (R' := zw_RM) rfl ?_
    obtain rfl := Option.some.inj h
    exact zv_iret (zs_at rfl) rfl ⟨Nat.le_refl _, Nat.le_refl _⟩ zw_here
def mf_isNumber_8_b (n : Nat) (x1 : Int32) (x2 : Int32) (x3 : Int32) (K : Int32 → zx_I → Option (Int32 × zx_I)) (Z : Int32 → zx_I → Option (Int32 × zx_I)) (x4 : Int32) (J : zx_I) : Option (Int32 × zx_I) := ((mf_byteNow J).bind fun p9 => (if (mf_in p9 (48 : Int32) (57 : Int32)) = 0 then K x4 J else (if (5 : Int32) ≤ x4 then K x4 J else ((mf_byteNow J).bind fun p37 => Z (x4 + 1) (zx_uI (zx_uI J 0 4 (((10 * (J 0 4)) + p37) - 48)) 0 2 ((J 0 2) + 1))))))
def mf_isNumber_8 (n : Nat) (x1 : Int32) (x2 : Int32) (x3 : Int32) (K : Int32 → zx_I → Option (Int32 × zx_I)) : Nat → Int32 → zx_I → Option (Int32 × zx_I)
  | 0 => fun _ _ => none
  | k + 1 => mf_isNumber_8_b n x1 x2 x3 K (mf_isNumber_8 n x1 x2 x3 K k)
def mf_isNumber (n : Nat) (x1 : Int32) (x2 : Int32) (x3 : Int32) (J : zx_I) : Option (Int32 × zx_I) := (mf_isNumber_8 n x1 x2 x3 (fun x4_8 J_8 => (((if (mf_in x4_8 (1 : Int32) (4 : Int32)) = 0 then some ((0 : Int32)) else (if (mf_in (J_8 0 4) x1 x2) = 0 then some ((0 : Int32)) else ((mf_byteNow J_8).bind fun p86 => (if p86 = x3 then some ((1 : Int32)) else some ((0 : Int32)))))) : Option (Int32)).bind fun v70 => some (v70, (zx_uI J_8 0 2 ((J_8 0 2) + 1))))) n (0 : Int32) (zx_uI J 0 4 0))
theorem ml_isNumber_8 {n d : Nat} {x1 : Int32} {x2 : Int32} {x3 : Int32} {L : zx_L} {K : Int32 → zx_I → Option (Int32 × zx_I)} (hK : ∀ (x4 : Int32) (J : zx_I) (p : Int32 × zx_I), K x4 J = some p → zx_V mm_X10_isNumber (d + 1) z0 (zw_rz p.1 zw_SM p.2 L zw_RM) zw_SM 63 [some (.ref 0), some (.int x1), some (.int x2), some (.int x3), some (.int x4), none] [] J L zw_RM) : ∀ (k : Nat) (x4 : Int32) (J : zx_I) (p : Int32 × zx_I), mf_isNumber_8 n x1 x2 x3 K k x4 J = some p → zx_V mm_X10_isNumber (d + 1) z0 (zw_rz p.1 zw_SM p.2 L zw_RM) zw_SM 8 [some (.ref 0), some (.int x1), some (.int x2), some (.int x3), some (.int x4), none] [] J L zw_RM := by
  intro k
  induction k with
  | zero =>
    intro x4 J p h
    exact absurd (show (none : Option (Int32 × zx_I)) = some p from h) (by intro q; cases q)
  | succ k ih =>
    intro x4 J p h
    have h : mf_isNumber_8_b n x1 x2 x3 K (mf_isNumber_8 n x1 x2 x3 K k) x4 J = some p := h
    unfold mf_isNumber_8_b at h
    refine zv_run 1 (pc' := 9) (lo' := [some (.ref 0), some (.int x1), some (.int x2), some (.int x3), some (.int x4), none]) (st' := [.ref 0]) (I' := J) (L' := L) (R' := zw_RM) rfl ?_
    obtain ⟨p9, e9, h⟩ := mo_b h
    refine zv_cV (M' := mm_X10_byteNow) (ci := 10) (a := 0) (av := []) (st := []) (r := some (.int p9)) (I' := J) (L' := L) (R' := zw_RM) rfl zc_10_101 gd_X10_byteNow rfl rfl rfl (Nat.le_of_ble_eq_true rfl) (mt_byteNow (d := _) e9) ⟨Nat.le_refl _, Nat.le_refl _⟩ ?_
    refine zv_run 0 (pc' := 12) (lo' := [some (.ref 0), some (.int x1), some (.int x2), some (.int x3), some (.int x4), none]) (st' := [.int p9]) (I' := J) (L' := L) (R' := zw_RM) rfl ?_
    refine zv_run 2 (pc' := 16) (lo' := [some (.ref 0), some (.int x1), some (.int x2), some (.int x3), some (.int x4), none]) (st' := [.int 57, .int 48, .int p9]) (I' := J) (L' := L) (R' := zw_RM) rfl ?_
    refine zv_cSz (M' := mm_X10_in) (av := [.int p9, .int 48, .int 57]) (st := []) (v := (mf_in p9 (48 : Int32) (57 : Int32))) (I' := J) (L' := L) (R' := zw_RM) rfl zc_10_86 gd_X10_in rfl (Nat.le_of_ble_eq_true rfl) (mt_in (d := _) rfl) ⟨Nat.le_refl _, Nat.le_refl _⟩ ?_
    intro b16
    refine zv_run 0 (pc' := 19) (lo' := [some (.ref 0), some (.int x1), some (.int x2), some (.int x3), some (.int x4), none]) (st' := [.int (mf_in p9 (48 : Int32) (57 : Int32))]) (I' := J) (L' := L) (R' := zw_RM) rfl ?_
    refine zv_if_eq (tgt := 63) (zs_at rfl) (by decide) (fun c19 => ?_) (fun c19 => ?_)
    · have h := mo_t h c19
      exact hK _ _ p h
    · have h := mo_f h c19
      refine zv_run 2 (pc' := 25) (lo' := [some (.ref 0), some (.int x1), some (.int x2), some (.int x3), some (.int x4), none]) (st' := [.int 5, .int x4]) (I' := J) (L' := L) (R' := zw_RM) rfl ?_
      refine zv_icmp_ge (tgt := 63) (zs_at rfl) (by decide) (fun c25 => ?_) (fun c25 => ?_)
      · have h := mo_t h c25
        exact hK _ _ p h
      · have h := mo_f h c25
        refine zv_run 6 (pc' := 37) (lo' := [some (.ref 0), some (.int x1), some (.int x2), some (.int x3), some (.int x4), none]) (st' := [.ref 0, .int (10 * (J 0 4)), .ref 0]) (I' := J) (L' := L) (R' := zw_RM) rfl ?_
        obtain ⟨p37, e37, h⟩ := mo_b h
        refine zv_cV (M' := mm_X10_byteNow) (ci := 10) (a := 0) (av := []) (st := [.int (10 * (J 0 4)), .ref 0]) (r := some (.int p37)) (I' := J) (L' := L) (R' := zw_RM) rfl zc_10_101 gd_X10_byteNow rfl rfl rfl (Nat.le_of_ble_eq_true rfl) (mt_byteNow (d := _) e37) ⟨Nat.le_refl _, Nat.le_refl _⟩ ?_
        refine zv_run 0 (pc' := 40) (lo' := [some (.ref 0), some (.int x1), some (.int x2), some (.int x3), some (.int x4), none]) (st' := [.int p37, .int (10 * (J 0 4)), .ref 0]) (I' := J) (L' := L) (R' := zw_RM) rfl ?_
        refine zv_run 12 (pc' := 8) (lo' := [some (.ref 0), some (.int x1), some (.int x2), some (.int x3), some (.int (x4 + 1)), none]) (st' := []) (I' := (zx_uI (zx_uI J 0 4 (((10 * (J 0 4)) + p37) - 48)) 0 2 ((J 0 2) + 1))) (L' := L) (R' := zw_RM) rfl ?_
        exact ih _ _ p h
theorem mt_isNumber {d n : Nat} {x1 : Int32} {x2 : Int32} {x3 : Int32} {J : zx_I} {L : zx_L} {p : Int32 × zx_I} (h : mf_isNumber n x1 x2 x3 J = some p) : zx_M0 mm_X10_isNumber (d + 1) 0 0 [.ref 0, .int x1, .int x2, .int x3] zw_SM J L zw_RM (zw_rz p.1 zw_SM p.2 L zw_RM) := by
  unfold mf_isNumber at h
  refine zv_entry gd_X10_isNumber (Nat.le_of_ble_eq_true rfl) ?_
  refine zv_run 5 (pc' := 8) (lo' := [some (.ref 0), some (.int x1), some (.int x2), some (.int x3), some (.int 0), none]) (st' := []) (I' := (zx_uI J 0 4 0)) (L' := L) (R' := zw_RM) rfl ?_
  refine ml_isNumber_8 (fun x4_8 J_8 p h => ?_) n _ _ p h
  refine zv_run 3 (pc' := 67) (lo' := [some (.ref 0), some (.int x1), some (.int x2), some (.int x3), some (.int x4_8), none]) (st' := [.int 4, .int 1, .int x4_8]) (I' := J_8) (L' := L) (R' := zw_RM) rfl ?_
  refine zv_cSz (M' := mm_X10_in) (av := [.int x4_8, .int 1, .int 4]) (st := []) (v := (mf_in x4_8 (1 : Int32) (4 : Int32))) (I' := J_8) (L' := L) (R' := zw_RM) rfl zc_10_86 gd_X10_in rfl (Nat.le_of_ble_eq_true rfl) (mt_in (d := _) rfl) ⟨Nat.le_refl _, Nat.le_refl _⟩ ?_
  intro b67
  refine zv_run 0 (pc' := 70) (lo' := [some (.ref 0), some (.int x1), some (.int x2), some (.int x3), some (.int x4_8), none]) (st' := [.int (mf_in x4_8 (1 : Int32) (4 : Int32))]) (I' := J_8) (L' := L) (R' := zw_RM) rfl ?_
  obtain ⟨v70, e70, h⟩ := mo_b h
  have k70 : (v70 = 0 ∨ v70 = 1) → zx_V mm_X10_isNumber (d + 1) z0 (zw_rz p.1 zw_SM p.2 L zw_RM) zw_SM 98 [some (.ref 0), none, none, none, none, none] [.int v70] J_8 L zw_RM := by
    intro b70_0
    clear e70
    refine zv_run 8 (pc' := 112) (lo' := [some (.ref 0), none, none, none, none, some (.int v70)]) (st' := [.int v70]) (I' := (zx_uI J_8 0 2 ((J_8 0 2) + 1))) (L' := L) (R' := zw_RM) rfl ?_
    obtain rfl := Option.some.inj h
    exact zv_zret (zs_at rfl) rfl b70_0 ⟨Nat.le_refl _, Nat.le_refl _⟩ ⟨zw_here, b70_0⟩
  have h := e70
  refine zv_if_eq (tgt := 97) (zs_at rfl) (by decide) (fun c70 => ?_) (fun c70 => ?_)
  · have h := mo_t h c70
    refine zv_run 1 (pc' := 98) (lo' := [some (.ref 0), some (.int x1), some (.int x2), some (.int x3), some (.int x4_8), none]) (st' := [.int 0]) (I' := J_8) (L' := L) (R' := zw_RM) rfl ?_
    obtain rfl := Option.some.inj h
    refine zv_fg (lo' := [some (.ref 0), none, none, none, none, none]) (And.intro rfl (And.intro trivial (And.intro trivial (And.intro trivial (And.intro trivial (And.intro trivial rfl)))))) ?_
    exact k70 (Or.inl rfl)
  · have h := mo_f h c70
    refine zv_run 4 (pc' := 79) (lo' := [some (.ref 0), some (.int x1), some (.int x2), some (.int x3), some (.int x4_8), none]) (st' := [.int x2, .int x1, .int (J_8 0 4)]) (I' := J_8) (L' := L) (R' := zw_RM) rfl ?_
    refine zv_cSz (M' := mm_X10_in) (av := [.int (J_8 0 4), .int x1, .int x2]) (st := []) (v := (mf_in (J_8 0 4) x1 x2)) (I' := J_8) (L' := L) (R' := zw_RM) rfl zc_10_86 gd_X10_in rfl (Nat.le_of_ble_eq_true rfl) (mt_in (d := _) rfl) ⟨Nat.le_refl _, Nat.le_refl _⟩ ?_
    intro b79
    refine zv_run 0 (pc' := 82) (lo' := [some (.ref 0), some (.int x1), some (.int x2), some (.int x3), some (.int x4_8), none]) (st' := [.int (mf_in (J_8 0 4) x1 x2)]) (I' := J_8) (L' := L) (R' := zw_RM) rfl ?_
    refine zv_if_eq (tgt := 97) (zs_at rfl) (by decide) (fun c82 => ?_) (fun c82 => ?_)
    · have h := mo_t h c82
      refine zv_run 1 (pc' := 98) (lo' := [some (.ref 0), some (.int x1), some (.int x2), some (.int x3), some (.int x4_8), none]) (st' := [.int 0]) (I' := J_8) (L' := L) (R' := zw_RM) rfl ?_
      obtain rfl := Option.some.inj h
      refine zv_fg (lo' := [some (.ref 0), none, none, none, none, none]) (And.intro rfl (And.intro trivial (And.intro trivial (And.intro trivial (And.intro trivial (And.intro trivial rfl)))))) ?_
      exact k70 (Or.inl rfl)
    · have h := mo_f h c82
      refine zv_run 1 (pc' := 86) (lo' := [some (.ref 0), some (.int x1), some (.int x2), some (.int x3), some (.int x4_8), none]) (st' := [.ref 0]) (I' := J_8) (L' := L) (R' := zw_RM) rfl ?_
      obtain ⟨p86, e86, h⟩ := mo_b h
      refine zv_cV (M' := mm_X10_byteNow) (ci := 10) (a := 0) (av := []) (st := []) (r := some (.int p86)) (I' := J_8) (L' := L) (R' := zw_RM) rfl zc_10_101 gd_X10_byteNow rfl rfl rfl (Nat.le_of_ble_eq_true rfl) (mt_byteNow (d := _) e86) ⟨Nat.le_refl _, Nat.le_refl _⟩ ?_
      refine zv_run 0 (pc' := 89) (lo' := [some (.ref 0), some (.int x1), some (.int x2), some (.int x3), some (.int x4_8), none]) (st' := [.int p86]) (I' := J_8) (L' := L) (R' := zw_RM) rfl ?_
      refine zv_run 1 (pc' := 90) (lo' := [some (.ref 0), some (.int x1), some (.int x2), some (.int x3), some (.int x4_8), none]) (st' := [.int x3, .int p86]) (I' := J_8) (L' := L) (R' := zw_RM) rfl ?_
      refine zv_icmp_ne (tgt := 97) (zs_at rfl) (by decide) (fun c90 => ?_) (fun c90 => ?_)
      · have h := mo_f h c90
        refine zv_run 1 (pc' := 98) (lo' := [some (.ref 0), some (.int x1), some (.int x2), some (.int x3), some (.int x4_8), none]) (st' := [.int 0]) (I' := J_8) (L' := L) (R' := zw_RM) rfl ?_
        obtain rfl := Option.some.inj h
        refine zv_fg (lo' := [some (.ref 0), none, none, none, none, none]) (And.intro rfl (And.intro trivial (And.intro trivial (And.intro trivial (And.intro trivial (And.intro trivial rfl)))))) ?_
        exact k70 (Or.inl rfl)
      · have h := mo_t h c90
        refine zv_run 2 (pc' := 98) (lo' := [some (.ref 0), some (.int x1), some (.int x2), some (.int x3), some (.int x4_8), none]) (st' := [.int 1]) (I' := J_8) (L' := L) (R' := zw_RM) rfl ?_
        obtain rfl := Option.some.inj h
        refine zv_fg (lo' := [some (.ref 0), none, none, none, none, none]) (And.intro rfl (And.intro trivial (And.intro trivial (And.intro trivial (And.intro trivial (And.intro trivial rfl)))))) ?_
        exact k70 (Or.inr rfl)
def mf_isPut (n : Nat) (x1 : Int32) (x2 : Int32) (x3 : Int32) (x4 : Int32) (J : zx_I) : Option (Int32 × zx_I) := ((mf_isNumber n x2 x3 x4 J).bind fun p5 => (mo_g (mo_in x1 65) (some (p5.1, (zx_uI p5.2 2 x1.toNatClampNeg (p5.2 0 4))))))
theorem mt_isPut {d n : Nat} {x1 : Int32} {x2 : Int32} {x3 : Int32} {x4 : Int32} {J : zx_I} {L : zx_L} {p : Int32 × zx_I} (h : mf_isPut n x1 x2 x3 x4 J = some p) : zx_M0 mm_X10_isPut (d + 2) 0 0 [.ref 0, .int x1, .int x2, .int x3, .int x4] zw_SM J L zw_RM (zw_rz p.1 zw_SM p.2 L zw_RM) := by
  unfold mf_isPut at h
  refine zv_entry gd_X10_isPut (Nat.le_of_ble_eq_true rfl) ?_
  refine zv_run 4 (pc' := 5) (lo' := [some (.ref 0), some (.int x1), some (.int x2), some (.int x3), some (.int x4), none]) (st' := [.int x4, .int x3, .int x2, .ref 0]) (I' := J) (L' := L) (R' := zw_RM) rfl ?_
  obtain ⟨p5, e5, h⟩ := mo_b h
  refine zv_cVz (M' := mm_X10_isNumber) (ci := 10) (a := 0) (av := [.int x2, .int x3, .int x4]) (st := []) (v := p5.1) (I' := p5.2) (L' := L) (R' := zw_RM) rfl zc_10_105 gd_X10_isNumber rfl rfl rfl (Nat.le_of_ble_eq_true rfl) (mt_isNumber (d := _) e5) ⟨Nat.le_refl _, Nat.le_refl _⟩ ?_
  intro b5
  refine zv_run 0 (pc' := 8) (lo' := [some (.ref 0), some (.int x1), some (.int x2), some (.int x3), some (.int x4), none]) (st' := [.int p5.1]) (I' := p5.2) (L' := L) (R' := zw_RM) rfl ?_
  refine zv_run 6 (pc' := 19) (lo' := [some (.ref 0), some (.int x1), some (.int x2), some (.int x3), some (.int x4), some (.int p5.1)]) (st' := [.int (p5.2 0 4), .int x1, .ref 2]) (I' := p5.2) (L' := L) (R' := zw_RM) rfl ?_
  obtain ⟨g19, h⟩ := mo_gs h
  refine zv_iast (zs_at rfl) rfl (mo_in_vp g19) ?_
  refine zv_run 1 (pc' := 22) (lo' := [some (.ref 0), some (.int x1), some (.int x2), some (.int x3), some (.int x4), some (.int p5.1)]) (st' := [.int p5.1]) (I' := (zx_uI p5.2 2 x1.toNatClampNeg (p5.2 0 4))) (L' := L) (R' := zw_RM) rfl ?_
  obtain rfl := Option.some.inj h
  exact zv_zret (zs_at rfl) rfl b5 ⟨Nat.le_refl _, Nat.le_refl _⟩ ⟨zw_here, b5⟩
def mf_isBather (n : Nat) (J : zx_I) : Option (Int32 × zx_I) := (if (J 2 16) = (6 : Int32) then some ((0 : Int32), J) else (mo_g (mo_in ((17 + (8 * (J 2 16))) + 6) 65) (mo_g (mo_in ((17 + (8 * (J 2 16))) + 7) 65) ((mf_isPut n (17 + (8 * (J 2 16))) (1 : Int32) (99 : Int32) (44 : Int32) (zx_uI (zx_uI (zx_uI J 2 (((17 + (8 * (J 2 16))) + 6).toNatClampNeg) 0) 2 (((17 + (8 * (J 2 16))) + 7).toNatClampNeg) 0) 2 16 (((zx_uI (zx_uI J 2 (((17 + (8 * (J 2 16))) + 6).toNatClampNeg) 0) 2 (((17 + (8 * (J 2 16))) + 7).toNatClampNeg) 0) 2 16) + 1))).bind fun p66 => (if p66.1 = 0 then some ((0 : Int32), p66.2) else ((mf_isPut n ((17 + (8 * (J 2 16))) + 1) (0 : Int32) (99 : Int32) (44 : Int32) p66.2).bind fun p81 => (if p81.1 = 0 then some ((0 : Int32), p81.2) else (mo_g (mo_in ((17 + (8 * (J 2 16))) + 1) 65) ((mf_isPut n ((17 + (8 * (J 2 16))) + 2) (p81.2 2 (((17 + (8 * (J 2 16))) + 1).toNatClampNeg)) (99 : Int32) (44 : Int32) p81.2).bind fun p103 => (if p103.1 = 0 then some ((0 : Int32), p103.2) else ((mf_isPut n ((17 + (8 * (J 2 16))) + 3) (1 : Int32) (20 : Int32) (44 : Int32) p103.2).bind fun p118 => (if p118.1 = 0 then some ((0 : Int32), p118.2) else ((mf_isPut n ((17 + (8 * (J 2 16))) + 4) (0 : Int32) (60 : Int32) (44 : Int32) p118.2).bind fun p133 => (if p133.1 = 0 then some ((0 : Int32), p133.2) else ((mf_isPut n ((17 + (8 * (J 2 16))) + 5) (0 : Int32) (99 : Int32) (59 : Int32) p133.2).bind fun p148 => (if p148.1 = 0 then some ((0 : Int32), p148.2) else some ((1 : Int32), p148.2)))))))))))))))))
theorem mt_isBather {d n : Nat} {J : zx_I} {L : zx_L} {p : Int32 × zx_I} (h : mf_isBather n J = some p) : zx_M0 mm_X10_isBather (d + 3) 0 0 [.ref 0] zw_SM J L zw_RM (zw_rz p.1 zw_SM p.2 L zw_RM) := by
  unfold mf_isBather at h
  refine zv_entry gd_X10_isBather (Nat.le_of_ble_eq_true rfl) ?_
  refine zv_run 5 (pc' := 9) (lo' := [some (.ref 0), none]) (st' := [.int 6, .int (J 2 16)]) (I' := J) (L' := L) (R' := zw_RM) rfl ?_
  refine zv_icmp_ne (tgt := 14) (zs_at rfl) (by decide) (fun c9 => ?_) (fun c9 => ?_)
  · have h := mo_f h c9
    refine zv_run 15 (pc' := 37) (lo' := [some (.ref 0), some (.int (17 + (8 * (J 2 16))))]) (st' := [.int 0, .int ((17 + (8 * (J 2 16))) + 6), .ref 2]) (I' := J) (L' := L) (R' := zw_RM) rfl ?_
    obtain ⟨g37, h⟩ := mo_gs h
    refine zv_iast (zs_at rfl) rfl (mo_in_vp g37) ?_
    refine zv_run 6 (pc' := 47) (lo' := [some (.ref 0), some (.int (17 + (8 * (J 2 16))))]) (st' := [.int 0, .int ((17 + (8 * (J 2 16))) + 7), .ref 2]) (I' := (zx_uI J 2 (((17 + (8 * (J 2 16))) + 6).toNatClampNeg) 0)) (L' := L) (R' := zw_RM) rfl ?_
    obtain ⟨g47, h⟩ := mo_gs h
    refine zv_iast (zs_at rfl) rfl (mo_in_vp g47) ?_
    refine zv_run 13 (pc' := 66) (lo' := [some (.ref 0), some (.int (17 + (8 * (J 2 16))))]) (st' := [.int 44, .int 99, .int 1, .int (17 + (8 * (J 2 16))), .ref 0]) (I' := (zx_uI (zx_uI (zx_uI J 2 (((17 + (8 * (J 2 16))) + 6).toNatClampNeg) 0) 2 (((17 + (8 * (J 2 16))) + 7).toNatClampNeg) 0) 2 16 (((zx_uI (zx_uI J 2 (((17 + (8 * (J 2 16))) + 6).toNatClampNeg) 0) 2 (((17 + (8 * (J 2 16))) + 7).toNatClampNeg) 0) 2 16) + 1))) (L' := L) (R' := zw_RM) rfl ?_
    obtain ⟨p66, e66, h⟩ := mo_b h
    refine zv_cVz (M' := mm_X10_isPut) (ci := 10) (a := 0) (av := [.int (17 + (8 * (J 2 16))), .int 1, .int 99, .int 44]) (st := []) (v := p66.1) (I' := p66.2) (L' := L) (R' := zw_RM) rfl zc_10_108 gd_X10_isPut rfl rfl rfl (Nat.le_of_ble_eq_true rfl) (mt_isPut (d := _) e66) ⟨Nat.le_refl _, Nat.le_refl _⟩ ?_
    intro b66
    refine zv_run 0 (pc' := 69) (lo' := [some (.ref 0), some (.int (17 + (8 * (J 2 16))))]) (st' := [.int p66.1]) (I' := p66.2) (L' := L) (R' := zw_RM) rfl ?_
    refine zv_if_eq (tgt := 158) (zs_at rfl) (by decide) (fun c69 => ?_) (fun c69 => ?_)
    · have h := mo_t h c69
      refine zv_run 1 (pc' := 159) (lo' := [some (.ref 0), some (.int (17 + (8 * (J 2 16))))]) (st' := [.int 0]) (I' := p66.2) (L' := L) (R' := zw_RM) rfl ?_
      obtain rfl := Option.some.inj h
      exact zv_zret (zs_at rfl) rfl (Or.inl rfl) ⟨Nat.le_refl _, Nat.le_refl _⟩ ⟨zw_here, (Or.inl rfl)⟩
    · have h := mo_f h c69
      refine zv_run 7 (pc' := 81) (lo' := [some (.ref 0), some (.int (17 + (8 * (J 2 16))))]) (st' := [.int 44, .int 99, .int 0, .int ((17 + (8 * (J 2 16))) + 1), .ref 0]) (I' := p66.2) (L' := L) (R' := zw_RM) rfl ?_
      obtain ⟨p81, e81, h⟩ := mo_b h
      refine zv_cVz (M' := mm_X10_isPut) (ci := 10) (a := 0) (av := [.int ((17 + (8 * (J 2 16))) + 1), .int 0, .int 99, .int 44]) (st := []) (v := p81.1) (I' := p81.2) (L' := L) (R' := zw_RM) rfl zc_10_108 gd_X10_isPut rfl rfl rfl (Nat.le_of_ble_eq_true rfl) (mt_isPut (d := _) e81) ⟨Nat.le_refl _, Nat.le_refl _⟩ ?_
      intro b81
      refine zv_run 0 (pc' := 84) (lo' := [some (.ref 0), some (.int (17 + (8 * (J 2 16))))]) (st' := [.int p81.1]) (I' := p81.2) (L' := L) (R' := zw_RM) rfl ?_
      refine zv_if_eq (tgt := 158) (zs_at rfl) (by decide) (fun c84 => ?_) (fun c84 => ?_)
      · have h := mo_t h c84
        refine zv_run 1 (pc' := 159) (lo' := [some (.ref 0), some (.int (17 + (8 * (J 2 16))))]) (st' := [.int 0]) (I' := p81.2) (L' := L) (R' := zw_RM) rfl ?_
        obtain rfl := Option.some.inj h
        exact zv_zret (zs_at rfl) rfl (Or.inl rfl) ⟨Nat.le_refl _, Nat.le_refl _⟩ ⟨zw_here, (Or.inl rfl)⟩
      · have h := mo_f h c84
        refine zv_run 9 (pc' := 98) (lo' := [some (.ref 0), some (.int (17 + (8 * (J 2 16))))]) (st' := [.int ((17 + (8 * (J 2 16))) + 1), .ref 2, .int ((17 + (8 * (J 2 16))) + 2), .ref 0]) (I' := p81.2) (L' := L) (R' := zw_RM) rfl ?_
        obtain ⟨g98, h⟩ := mo_gs h
        refine zv_iald (zs_at rfl) rfl (mo_in_vp g98) ?_
        refine zv_run 0 (pc' := 99) (lo' := [some (.ref 0), some (.int (17 + (8 * (J 2 16))))]) (st' := [.int (p81.2 2 (((17 + (8 * (J 2 16))) + 1).toNatClampNeg)), .int ((17 + (8 * (J 2 16))) + 2), .ref 0]) (I' := p81.2) (L' := L) (R' := zw_RM) rfl ?_
        refine zv_run 2 (pc' := 103) (lo' := [some (.ref 0), some (.int (17 + (8 * (J 2 16))))]) (st' := [.int 44, .int 99, .int (p81.2 2 (((17 + (8 * (J 2 16))) + 1).toNatClampNeg)), .int ((17 + (8 * (J 2 16))) + 2), .ref 0]) (I' := p81.2) (L' := L) (R' := zw_RM) rfl ?_
        obtain ⟨p103, e103, h⟩ := mo_b h
        refine zv_cVz (M' := mm_X10_isPut) (ci := 10) (a := 0) (av := [.int ((17 + (8 * (J 2 16))) + 2), .int (p81.2 2 (((17 + (8 * (J 2 16))) + 1).toNatClampNeg)), .int 99, .int 44]) (st := []) (v := p103.1) (I' := p103.2) (L' := L) (R' := zw_RM) rfl zc_10_108 gd_X10_isPut rfl rfl rfl (Nat.le_of_ble_eq_true rfl) (mt_isPut (d := _) e103) ⟨Nat.le_refl _, Nat.le_refl _⟩ ?_
        intro b103
        refine zv_run 0 (pc' := 106) (lo' := [some (.ref 0), some (.int (17 + (8 * (J 2 16))))]) (st' := [.int p103.1]) (I' := p103.2) (L' := L) (R' := zw_RM) rfl ?_
        refine zv_if_eq (tgt := 158) (zs_at rfl) (by decide) (fun c106 => ?_) (fun c106 => ?_)
        · have h := mo_t h c106
          refine zv_run 1 (pc' := 159) (lo' := [some (.ref 0), some (.int (17 + (8 * (J 2 16))))]) (st' := [.int 0]) (I' := p103.2) (L' := L) (R' := zw_RM) rfl ?_
          obtain rfl := Option.some.inj h
          exact zv_zret (zs_at rfl) rfl (Or.inl rfl) ⟨Nat.le_refl _, Nat.le_refl _⟩ ⟨zw_here, (Or.inl rfl)⟩
        · have h := mo_f h c106
          refine zv_run 7 (pc' := 118) (lo' := [some (.ref 0), some (.int (17 + (8 * (J 2 16))))]) (st' := [.int 44, .int 20, .int 1, .int ((17 + (8 * (J 2 16))) + 3), .ref 0]) (I' := p103.2) (L' := L) (R' := zw_RM) rfl ?_
          obtain ⟨p118, e118, h⟩ := mo_b h
          refine zv_cVz (M' := mm_X10_isPut) (ci := 10) (a := 0) (av := [.int ((17 + (8 * (J 2 16))) + 3), .int 1, .int 20, .int 44]) (st := []) (v := p118.1) (I' := p118.2) (L' := L) (R' := zw_RM) rfl zc_10_108 gd_X10_isPut rfl rfl rfl (Nat.le_of_ble_eq_true rfl) (mt_isPut (d := _) e118) ⟨Nat.le_refl _, Nat.le_refl _⟩ ?_
          intro b118
          refine zv_run 0 (pc' := 121) (lo' := [some (.ref 0), some (.int (17 + (8 * (J 2 16))))]) (st' := [.int p118.1]) (I' := p118.2) (L' := L) (R' := zw_RM) rfl ?_
          refine zv_if_eq (tgt := 158) (zs_at rfl) (by decide) (fun c121 => ?_) (fun c121 => ?_)
          · have h := mo_t h c121
            refine zv_run 1 (pc' := 159) (lo' := [some (.ref 0), some (.int (17 + (8 * (J 2 16))))]) (st' := [.int 0]) (I' := p118.2) (L' := L) (R' := zw_RM) rfl ?_
            obtain rfl := Option.some.inj h
            exact zv_zret (zs_at rfl) rfl (Or.inl rfl) ⟨Nat.le_refl _, Nat.le_refl _⟩ ⟨zw_here, (Or.inl rfl)⟩
          · have h := mo_f h c121
            refine zv_run 7 (pc' := 133) (lo' := [some (.ref 0), some (.int (17 + (8 * (J 2 16))))]) (st' := [.int 44, .int 60, .int 0, .int ((17 + (8 * (J 2 16))) + 4), .ref 0]) (I' := p118.2) (L' := L) (R' := zw_RM) rfl ?_
            obtain ⟨p133, e133, h⟩ := mo_b h
            refine zv_cVz (M' := mm_X10_isPut) (ci := 10) (a := 0) (av := [.int ((17 + (8 * (J 2 16))) + 4), .int 0, .int 60, .int 44]) (st := []) (v := p133.1) (I' := p133.2) (L' := L) (R' := zw_RM) rfl zc_10_108 gd_X10_isPut rfl rfl rfl (Nat.le_of_ble_eq_true rfl) (mt_isPut (d := _) e133) ⟨Nat.le_refl _, Nat.le_refl _⟩ ?_
            intro b133
            refine zv_run 0 (pc' := 136) (lo' := [some (.ref 0), some (.int (17 + (8 * (J 2 16))))]) (st' := [.int p133.1]) (I' := p133.2) (L' := L) (R' := zw_RM) rfl ?_
            refine zv_if_eq (tgt := 158) (zs_at rfl) (by decide) (fun c136 => ?_) (fun c136 => ?_)
            · have h := mo_t h c136
              refine zv_run 1 (pc' := 159) (lo' := [some (.ref 0), some (.int (17 + (8 * (J 2 16))))]) (st' := [.int 0]) (I' := p133.2) (L' := L) (R' := zw_RM) rfl ?_
              obtain rfl := Option.some.inj h
              exact zv_zret (zs_at rfl) rfl (Or.inl rfl) ⟨Nat.le_refl _, Nat.le_refl _⟩ ⟨zw_here, (Or.inl rfl)⟩
            · have h := mo_f h c136
              refine zv_run 7 (pc' := 148) (lo' := [some (.ref 0), some (.int (17 + (8 * (J 2 16))))]) (st' := [.int 59, .int 99, .int 0, .int ((17 + (8 * (J 2 16))) + 5), .ref 0]) (I' := p133.2) (L' := L) (R' := zw_RM) rfl ?_
              obtain ⟨p148, e148, h⟩ := mo_b h
              refine zv_cVz (M' := mm_X10_isPut) (ci := 10) (a := 0) (av := [.int ((17 + (8 * (J 2 16))) + 5), .int 0, .int 99, .int 59]) (st := []) (v := p148.1) (I' := p148.2) (L' := L) (R' := zw_RM) rfl zc_10_108 gd_X10_isPut rfl rfl rfl (Nat.le_of_ble_eq_true rfl) (mt_isPut (d := _) e148) ⟨Nat.le_refl _, Nat.le_refl _⟩ ?_
              intro b148
              refine zv_run 0 (pc' := 151) (lo' := [some (.ref 0), some (.int (17 + (8 * (J 2 16))))]) (st' := [.int p148.1]) (I' := p148.2) (L' := L) (R' := zw_RM) rfl ?_
              refine zv_if_eq (tgt := 158) (zs_at rfl) (by decide) (fun c151 => ?_) (fun c151 => ?_)
              · have h := mo_t h c151
                refine zv_run 1 (pc' := 159) (lo' := [some (.ref 0), some (.int (17 + (8 * (J 2 16))))]) (st' := [.int 0]) (I' := p148.2) (L' := L) (R' := zw_RM) rfl ?_
                obtain rfl := Option.some.inj h
                exact zv_zret (zs_at rfl) rfl (Or.inl rfl) ⟨Nat.le_refl _, Nat.le_refl _⟩ ⟨zw_here, (Or.inl rfl)⟩
              · have h := mo_f h c151
                refine zv_run 2 (pc' := 159) (lo' := [some (.ref 0), some (.int (17 + (8 * (J 2 16))))]) (st' := [.int 1]) (I' := p148.2) (L' := L) (R' := zw_RM) rfl ?_
                obtain rfl := Option.some.inj h
                exact zv_zret (zs_at rfl) rfl (Or.inr rfl) ⟨Nat.le_refl _, Nat.le_refl _⟩ ⟨zw_here, (Or.inr rfl)⟩
  · have h := mo_t h c9
    refine zv_run 1 (pc' := 13) (lo' := [some (.ref 0), none]) (st' := [.int 0]) (I' := J) (L' := L) (R' := zw_RM) rfl ?_
    obtain rfl := Option.some.inj h
    exact zv_zret (zs_at rfl) rfl (Or.inl rfl) ⟨Nat.le_refl _, Nat.le_refl _⟩ ⟨zw_here, (Or.inl rfl)⟩
def mf_isPair (n : Nat) (x1 : Int32) (J : zx_I) : Option (Int32 × zx_I) := ((mf_isNumber n (0 : Int32) ((J 2 16) - 1) (44 : Int32) J).bind fun p13 => (if p13.1 = 0 then some ((0 : Int32), p13.2) else ((mf_isNumber n (0 : Int32) ((p13.2 2 16) - 1) (59 : Int32) p13.2).bind fun p39 => (if p39.1 = 0 then some ((0 : Int32), p39.2) else (if (p39.2 0 4) = (p13.2 0 4) then some ((0 : Int32), p39.2) else (mo_g (mo_in ((17 + (8 * (p13.2 0 4))) + x1) 65) (mo_g (mo_in ((17 + (8 * (p13.2 0 4))) + x1) 65) (some ((1 : Int32), (zx_uI p39.2 2 (((17 + (8 * (p13.2 0 4))) + x1).toNatClampNeg) ((p39.2 2 (((17 + (8 * (p13.2 0 4))) + x1).toNatClampNeg)) ||| (1 <<< ((p39.2 0 4) &&& 31)))))))))))))
theorem mt_isPair {d n : Nat} {x1 : Int32} {J : zx_I} {L : zx_L} {p : Int32 × zx_I} (h : mf_isPair n x1 J = some p) : zx_M0 mm_X10_isPair (d + 2) 0 0 [.ref 0, .int x1] zw_SM J L zw_RM (zw_rz p.1 zw_SM p.2 L zw_RM) := by
  unfold mf_isPair at h
  refine zv_entry gd_X10_isPair (Nat.le_of_ble_eq_true rfl) ?_
  refine zv_run 9 (pc' := 13) (lo' := [some (.ref 0), some (.int x1), none]) (st' := [.int 44, .int ((J 2 16) - 1), .int 0, .ref 0]) (I' := J) (L' := L) (R' := zw_RM) rfl ?_
  obtain ⟨p13, e13, h⟩ := mo_b h
  refine zv_cVz (M' := mm_X10_isNumber) (ci := 10) (a := 0) (av := [.int 0, .int ((J 2 16) - 1), .int 44]) (st := []) (v := p13.1) (I' := p13.2) (L' := L) (R' := zw_RM) rfl zc_10_105 gd_X10_isNumber rfl rfl rfl (Nat.le_of_ble_eq_true rfl) (mt_isNumber (d := _) e13) ⟨Nat.le_refl _, Nat.le_refl _⟩ ?_
  intro b13
  refine zv_run 0 (pc' := 16) (lo' := [some (.ref 0), some (.int x1), none]) (st' := [.int p13.1]) (I' := p13.2) (L' := L) (R' := zw_RM) rfl ?_
  refine zv_if_ne (tgt := 21) (zs_at rfl) (by decide) (fun c16 => ?_) (fun c16 => ?_)
  · have h := mo_f h c16
    refine zv_run 12 (pc' := 39) (lo' := [some (.ref 0), some (.int x1), some (.int (p13.2 0 4))]) (st' := [.int 59, .int ((p13.2 2 16) - 1), .int 0, .ref 0]) (I' := p13.2) (L' := L) (R' := zw_RM) rfl ?_
    obtain ⟨p39, e39, h⟩ := mo_b h
    refine zv_cVz (M' := mm_X10_isNumber) (ci := 10) (a := 0) (av := [.int 0, .int ((p13.2 2 16) - 1), .int 59]) (st := []) (v := p39.1) (I' := p39.2) (L' := L) (R' := zw_RM) rfl zc_10_105 gd_X10_isNumber rfl rfl rfl (Nat.le_of_ble_eq_true rfl) (mt_isNumber (d := _) e39) ⟨Nat.le_refl _, Nat.le_refl _⟩ ?_
    intro b39
    refine zv_run 0 (pc' := 42) (lo' := [some (.ref 0), some (.int x1), some (.int (p13.2 0 4))]) (st' := [.int p39.1]) (I' := p39.2) (L' := L) (R' := zw_RM) rfl ?_
    refine zv_if_eq (tgt := 53) (zs_at rfl) (by decide) (fun c42 => ?_) (fun c42 => ?_)
    · have h := mo_t h c42
      refine zv_run 1 (pc' := 54) (lo' := [some (.ref 0), some (.int x1), some (.int (p13.2 0 4))]) (st' := [.int 0]) (I' := p39.2) (L' := L) (R' := zw_RM) rfl ?_
      obtain rfl := Option.some.inj h
      exact zv_zret (zs_at rfl) rfl (Or.inl rfl) ⟨Nat.le_refl _, Nat.le_refl _⟩ ⟨zw_here, (Or.inl rfl)⟩
    · have h := mo_f h c42
      refine zv_run 3 (pc' := 50) (lo' := [some (.ref 0), some (.int x1), some (.int (p13.2 0 4))]) (st' := [.int (p13.2 0 4), .int (p39.2 0 4)]) (I' := p39.2) (L' := L) (R' := zw_RM) rfl ?_
      refine zv_icmp_ne (tgt := 55) (zs_at rfl) (by decide) (fun c50 => ?_) (fun c50 => ?_)
      · have h := mo_f h c50
        refine zv_run 18 (pc' := 81) (lo' := [some (.ref 0), some (.int x1), some (.int (p13.2 0 4))]) (st' := [.int ((17 + (8 * (p13.2 0 4))) + x1), .ref 2, .int ((17 + (8 * (p13.2 0 4))) + x1), .ref 2]) (I' := p39.2) (L' := L) (R' := zw_RM) rfl ?_
        obtain ⟨g81, h⟩ := mo_gs h
        refine zv_iald (zs_at rfl) rfl (mo_in_vp g81) ?_
        refine zv_run 0 (pc' := 82) (lo' := [some (.ref 0), some (.int x1), some (.int (p13.2 0 4))]) (st' := [.int (p39.2 2 (((17 + (8 * (p13.2 0 4))) + x1).toNatClampNeg)), .int ((17 + (8 * (p13.2 0 4))) + x1), .ref 2]) (I' := p39.2) (L' := L) (R' := zw_RM) rfl ?_
        refine zv_run 5 (pc' := 89) (lo' := [some (.ref 0), some (.int x1), some (.int (p13.2 0 4))]) (st' := [.int ((p39.2 2 (((17 + (8 * (p13.2 0 4))) + x1).toNatClampNeg)) ||| (1 <<< ((p39.2 0 4) &&& 31))), .int ((17 + (8 * (p13.2 0 4))) + x1), .ref 2]) (I' := p39.2) (L' := L) (R' := zw_RM) rfl ?_
        obtain ⟨g89, h⟩ := mo_gs h
        refine zv_iast (zs_at rfl) rfl (mo_in_vp g89) ?_
        refine zv_run 1 (pc' := 91) (lo' := [some (.ref 0), some (.int x1), some (.int (p13.2 0 4))]) (st' := [.int 1]) (I' := (zx_uI p39.2 2 (((17 + (8 * (p13.2 0 4))) + x1).toNatClampNeg) ((p39.2 2 (((17 + (8 * (p13.2 0 4))) + x1).toNatClampNeg)) ||| (1 <<< ((p39.2 0 4) &&& 31))))) (L' := L) (R' := zw_RM) rfl ?_
        obtain rfl := Option.some.inj h
        exact zv_zret (zs_at rfl) rfl (Or.inr rfl) ⟨Nat.le_refl _, Nat.le_refl _⟩ ⟨zw_here, (Or.inr rfl)⟩
      · have h := mo_t h c50
        refine zv_run 1 (pc' := 54) (lo' := [some (.ref 0), some (.int x1), some (.int (p13.2 0 4))]) (st' := [.int 0]) (I' := p39.2) (L' := L) (R' := zw_RM) rfl ?_
        obtain rfl := Option.some.inj h
        exact zv_zret (zs_at rfl) rfl (Or.inl rfl) ⟨Nat.le_refl _, Nat.le_refl _⟩ ⟨zw_here, (Or.inl rfl)⟩
  · have h := mo_t h c16
    refine zv_run 1 (pc' := 20) (lo' := [some (.ref 0), some (.int x1), none]) (st' := [.int 0]) (I' := p13.2) (L' := L) (R' := zw_RM) rfl ?_
    obtain rfl := Option.some.inj h
    exact zv_zret (zs_at rfl) rfl (Or.inl rfl) ⟨Nat.le_refl _, Nat.le_refl _⟩ ⟨zw_here, (Or.inl rfl)⟩
def mf_isFire (n : Nat) (J : zx_I) : Option (Int32 × zx_I) := ((mf_isNumber n (1 : Int32) (3 : Int32) (44 : Int32) J).bind fun p5 => (if p5.1 = 0 then some ((0 : Int32), p5.2) else ((mf_isPut n (5 + (2 * ((p5.2 0 4) - 1))) (0 : Int32) (9999 : Int32) (44 : Int32) p5.2).bind fun p32 => (if p32.1 = 0 then some ((0 : Int32), p32.2) else ((mf_isPut n ((5 + (2 * ((p5.2 0 4) - 1))) + 1) (1 : Int32) (30 : Int32) (59 : Int32) p32.2).bind fun p47 => (if p47.1 = 0 then some ((0 : Int32), p47.2) else some ((1 : Int32), p47.2)))))))
theorem mt_isFire {d n : Nat} {J : zx_I} {L : zx_L} {p : Int32 × zx_I} (h : mf_isFire n J = some p) : zx_M0 mm_X10_isFire (d + 3) 0 0 [.ref 0] zw_SM J L zw_RM (zw_rz p.1 zw_SM p.2 L zw_RM) := by
  unfold mf_isFire at h
  refine zv_entry gd_X10_isFire (Nat.le_of_ble_eq_true rfl) ?_
  refine zv_run 4 (pc' := 5) (lo' := [some (.ref 0), none]) (st' := [.int 44, .int 3, .int 1, .ref 0]) (I' := J) (L' := L) (R' := zw_RM) rfl ?_
  obtain ⟨p5, e5, h⟩ := mo_b h
  refine zv_cVz (M' := mm_X10_isNumber) (ci := 10) (a := 0) (av := [.int 1, .int 3, .int 44]) (st := []) (v := p5.1) (I' := p5.2) (L' := L) (R' := zw_RM) rfl zc_10_105 gd_X10_isNumber rfl rfl rfl (Nat.le_of_ble_eq_true rfl) (mt_isNumber (d := _) e5) ⟨Nat.le_refl _, Nat.le_refl _⟩ ?_
  intro b5
  refine zv_run 0 (pc' := 8) (lo' := [some (.ref 0), none]) (st' := [.int p5.1]) (I' := p5.2) (L' := L) (R' := zw_RM) rfl ?_
  refine zv_if_ne (tgt := 13) (zs_at rfl) (by decide) (fun c8 => ?_) (fun c8 => ?_)
  · have h := mo_f h c8
    refine zv_run 14 (pc' := 32) (lo' := [some (.ref 0), some (.int (5 + (2 * ((p5.2 0 4) - 1))))]) (st' := [.int 44, .int 9999, .int 0, .int (5 + (2 * ((p5.2 0 4) - 1))), .ref 0]) (I' := p5.2) (L' := L) (R' := zw_RM) rfl ?_
    obtain ⟨p32, e32, h⟩ := mo_b h
    refine zv_cVz (M' := mm_X10_isPut) (ci := 10) (a := 0) (av := [.int (5 + (2 * ((p5.2 0 4) - 1))), .int 0, .int 9999, .int 44]) (st := []) (v := p32.1) (I' := p32.2) (L' := L) (R' := zw_RM) rfl zc_10_108 gd_X10_isPut rfl rfl rfl (Nat.le_of_ble_eq_true rfl) (mt_isPut (d := _) e32) ⟨Nat.le_refl _, Nat.le_refl _⟩ ?_
    intro b32
    refine zv_run 0 (pc' := 35) (lo' := [some (.ref 0), some (.int (5 + (2 * ((p5.2 0 4) - 1))))]) (st' := [.int p32.1]) (I' := p32.2) (L' := L) (R' := zw_RM) rfl ?_
    refine zv_if_eq (tgt := 57) (zs_at rfl) (by decide) (fun c35 => ?_) (fun c35 => ?_)
    · have h := mo_t h c35
      refine zv_run 1 (pc' := 58) (lo' := [some (.ref 0), some (.int (5 + (2 * ((p5.2 0 4) - 1))))]) (st' := [.int 0]) (I' := p32.2) (L' := L) (R' := zw_RM) rfl ?_
      obtain rfl := Option.some.inj h
      exact zv_zret (zs_at rfl) rfl (Or.inl rfl) ⟨Nat.le_refl _, Nat.le_refl _⟩ ⟨zw_here, (Or.inl rfl)⟩
    · have h := mo_f h c35
      refine zv_run 7 (pc' := 47) (lo' := [some (.ref 0), some (.int (5 + (2 * ((p5.2 0 4) - 1))))]) (st' := [.int 59, .int 30, .int 1, .int ((5 + (2 * ((p5.2 0 4) - 1))) + 1), .ref 0]) (I' := p32.2) (L' := L) (R' := zw_RM) rfl ?_
      obtain ⟨p47, e47, h⟩ := mo_b h
      refine zv_cVz (M' := mm_X10_isPut) (ci := 10) (a := 0) (av := [.int ((5 + (2 * ((p5.2 0 4) - 1))) + 1), .int 1, .int 30, .int 59]) (st := []) (v := p47.1) (I' := p47.2) (L' := L) (R' := zw_RM) rfl zc_10_108 gd_X10_isPut rfl rfl rfl (Nat.le_of_ble_eq_true rfl) (mt_isPut (d := _) e47) ⟨Nat.le_refl _, Nat.le_refl _⟩ ?_
      intro b47
      refine zv_run 0 (pc' := 50) (lo' := [some (.ref 0), some (.int (5 + (2 * ((p5.2 0 4) - 1))))]) (st' := [.int p47.1]) (I' := p47.2) (L' := L) (R' := zw_RM) rfl ?_
      refine zv_if_eq (tgt := 57) (zs_at rfl) (by decide) (fun c50 => ?_) (fun c50 => ?_)
      · have h := mo_t h c50
        refine zv_run 1 (pc' := 58) (lo' := [some (.ref 0), some (.int (5 + (2 * ((p5.2 0 4) - 1))))]) (st' := [.int 0]) (I' := p47.2) (L' := L) (R' := zw_RM) rfl ?_
        obtain rfl := Option.some.inj h
        exact zv_zret (zs_at rfl) rfl (Or.inl rfl) ⟨Nat.le_refl _, Nat.le_refl _⟩ ⟨zw_here, (Or.inl rfl)⟩
      · have h := mo_f h c50
        refine zv_run 2 (pc' := 58) (lo' := [some (.ref 0), some (.int (5 + (2 * ((p5.2 0 4) - 1))))]) (st' := [.int 1]) (I' := p47.2) (L' := L) (R' := zw_RM) rfl ?_
        obtain rfl := Option.some.inj h
        exact zv_zret (zs_at rfl) rfl (Or.inr rfl) ⟨Nat.le_refl _, Nat.le_refl _⟩ ⟨zw_here, (Or.inr rfl)⟩
  · have h := mo_t h c8
    refine zv_run 1 (pc' := 12) (lo' := [some (.ref 0), none]) (st' := [.int 0]) (I' := p5.2) (L' := L) (R' := zw_RM) rfl ?_
    obtain rfl := Option.some.inj h
    exact zv_zret (zs_at rfl) rfl (Or.inl rfl) ⟨Nat.le_refl _, Nat.le_refl _⟩ ⟨zw_here, (Or.inl rfl)⟩
def mf_isItem (n : Nat) (x1 : Int32) (J : zx_I) : Option (Int32 × zx_I) := ((mf_byteNow J).bind fun p1 => (((if p1 = (116 : Int32) then some ((1 : Int32)) else some ((0 : Int32))) : Option (Int32)).bind fun v18 => (if v18 = x1 then (if p1.toInt = 97 then ((mf_isPair n (6 : Int32) (zx_uI J 0 2 ((J 0 2) + 1))).bind fun p230 => some (p230.1, p230.2)) else (if p1.toInt = 98 then ((mf_isBather n (zx_uI J 0 2 ((J 0 2) + 1))).bind fun p223 => some (p223.1, p223.2)) else (if p1.toInt = 99 then ((mf_isPut n (11 : Int32) (0 : Int32) (9 : Int32) (59 : Int32) (zx_uI J 0 2 ((J 0 2) + 1))).bind fun p218 => some (p218.1, p218.2)) else (if p1.toInt = 102 then ((mf_isFire n (zx_uI J 0 2 ((J 0 2) + 1))).bind fun p206 => some (p206.1, p206.2)) else (if p1.toInt = 107 then ((mf_isPut n (13 : Int32) (0 : Int32) (20 : Int32) (44 : Int32) (zx_uI J 0 2 ((J 0 2) + 1))).bind fun p261 => (if p261.1 = 0 then some ((0 : Int32), p261.2) else ((mf_isPut n (14 : Int32) (1 : Int32) (30 : Int32) (59 : Int32) p261.2).bind fun p275 => (if p275.1 = 0 then some ((0 : Int32), p275.2) else some ((1 : Int32), p275.2))))) else (if p1.toInt = 110 then ((mf_isPut n (15 : Int32) (1 : Int32) (60 : Int32) (59 : Int32) (zx_uI J 0 2 ((J 0 2) + 1))).bind fun p295 => some (p295.1, p295.2)) else (if p1.toInt = 113 then ((mf_isPut n (12 : Int32) (0 : Int32) (9 : Int32) (59 : Int32) (zx_uI J 0 2 ((J 0 2) + 1))).bind fun p249 => some (p249.1, p249.2)) else (if p1.toInt = 115 then ((mf_isPair n (7 : Int32) (zx_uI J 0 2 ((J 0 2) + 1))).bind fun p237 => some (p237.1, p237.2)) else (if p1.toInt = 116 then ((mf_isPut n (0 : Int32) (1 : Int32) (6 : Int32) (44 : Int32) (zx_uI J 0 2 ((J 0 2) + 1))).bind fun p135 => (if p135.1 = 0 then some ((0 : Int32), p135.2) else ((mf_isPut n (1 : Int32) (1 : Int32) (60 : Int32) (44 : Int32) p135.2).bind fun p148 => (if p148.1 = 0 then some ((0 : Int32), p148.2) else ((mf_isPut n (2 : Int32) (0 : Int32) (40 : Int32) (44 : Int32) p148.2).bind fun p161 => (if p161.1 = 0 then some ((0 : Int32), p161.2) else ((mf_isPut n (3 : Int32) (p161.2 2 2) (95 : Int32) (44 : Int32) p161.2).bind fun p179 => (if p179.1 = 0 then some ((0 : Int32), p179.2) else ((mf_isPut n (4 : Int32) (0 : Int32) (999 : Int32) (59 : Int32) p179.2).bind fun p193 => (if p193.1 = 0 then some ((0 : Int32), p193.2) else some ((1 : Int32), p193.2))))))))))) else some ((0 : Int32), (zx_uI J 0 2 ((J 0 2) + 1)))))))))))) else some ((0 : Int32), (zx_uI J 0 2 ((J 0 2) + 1))))))
theorem mt_isItem {d n : Nat} {x1 : Int32} {J : zx_I} {L : zx_L} {p : Int32 × zx_I} (h : mf_isItem n x1 J = some p) : zx_M0 mm_X10_isItem (d + 4) 0 0 [.ref 0, .int x1] zw_SM J L zw_RM (zw_rz p.1 zw_SM p.2 L zw_RM) := by
  unfold mf_isItem at h
  refine zv_entry gd_X10_isItem (Nat.le_of_ble_eq_true rfl) ?_
  refine zv_run 1 (pc' := 1) (lo' := [some (.ref 0), some (.int x1), none]) (st' := [.ref 0]) (I' := J) (L' := L) (R' := zw_RM) rfl ?_
  obtain ⟨p1, e1, h⟩ := mo_b h
  refine zv_cV (M' := mm_X10_byteNow) (ci := 10) (a := 0) (av := []) (st := []) (r := some (.int p1)) (I' := J) (L' := L) (R' := zw_RM) rfl zc_10_101 gd_X10_byteNow rfl rfl rfl (Nat.le_of_ble_eq_true rfl) (mt_byteNow (d := _) e1) ⟨Nat.le_refl _, Nat.le_refl _⟩ ?_
  refine zv_run 0 (pc' := 4) (lo' := [some (.ref 0), some (.int x1), none]) (st' := [.int p1]) (I' := J) (L' := L) (R' := zw_RM) rfl ?_
  refine zv_run 9 (pc' := 18) (lo' := [some (.ref 0), some (.int x1), some (.int p1)]) (st' := [.int 116, .int p1]) (I' := (zx_uI J 0 2 ((J 0 2) + 1))) (L' := L) (R' := zw_RM) rfl ?_
  obtain ⟨v18, e18, h⟩ := mo_b h
  have k18 : (v18 = 0 ∨ v18 = 1) → zx_V mm_X10_isItem (d + 4) z0 (zw_rz p.1 zw_SM p.2 L zw_RM) zw_SM 26 [some (.ref 0), some (.int x1), some (.int p1)] [.int v18] (zx_uI J 0 2 ((J 0 2) + 1)) L zw_RM := by
    intro b18_0
    clear e18
    refine zv_run 1 (pc' := 27) (lo' := [some (.ref 0), some (.int x1), some (.int p1)]) (st' := [.int x1, .int v18]) (I' := (zx_uI J 0 2 ((J 0 2) + 1))) (L' := L) (R' := zw_RM) rfl ?_
    refine zv_icmp_eq (tgt := 32) (zs_at rfl) (by decide) (fun c27 => ?_) (fun c27 => ?_)
    · have h := mo_t h c27
      refine zv_run 1 (pc' := 33) (lo' := [some (.ref 0), some (.int x1), some (.int p1)]) (st' := [.int p1]) (I' := (zx_uI J 0 2 ((J 0 2) + 1))) (L' := L) (R' := zw_RM) rfl ?_
      by_cases t33_97 : p1.toInt = 97
      · have h := mo_t h t33_97
        refine zv_tableIn (off := 194) (tgt := 227) (zs_at rfl) (by omega) (by omega) (by rw [t33_97]; rfl) rfl ?_
        refine zv_run 2 (pc' := 230) (lo' := [some (.ref 0), some (.int x1), some (.int p1)]) (st' := [.int 6, .ref 0]) (I' := (zx_uI J 0 2 ((J 0 2) + 1))) (L' := L) (R' := zw_RM) rfl ?_
        obtain ⟨p230, e230, h⟩ := mo_b h
        refine zv_cVz (M' := mm_X10_isPair) (ci := 10) (a := 0) (av := [.int 6]) (st := []) (v := p230.1) (I' := p230.2) (L' := L) (R' := zw_RM) rfl zc_10_119 gd_X10_isPair rfl rfl rfl (Nat.le_of_ble_eq_true rfl) (mt_isPair (d := _) e230) ⟨Nat.le_refl _, Nat.le_refl _⟩ ?_
        intro b230
        refine zv_run 0 (pc' := 233) (lo' := [some (.ref 0), some (.int x1), some (.int p1)]) (st' := [.int p230.1]) (I' := p230.2) (L' := L) (R' := zw_RM) rfl ?_
        obtain rfl := Option.some.inj h
        exact zv_zret (zs_at rfl) rfl b230 ⟨Nat.le_refl _, Nat.le_refl _⟩ ⟨zw_here, b230⟩
      have h := mo_f h t33_97
      by_cases t33_98 : p1.toInt = 98
      · have h := mo_t h t33_98
        refine zv_tableIn (off := 189) (tgt := 222) (zs_at rfl) (by omega) (by omega) (by rw [t33_98]; rfl) rfl ?_
        refine zv_run 1 (pc' := 223) (lo' := [some (.ref 0), some (.int x1), some (.int p1)]) (st' := [.ref 0]) (I' := (zx_uI J 0 2 ((J 0 2) + 1))) (L' := L) (R' := zw_RM) rfl ?_
        obtain ⟨p223, e223, h⟩ := mo_b h
        refine zv_cVz (M' := mm_X10_isBather) (ci := 10) (a := 0) (av := []) (st := []) (v := p223.1) (I' := p223.2) (L' := L) (R' := zw_RM) rfl zc_10_116 gd_X10_isBather rfl rfl rfl (Nat.le_of_ble_eq_true rfl) (mt_isBather (d := _) e223) ⟨Nat.le_refl _, Nat.le_refl _⟩ ?_
        intro b223
        refine zv_run 0 (pc' := 226) (lo' := [some (.ref 0), some (.int x1), some (.int p1)]) (st' := [.int p223.1]) (I' := p223.2) (L' := L) (R' := zw_RM) rfl ?_
        obtain rfl := Option.some.inj h
        exact zv_zret (zs_at rfl) rfl b223 ⟨Nat.le_refl _, Nat.le_refl _⟩ ⟨zw_here, b223⟩
      have h := mo_f h t33_98
      by_cases t33_99 : p1.toInt = 99
      · have h := mo_t h t33_99
        refine zv_tableIn (off := 177) (tgt := 210) (zs_at rfl) (by omega) (by omega) (by rw [t33_99]; rfl) rfl ?_
        refine zv_run 5 (pc' := 218) (lo' := [some (.ref 0), some (.int x1), some (.int p1)]) (st' := [.int 59, .int 9, .int 0, .int 11, .ref 0]) (I' := (zx_uI J 0 2 ((J 0 2) + 1))) (L' := L) (R' := zw_RM) rfl ?_
        obtain ⟨p218, e218, h⟩ := mo_b h
        refine zv_cVz (M' := mm_X10_isPut) (ci := 10) (a := 0) (av := [.int 11, .int 0, .int 9, .int 59]) (st := []) (v := p218.1) (I' := p218.2) (L' := L) (R' := zw_RM) rfl zc_10_108 gd_X10_isPut rfl rfl rfl (Nat.le_of_ble_eq_true rfl) (mt_isPut (d := _) e218) ⟨Nat.le_refl _, Nat.le_refl _⟩ ?_
        intro b218
        refine zv_run 0 (pc' := 221) (lo' := [some (.ref 0), some (.int x1), some (.int p1)]) (st' := [.int p218.1]) (I' := p218.2) (L' := L) (R' := zw_RM) rfl ?_
        obtain rfl := Option.some.inj h
        exact zv_zret (zs_at rfl) rfl b218 ⟨Nat.le_refl _, Nat.le_refl _⟩ ⟨zw_here, b218⟩
      have h := mo_f h t33_99
      by_cases t33_102 : p1.toInt = 102
      · have h := mo_t h t33_102
        refine zv_tableIn (off := 172) (tgt := 205) (zs_at rfl) (by omega) (by omega) (by rw [t33_102]; rfl) rfl ?_
        refine zv_run 1 (pc' := 206) (lo' := [some (.ref 0), some (.int x1), some (.int p1)]) (st' := [.ref 0]) (I' := (zx_uI J 0 2 ((J 0 2) + 1))) (L' := L) (R' := zw_RM) rfl ?_
        obtain ⟨p206, e206, h⟩ := mo_b h
        refine zv_cVz (M' := mm_X10_isFire) (ci := 10) (a := 0) (av := []) (st := []) (v := p206.1) (I' := p206.2) (L' := L) (R' := zw_RM) rfl zc_10_112 gd_X10_isFire rfl rfl rfl (Nat.le_of_ble_eq_true rfl) (mt_isFire (d := _) e206) ⟨Nat.le_refl _, Nat.le_refl _⟩ ?_
        intro b206
        refine zv_run 0 (pc' := 209) (lo' := [some (.ref 0), some (.int x1), some (.int p1)]) (st' := [.int p206.1]) (I' := p206.2) (L' := L) (R' := zw_RM) rfl ?_
        obtain rfl := Option.some.inj h
        exact zv_zret (zs_at rfl) rfl b206 ⟨Nat.le_refl _, Nat.le_refl _⟩ ⟨zw_here, b206⟩
      have h := mo_f h t33_102
      by_cases t33_107 : p1.toInt = 107
      · have h := mo_t h t33_107
        refine zv_tableIn (off := 220) (tgt := 253) (zs_at rfl) (by omega) (by omega) (by rw [t33_107]; rfl) rfl ?_
        refine zv_run 5 (pc' := 261) (lo' := [some (.ref 0), some (.int x1), some (.int p1)]) (st' := [.int 44, .int 20, .int 0, .int 13, .ref 0]) (I' := (zx_uI J 0 2 ((J 0 2) + 1))) (L' := L) (R' := zw_RM) rfl ?_
        obtain ⟨p261, e261, h⟩ := mo_b h
        refine zv_cVz (M' := mm_X10_isPut) (ci := 10) (a := 0) (av := [.int 13, .int 0, .int 20, .int 44]) (st := []) (v := p261.1) (I' := p261.2) (L' := L) (R' := zw_RM) rfl zc_10_108 gd_X10_isPut rfl rfl rfl (Nat.le_of_ble_eq_true rfl) (mt_isPut (d := _) e261) ⟨Nat.le_refl _, Nat.le_refl _⟩ ?_
        intro b261
        refine zv_run 0 (pc' := 264) (lo' := [some (.ref 0), some (.int x1), some (.int p1)]) (st' := [.int p261.1]) (I' := p261.2) (L' := L) (R' := zw_RM) rfl ?_
        refine zv_if_eq (tgt := 285) (zs_at rfl) (by decide) (fun c264 => ?_) (fun c264 => ?_)
        · have h := mo_t h c264
          refine zv_run 1 (pc' := 286) (lo' := [some (.ref 0), some (.int x1), some (.int p1)]) (st' := [.int 0]) (I' := p261.2) (L' := L) (R' := zw_RM) rfl ?_
          obtain rfl := Option.some.inj h
          exact zv_zret (zs_at rfl) rfl (Or.inl rfl) ⟨Nat.le_refl _, Nat.le_refl _⟩ ⟨zw_here, (Or.inl rfl)⟩
        · have h := mo_f h c264
          refine zv_run 5 (pc' := 275) (lo' := [some (.ref 0), some (.int x1), some (.int p1)]) (st' := [.int 59, .int 30, .int 1, .int 14, .ref 0]) (I' := p261.2) (L' := L) (R' := zw_RM) rfl ?_
          obtain ⟨p275, e275, h⟩ := mo_b h
          refine zv_cVz (M' := mm_X10_isPut) (ci := 10) (a := 0) (av := [.int 14, .int 1, .int 30, .int 59]) (st := []) (v := p275.1) (I' := p275.2) (L' := L) (R' := zw_RM) rfl zc_10_108 gd_X10_isPut rfl rfl rfl (Nat.le_of_ble_eq_true rfl) (mt_isPut (d := _) e275) ⟨Nat.le_refl _, Nat.le_refl _⟩ ?_
          intro b275
          refine zv_run 0 (pc' := 278) (lo' := [some (.ref 0), some (.int x1), some (.int p1)]) (st' := [.int p275.1]) (I' := p275.2) (L' := L) (R' := zw_RM) rfl ?_
          refine zv_if_eq (tgt := 285) (zs_at rfl) (by decide) (fun c278 => ?_) (fun c278 => ?_)
          · have h := mo_t h c278
            refine zv_run 1 (pc' := 286) (lo' := [some (.ref 0), some (.int x1), some (.int p1)]) (st' := [.int 0]) (I' := p275.2) (L' := L) (R' := zw_RM) rfl ?_
            obtain rfl := Option.some.inj h
            exact zv_zret (zs_at rfl) rfl (Or.inl rfl) ⟨Nat.le_refl _, Nat.le_refl _⟩ ⟨zw_here, (Or.inl rfl)⟩
          · have h := mo_f h c278
            refine zv_run 2 (pc' := 286) (lo' := [some (.ref 0), some (.int x1), some (.int p1)]) (st' := [.int 1]) (I' := p275.2) (L' := L) (R' := zw_RM) rfl ?_
            obtain rfl := Option.some.inj h
            exact zv_zret (zs_at rfl) rfl (Or.inr rfl) ⟨Nat.le_refl _, Nat.le_refl _⟩ ⟨zw_here, (Or.inr rfl)⟩
      have h := mo_f h t33_107
      by_cases t33_110 : p1.toInt = 110
      · have h := mo_t h t33_110
        refine zv_tableIn (off := 254) (tgt := 287) (zs_at rfl) (by omega) (by omega) (by rw [t33_110]; rfl) rfl ?_
        refine zv_run 5 (pc' := 295) (lo' := [some (.ref 0), some (.int x1), some (.int p1)]) (st' := [.int 59, .int 60, .int 1, .int 15, .ref 0]) (I' := (zx_uI J 0 2 ((J 0 2) + 1))) (L' := L) (R' := zw_RM) rfl ?_
        obtain ⟨p295, e295, h⟩ := mo_b h
        refine zv_cVz (M' := mm_X10_isPut) (ci := 10) (a := 0) (av := [.int 15, .int 1, .int 60, .int 59]) (st := []) (v := p295.1) (I' := p295.2) (L' := L) (R' := zw_RM) rfl zc_10_108 gd_X10_isPut rfl rfl rfl (Nat.le_of_ble_eq_true rfl) (mt_isPut (d := _) e295) ⟨Nat.le_refl _, Nat.le_refl _⟩ ?_
        intro b295
        refine zv_run 0 (pc' := 298) (lo' := [some (.ref 0), some (.int x1), some (.int p1)]) (st' := [.int p295.1]) (I' := p295.2) (L' := L) (R' := zw_RM) rfl ?_
        obtain rfl := Option.some.inj h
        exact zv_zret (zs_at rfl) rfl b295 ⟨Nat.le_refl _, Nat.le_refl _⟩ ⟨zw_here, b295⟩
      have h := mo_f h t33_110
      by_cases t33_113 : p1.toInt = 113
      · have h := mo_t h t33_113
        refine zv_tableIn (off := 208) (tgt := 241) (zs_at rfl) (by omega) (by omega) (by rw [t33_113]; rfl) rfl ?_
        refine zv_run 5 (pc' := 249) (lo' := [some (.ref 0), some (.int x1), some (.int p1)]) (st' := [.int 59, .int 9, .int 0, .int 12, .ref 0]) (I' := (zx_uI J 0 2 ((J 0 2) + 1))) (L' := L) (R' := zw_RM) rfl ?_
        obtain ⟨p249, e249, h⟩ := mo_b h
        refine zv_cVz (M' := mm_X10_isPut) (ci := 10) (a := 0) (av := [.int 12, .int 0, .int 9, .int 59]) (st := []) (v := p249.1) (I' := p249.2) (L' := L) (R' := zw_RM) rfl zc_10_108 gd_X10_isPut rfl rfl rfl (Nat.le_of_ble_eq_true rfl) (mt_isPut (d := _) e249) ⟨Nat.le_refl _, Nat.le_refl _⟩ ?_
        intro b249
        refine zv_run 0 (pc' := 252) (lo' := [some (.ref 0), some (.int x1), some (.int p1)]) (st' := [.int p249.1]) (I' := p249.2) (L' := L) (R' := zw_RM) rfl ?_
        obtain rfl := Option.some.inj h
        exact zv_zret (zs_at rfl) rfl b249 ⟨Nat.le_refl _, Nat.le_refl _⟩ ⟨zw_here, b249⟩
      have h := mo_f h t33_113
      by_cases t33_115 : p1.toInt = 115
      · have h := mo_t h t33_115
        refine zv_tableIn (off := 201) (tgt := 234) (zs_at rfl) (by omega) (by omega) (by rw [t33_115]; rfl) rfl ?_
        refine zv_run 2 (pc' := 237) (lo' := [some (.ref 0), some (.int x1), some (.int p1)]) (st' := [.int 7, .ref 0]) (I' := (zx_uI J 0 2 ((J 0 2) + 1))) (L' := L) (R' := zw_RM) rfl ?_
        obtain ⟨p237, e237, h⟩ := mo_b h
        refine zv_cVz (M' := mm_X10_isPair) (ci := 10) (a := 0) (av := [.int 7]) (st := []) (v := p237.1) (I' := p237.2) (L' := L) (R' := zw_RM) rfl zc_10_119 gd_X10_isPair rfl rfl rfl (Nat.le_of_ble_eq_true rfl) (mt_isPair (d := _) e237) ⟨Nat.le_refl _, Nat.le_refl _⟩ ?_
        intro b237
        refine zv_run 0 (pc' := 240) (lo' := [some (.ref 0), some (.int x1), some (.int p1)]) (st' := [.int p237.1]) (I' := p237.2) (L' := L) (R' := zw_RM) rfl ?_
        obtain rfl := Option.some.inj h
        exact zv_zret (zs_at rfl) rfl b237 ⟨Nat.le_refl _, Nat.le_refl _⟩ ⟨zw_here, b237⟩
      have h := mo_f h t33_115
      by_cases t33_116 : p1.toInt = 116
      · have h := mo_t h t33_116
        refine zv_tableIn (off := 95) (tgt := 128) (zs_at rfl) (by omega) (by omega) (by rw [t33_116]; rfl) rfl ?_
        refine zv_run 5 (pc' := 135) (lo' := [some (.ref 0), some (.int x1), some (.int p1)]) (st' := [.int 44, .int 6, .int 1, .int 0, .ref 0]) (I' := (zx_uI J 0 2 ((J 0 2) + 1))) (L' := L) (R' := zw_RM) rfl ?_
        obtain ⟨p135, e135, h⟩ := mo_b h
        refine zv_cVz (M' := mm_X10_isPut) (ci := 10) (a := 0) (av := [.int 0, .int 1, .int 6, .int 44]) (st := []) (v := p135.1) (I' := p135.2) (L' := L) (R' := zw_RM) rfl zc_10_108 gd_X10_isPut rfl rfl rfl (Nat.le_of_ble_eq_true rfl) (mt_isPut (d := _) e135) ⟨Nat.le_refl _, Nat.le_refl _⟩ ?_
        intro b135
        refine zv_run 0 (pc' := 138) (lo' := [some (.ref 0), some (.int x1), some (.int p1)]) (st' := [.int p135.1]) (I' := p135.2) (L' := L) (R' := zw_RM) rfl ?_
        refine zv_if_eq (tgt := 203) (zs_at rfl) (by decide) (fun c138 => ?_) (fun c138 => ?_)
        · have h := mo_t h c138
          refine zv_run 1 (pc' := 204) (lo' := [some (.ref 0), some (.int x1), some (.int p1)]) (st' := [.int 0]) (I' := p135.2) (L' := L) (R' := zw_RM) rfl ?_
          obtain rfl := Option.some.inj h
          exact zv_zret (zs_at rfl) rfl (Or.inl rfl) ⟨Nat.le_refl _, Nat.le_refl _⟩ ⟨zw_here, (Or.inl rfl)⟩
        · have h := mo_f h c138
          refine zv_run 5 (pc' := 148) (lo' := [some (.ref 0), some (.int x1), some (.int p1)]) (st' := [.int 44, .int 60, .int 1, .int 1, .ref 0]) (I' := p135.2) (L' := L) (R' := zw_RM) rfl ?_
          obtain ⟨p148, e148, h⟩ := mo_b h
          refine zv_cVz (M' := mm_X10_isPut) (ci := 10) (a := 0) (av := [.int 1, .int 1, .int 60, .int 44]) (st := []) (v := p148.1) (I' := p148.2) (L' := L) (R' := zw_RM) rfl zc_10_108 gd_X10_isPut rfl rfl rfl (Nat.le_of_ble_eq_true rfl) (mt_isPut (d := _) e148) ⟨Nat.le_refl _, Nat.le_refl _⟩ ?_
          intro b148
          refine zv_run 0 (pc' := 151) (lo' := [some (.ref 0), some (.int x1), some (.int p1)]) (st' := [.int p148.1]) (I' := p148.2) (L' := L) (R' := zw_RM) rfl ?_
          refine zv_if_eq (tgt := 203) (zs_at rfl) (by decide) (fun c151 => ?_) (fun c151 => ?_)
          · have h := mo_t h c151
            refine zv_run 1 (pc' := 204) (lo' := [some (.ref 0), some (.int x1), some (.int p1)]) (st' := [.int 0]) (I' := p148.2) (L' := L) (R' := zw_RM) rfl ?_
            obtain rfl := Option.some.inj h
            exact zv_zret (zs_at rfl) rfl (Or.inl rfl) ⟨Nat.le_refl _, Nat.le_refl _⟩ ⟨zw_here, (Or.inl rfl)⟩
          · have h := mo_f h c151
            refine zv_run 5 (pc' := 161) (lo' := [some (.ref 0), some (.int x1), some (.int p1)]) (st' := [.int 44, .int 40, .int 0, .int 2, .ref 0]) (I' := p148.2) (L' := L) (R' := zw_RM) rfl ?_
            obtain ⟨p161, e161, h⟩ := mo_b h
            refine zv_cVz (M' := mm_X10_isPut) (ci := 10) (a := 0) (av := [.int 2, .int 0, .int 40, .int 44]) (st := []) (v := p161.1) (I' := p161.2) (L' := L) (R' := zw_RM) rfl zc_10_108 gd_X10_isPut rfl rfl rfl (Nat.le_of_ble_eq_true rfl) (mt_isPut (d := _) e161) ⟨Nat.le_refl _, Nat.le_refl _⟩ ?_
            intro b161
            refine zv_run 0 (pc' := 164) (lo' := [some (.ref 0), some (.int x1), some (.int p1)]) (st' := [.int p161.1]) (I' := p161.2) (L' := L) (R' := zw_RM) rfl ?_
            refine zv_if_eq (tgt := 203) (zs_at rfl) (by decide) (fun c164 => ?_) (fun c164 => ?_)
            · have h := mo_t h c164
              refine zv_run 1 (pc' := 204) (lo' := [some (.ref 0), some (.int x1), some (.int p1)]) (st' := [.int 0]) (I' := p161.2) (L' := L) (R' := zw_RM) rfl ?_
              obtain rfl := Option.some.inj h
              exact zv_zret (zs_at rfl) rfl (Or.inl rfl) ⟨Nat.le_refl _, Nat.le_refl _⟩ ⟨zw_here, (Or.inl rfl)⟩
            · have h := mo_f h c164
              refine zv_run 8 (pc' := 179) (lo' := [some (.ref 0), some (.int x1), some (.int p1)]) (st' := [.int 44, .int 95, .int (p161.2 2 2), .int 3, .ref 0]) (I' := p161.2) (L' := L) (R' := zw_RM) rfl ?_
              obtain ⟨p179, e179, h⟩ := mo_b h
              refine zv_cVz (M' := mm_X10_isPut) (ci := 10) (a := 0) (av := [.int 3, .int (p161.2 2 2), .int 95, .int 44]) (st := []) (v := p179.1) (I' := p179.2) (L' := L) (R' := zw_RM) rfl zc_10_108 gd_X10_isPut rfl rfl rfl (Nat.le_of_ble_eq_true rfl) (mt_isPut (d := _) e179) ⟨Nat.le_refl _, Nat.le_refl _⟩ ?_
              intro b179
              refine zv_run 0 (pc' := 182) (lo' := [some (.ref 0), some (.int x1), some (.int p1)]) (st' := [.int p179.1]) (I' := p179.2) (L' := L) (R' := zw_RM) rfl ?_
              refine zv_if_eq (tgt := 203) (zs_at rfl) (by decide) (fun c182 => ?_) (fun c182 => ?_)
              · have h := mo_t h c182
                refine zv_run 1 (pc' := 204) (lo' := [some (.ref 0), some (.int x1), some (.int p1)]) (st' := [.int 0]) (I' := p179.2) (L' := L) (R' := zw_RM) rfl ?_
                obtain rfl := Option.some.inj h
                exact zv_zret (zs_at rfl) rfl (Or.inl rfl) ⟨Nat.le_refl _, Nat.le_refl _⟩ ⟨zw_here, (Or.inl rfl)⟩
              · have h := mo_f h c182
                refine zv_run 5 (pc' := 193) (lo' := [some (.ref 0), some (.int x1), some (.int p1)]) (st' := [.int 59, .int 999, .int 0, .int 4, .ref 0]) (I' := p179.2) (L' := L) (R' := zw_RM) rfl ?_
                obtain ⟨p193, e193, h⟩ := mo_b h
                refine zv_cVz (M' := mm_X10_isPut) (ci := 10) (a := 0) (av := [.int 4, .int 0, .int 999, .int 59]) (st := []) (v := p193.1) (I' := p193.2) (L' := L) (R' := zw_RM) rfl zc_10_108 gd_X10_isPut rfl rfl rfl (Nat.le_of_ble_eq_true rfl) (mt_isPut (d := _) e193) ⟨Nat.le_refl _, Nat.le_refl _⟩ ?_
                intro b193
                refine zv_run 0 (pc' := 196) (lo' := [some (.ref 0), some (.int x1), some (.int p1)]) (st' := [.int p193.1]) (I' := p193.2) (L' := L) (R' := zw_RM) rfl ?_
                refine zv_if_eq (tgt := 203) (zs_at rfl) (by decide) (fun c196 => ?_) (fun c196 => ?_)
                · have h := mo_t h c196
                  refine zv_run 1 (pc' := 204) (lo' := [some (.ref 0), some (.int x1), some (.int p1)]) (st' := [.int 0]) (I' := p193.2) (L' := L) (R' := zw_RM) rfl ?_
                  obtain rfl := Option.some.inj h
                  exact zv_zret (zs_at rfl) rfl (Or.inl rfl) ⟨Nat.le_refl _, Nat.le_refl _⟩ ⟨zw_here, (Or.inl rfl)⟩
                · have h := mo_f h c196
                  refine zv_run 2 (pc' := 204) (lo' := [some (.ref 0), some (.int x1), some (.int p1)]) (st' := [.int 1]) (I' := p193.2) (L' := L) (R' := zw_RM) rfl ?_
                  obtain rfl := Option.some.inj h
                  exact zv_zret (zs_at rfl) rfl (Or.inr rfl) ⟨Nat.le_refl _, Nat.le_refl _⟩ ⟨zw_here, (Or.inr rfl)⟩
      have h := mo_f h t33_116
      by_cases t33o : p1.toInt < 97 ∨ 116 < p1.toInt
      · refine zv_tableOut (tgt := 299) (zs_at rfl) t33o rfl ?_
        refine zv_run 1 (pc' := 300) (lo' := [some (.ref 0), some (.int x1), some (.int p1)]) (st' := [.int 0]) (I' := (zx_uI J 0 2 ((J 0 2) + 1))) (L' := L) (R' := zw_RM) rfl ?_
        obtain rfl := Option.some.inj h
        exact zv_zret (zs_at rfl) rfl (Or.inl rfl) ⟨Nat.le_refl _, Nat.le_refl _⟩ ⟨zw_here, (Or.inl rfl)⟩
      · rcases (show p1.toInt = 100 ∨ p1.toInt = 101 ∨ p1.toInt = 103 ∨ p1.toInt = 104 ∨ p1.toInt = 105 ∨ p1.toInt = 106 ∨ p1.toInt = 108 ∨ p1.toInt = 109 ∨ p1.toInt = 111 ∨ p1.toInt = 112 ∨ p1.toInt = 114 from by omega) with t33e | t33e | t33e | t33e | t33e | t33e | t33e | t33e | t33e | t33e | t33e
        · refine zv_tableIn (off := 266) (tgt := 299) (zs_at rfl) (by omega) (by omega) (by rw [t33e]; rfl) rfl ?_
          refine zv_run 1 (pc' := 300) (lo' := [some (.ref 0), some (.int x1), some (.int p1)]) (st' := [.int 0]) (I' := (zx_uI J 0 2 ((J 0 2) + 1))) (L' := L) (R' := zw_RM) rfl ?_
          obtain rfl := Option.some.inj h
          exact zv_zret (zs_at rfl) rfl (Or.inl rfl) ⟨Nat.le_refl _, Nat.le_refl _⟩ ⟨zw_here, (Or.inl rfl)⟩
        · refine zv_tableIn (off := 266) (tgt := 299) (zs_at rfl) (by omega) (by omega) (by rw [t33e]; rfl) rfl ?_
          refine zv_run 1 (pc' := 300) (lo' := [some (.ref 0), some (.int x1), some (.int p1)]) (st' := [.int 0]) (I' := (zx_uI J 0 2 ((J 0 2) + 1))) (L' := L) (R' := zw_RM) rfl ?_
          obtain rfl := Option.some.inj h
          exact zv_zret (zs_at rfl) rfl (Or.inl rfl) ⟨Nat.le_refl _, Nat.le_refl _⟩ ⟨zw_here, (Or.inl rfl)⟩
        · refine zv_tableIn (off := 266) (tgt := 299) (zs_at rfl) (by omega) (by omega) (by rw [t33e]; rfl) rfl ?_
          refine zv_run 1 (pc' := 300) (lo' := [some (.ref 0), some (.int x1), some (.int p1)]) (st' := [.int 0]) (I' := (zx_uI J 0 2 ((J 0 2) + 1))) (L' := L) (R' := zw_RM) rfl ?_
          obtain rfl := Option.some.inj h
          exact zv_zret (zs_at rfl) rfl (Or.inl rfl) ⟨Nat.le_refl _, Nat.le_refl _⟩ ⟨zw_here, (Or.inl rfl)⟩
        · refine zv_tableIn (off := 266) (tgt := 299) (zs_at rfl) (by omega) (by omega) (by rw [t33e]; rfl) rfl ?_
          refine zv_run 1 (pc' := 300) (lo' := [some (.ref 0), some (.int x1), some (.int p1)]) (st' := [.int 0]) (I' := (zx_uI J 0 2 ((J 0 2) + 1))) (L' := L) (R' := zw_RM) rfl ?_
          obtain rfl := Option.some.inj h
          exact zv_zret (zs_at rfl) rfl (Or.inl rfl) ⟨Nat.le_refl _, Nat.le_refl _⟩ ⟨zw_here, (Or.inl rfl)⟩
        · refine zv_tableIn (off := 266) (tgt := 299) (zs_at rfl) (by omega) (by omega) (by rw [t33e]; rfl) rfl ?_
          refine zv_run 1 (pc' := 300) (lo' := [some (.ref 0), some (.int x1), some (.int p1)]) (st' := [.int 0]) (I' := (zx_uI J 0 2 ((J 0 2) + 1))) (L' := L) (R' := zw_RM) rfl ?_
          obtain rfl := Option.some.inj h
          exact zv_zret (zs_at rfl) rfl (Or.inl rfl) ⟨Nat.le_refl _, Nat.le_refl _⟩ ⟨zw_here, (Or.inl rfl)⟩
        · refine zv_tableIn (off := 266) (tgt := 299) (zs_at rfl) (by omega) (by omega) (by rw [t33e]; rfl) rfl ?_
          refine zv_run 1 (pc' := 300) (lo' := [some (.ref 0), some (.int x1), some (.int p1)]) (st' := [.int 0]) (I' := (zx_uI J 0 2 ((J 0 2) + 1))) (L' := L) (R' := zw_RM) rfl ?_
          obtain rfl := Option.some.inj h
          exact zv_zret (zs_at rfl) rfl (Or.inl rfl) ⟨Nat.le_refl _, Nat.le_refl _⟩ ⟨zw_here, (Or.inl rfl)⟩
        · refine zv_tableIn (off := 266) (tgt := 299) (zs_at rfl) (by omega) (by omega) (by rw [t33e]; rfl) rfl ?_
          refine zv_run 1 (pc' := 300) (lo' := [some (.ref 0), some (.int x1), some (.int p1)]) (st' := [.int 0]) (I' := (zx_uI J 0 2 ((J 0 2) + 1))) (L' := L) (R' := zw_RM) rfl ?_
          obtain rfl := Option.some.inj h
          exact zv_zret (zs_at rfl) rfl (Or.inl rfl) ⟨Nat.le_refl _, Nat.le_refl _⟩ ⟨zw_here, (Or.inl rfl)⟩
        · refine zv_tableIn (off := 266) (tgt := 299) (zs_at rfl) (by omega) (by omega) (by rw [t33e]; rfl) rfl ?_
          refine zv_run 1 (pc' := 300) (lo' := [some (.ref 0), some (.int x1), some (.int p1)]) (st' := [.int 0]) (I' := (zx_uI J 0 2 ((J 0 2) + 1))) (L' := L) (R' := zw_RM) rfl ?_
          obtain rfl := Option.some.inj h
          exact zv_zret (zs_at rfl) rfl (Or.inl rfl) ⟨Nat.le_refl _, Nat.le_refl _⟩ ⟨zw_here, (Or.inl rfl)⟩
        · refine zv_tableIn (off := 266) (tgt := 299) (zs_at rfl) (by omega) (by omega) (by rw [t33e]; rfl) rfl ?_
          refine zv_run 1 (pc' := 300) (lo' := [some (.ref 0), some (.int x1), some (.int p1)]) (st' := [.int 0]) (I' := (zx_uI J 0 2 ((J 0 2) + 1))) (L' := L) (R' := zw_RM) rfl ?_
          obtain rfl := Option.some.inj h
          exact zv_zret (zs_at rfl) rfl (Or.inl rfl) ⟨Nat.le_refl _, Nat.le_refl _⟩ ⟨zw_here, (Or.inl rfl)⟩
        · refine zv_tableIn (off := 266) (tgt := 299) (zs_at rfl) (by omega) (by omega) (by rw [t33e]; rfl) rfl ?_
          refine zv_run 1 (pc' := 300) (lo' := [some (.ref 0), some (.int x1), some (.int p1)]) (st' := [.int 0]) (I' := (zx_uI J 0 2 ((J 0 2) + 1))) (L' := L) (R' := zw_RM) rfl ?_
          obtain rfl := Option.some.inj h
          exact zv_zret (zs_at rfl) rfl (Or.inl rfl) ⟨Nat.le_refl _, Nat.le_refl _⟩ ⟨zw_here, (Or.inl rfl)⟩
        · refine zv_tableIn (off := 266) (tgt := 299) (zs_at rfl) (by omega) (by omega) (by rw [t33e]; rfl) rfl ?_
          refine zv_run 1 (pc' := 300) (lo' := [some (.ref 0), some (.int x1), some (.int p1)]) (st' := [.int 0]) (I' := (zx_uI J 0 2 ((J 0 2) + 1))) (L' := L) (R' := zw_RM) rfl ?_
          obtain rfl := Option.some.inj h
          exact zv_zret (zs_at rfl) rfl (Or.inl rfl) ⟨Nat.le_refl _, Nat.le_refl _⟩ ⟨zw_here, (Or.inl rfl)⟩
    · have h := mo_f h c27
      refine zv_run 1 (pc' := 31) (lo' := [some (.ref 0), some (.int x1), some (.int p1)]) (st' := [.int 0]) (I' := (zx_uI J 0 2 ((J 0 2) + 1))) (L' := L) (R' := zw_RM) rfl ?_
      obtain rfl := Option.some.inj h
      exact zv_zret (zs_at rfl) rfl (Or.inl rfl) ⟨Nat.le_refl _, Nat.le_refl _⟩ ⟨zw_here, (Or.inl rfl)⟩
  have h := e18
  refine zv_icmp_ne (tgt := 25) (zs_at rfl) (by decide) (fun c18 => ?_) (fun c18 => ?_)
  · have h := mo_f h c18
    refine zv_run 1 (pc' := 26) (lo' := [some (.ref 0), some (.int x1), some (.int p1)]) (st' := [.int 0]) (I' := (zx_uI J 0 2 ((J 0 2) + 1))) (L' := L) (R' := zw_RM) rfl ?_
    obtain rfl := Option.some.inj h
    exact k18 (Or.inl rfl)
  · have h := mo_t h c18
    refine zv_run 2 (pc' := 26) (lo' := [some (.ref 0), some (.int x1), some (.int p1)]) (st' := [.int 1]) (I' := (zx_uI J 0 2 ((J 0 2) + 1))) (L' := L) (R' := zw_RM) rfl ?_
    obtain rfl := Option.some.inj h
    exact k18 (Or.inr rfl)
def mf_isRead_19_b (n : Nat) (K : zx_I → Option (Int32 × zx_I)) (Z : Int32 → zx_I → Option (Int32 × zx_I)) (x1 : Int32) (J : zx_I) : Option (Int32 × zx_I) := (if (J 0 2) < (J 0 0) then ((mf_isItem n x1 (zx_uI J 0 3 (J 0 2))).bind fun p44 => (if p44.1 = 0 then some ((0 : Int32), p44.2) else Z (0 : Int32) p44.2)) else (if x1 = 0 then K J else ((mf_isItem n x1 (zx_uI J 0 3 (J 0 2))).bind fun p44 => (if p44.1 = 0 then some ((0 : Int32), p44.2) else Z (0 : Int32) p44.2))))
def mf_isRead_19 (n : Nat) (K : zx_I → Option (Int32 × zx_I)) : Nat → Int32 → zx_I → Option (Int32 × zx_I)
  | 0 => fun _ _ => none
  | k + 1 => mf_isRead_19_b n K (mf_isRead_19 n K k)
def mf_isRead (n : Nat) (J : zx_I) : Option (Int32 × zx_I) := ((mf_firstHouse n (zx_uI (zx_uI J 0 2 0) 0 3 0)).bind fun p14 => (mf_isRead_19 n (fun J_19 => some ((1 : Int32), J_19)) n (1 : Int32) p14))
theorem ml_isRead_19 {n d : Nat} {L : zx_L} {K : zx_I → Option (Int32 × zx_I)} (hK : ∀ (J : zx_I) (p : Int32 × zx_I), K J = some p → zx_V mm_X10_isRead (d + 5) z0 (zw_rz p.1 zw_SM p.2 L zw_RM) zw_SM 57 [some (.ref 0), none] [] J L zw_RM) : ∀ (k : Nat) (x1 : Int32) (J : zx_I) (p : Int32 × zx_I), mf_isRead_19 n K k x1 J = some p → zx_V mm_X10_isRead (d + 5) z0 (zw_rz p.1 zw_SM p.2 L zw_RM) zw_SM 19 [some (.ref 0), some (.int x1)] [] J L zw_RM := by
  intro k
  induction k with
  | zero =>
    intro x1 J p h
    exact absurd (show (none : Option (Int32 × zx_I)) = some p from h) (by intro q; cases q)
  | succ k ih =>
    intro x1 J p h
    have h : mf_isRead_19_b n K (mf_isRead_19 n K k) x1 J = some p := h
    unfold mf_isRead_19_b at h
    refine zv_run 4 (pc' := 27) (lo' := [some (.ref 0), some (.int x1)]) (st' := [.int (J 0 0), .int (J 0 2)]) (I' := J) (L' := L) (R' := zw_RM) rfl ?_
    refine zv_icmp_lt (tgt := 34) (zs_at rfl) (by decide) (fun c27 => ?_) (fun c27 => ?_)
    · have h := mo_t h c27
      refine zv_run 6 (pc' := 44) (lo' := [some (.ref 0), some (.int x1)]) (st' := [.int x1, .ref 0]) (I' := (zx_uI J 0 3 (J 0 2))) (L' := L) (R' := zw_RM) rfl ?_
      obtain ⟨p44, e44, h⟩ := mo_b h
      refine zv_cVz (M' := mm_X10_isItem) (ci := 10) (a := 0) (av := [.int x1]) (st := []) (v := p44.1) (I' := p44.2) (L' := L) (R' := zw_RM) rfl zc_10_126 gd_X10_isItem rfl rfl rfl (Nat.le_of_ble_eq_true rfl) (mt_isItem (d := _) e44) ⟨Nat.le_refl _, Nat.le_refl _⟩ ?_
      intro b44
      refine zv_run 0 (pc' := 47) (lo' := [some (.ref 0), some (.int x1)]) (st' := [.int p44.1]) (I' := p44.2) (L' := L) (R' := zw_RM) rfl ?_
      refine zv_if_ne (tgt := 52) (zs_at rfl) (by decide) (fun c47 => ?_) (fun c47 => ?_)
      · have h := mo_f h c47
        refine zv_run 3 (pc' := 19) (lo' := [some (.ref 0), some (.int 0)]) (st' := []) (I' := p44.2) (L' := L) (R' := zw_RM) rfl ?_
        exact ih _ _ p h
      · have h := mo_t h c47
        refine zv_run 1 (pc' := 51) (lo' := [some (.ref 0), some (.int x1)]) (st' := [.int 0]) (I' := p44.2) (L' := L) (R' := zw_RM) rfl ?_
        obtain rfl := Option.some.inj h
        exact zv_zret (zs_at rfl) rfl (Or.inl rfl) ⟨Nat.le_refl _, Nat.le_refl _⟩ ⟨zw_here, (Or.inl rfl)⟩
    · have h := mo_f h c27
      refine zv_run 1 (pc' := 31) (lo' := [some (.ref 0), some (.int x1)]) (st' := [.int x1]) (I' := J) (L' := L) (R' := zw_RM) rfl ?_
      refine zv_if_eq (tgt := 57) (zs_at rfl) (by decide) (fun c31 => ?_) (fun c31 => ?_)
      · have h := mo_t h c31
        refine zv_fg (lo' := [some (.ref 0), none]) (And.intro rfl (And.intro trivial rfl)) ?_
        exact hK _ p h
      · have h := mo_f h c31
        refine zv_run 6 (pc' := 44) (lo' := [some (.ref 0), some (.int x1)]) (st' := [.int x1, .ref 0]) (I' := (zx_uI J 0 3 (J 0 2))) (L' := L) (R' := zw_RM) rfl ?_
        obtain ⟨p44, e44, h⟩ := mo_b h
        refine zv_cVz (M' := mm_X10_isItem) (ci := 10) (a := 0) (av := [.int x1]) (st := []) (v := p44.1) (I' := p44.2) (L' := L) (R' := zw_RM) rfl zc_10_126 gd_X10_isItem rfl rfl rfl (Nat.le_of_ble_eq_true rfl) (mt_isItem (d := _) e44) ⟨Nat.le_refl _, Nat.le_refl _⟩ ?_
        intro b44
        refine zv_run 0 (pc' := 47) (lo' := [some (.ref 0), some (.int x1)]) (st' := [.int p44.1]) (I' := p44.2) (L' := L) (R' := zw_RM) rfl ?_
        refine zv_if_ne (tgt := 52) (zs_at rfl) (by decide) (fun c47 => ?_) (fun c47 => ?_)
        · have h := mo_f h c47
          refine zv_run 3 (pc' := 19) (lo' := [some (.ref 0), some (.int 0)]) (st' := []) (I' := p44.2) (L' := L) (R' := zw_RM) rfl ?_
          exact ih _ _ p h
        · have h := mo_t h c47
          refine zv_run 1 (pc' := 51) (lo' := [some (.ref 0), some (.int x1)]) (st' := [.int 0]) (I' := p44.2) (L' := L) (R' := zw_RM) rfl ?_
          obtain rfl := Option.some.inj h
          exact zv_zret (zs_at rfl) rfl (Or.inl rfl) ⟨Nat.le_refl _, Nat.le_refl _⟩ ⟨zw_here, (Or.inl rfl)⟩
theorem mt_isRead {d n : Nat} {J : zx_I} {L : zx_L} {p : Int32 × zx_I} (h : mf_isRead n J = some p) : zx_M0 mm_X10_isRead (d + 5) 0 0 [.ref 0] zw_SM J L zw_RM (zw_rz p.1 zw_SM p.2 L zw_RM) := by
  unfold mf_isRead at h
  refine zv_entry gd_X10_isRead (Nat.le_of_ble_eq_true rfl) ?_
  refine zv_run 8 (pc' := 14) (lo' := [some (.ref 0), none]) (st' := [.ref 2]) (I' := (zx_uI (zx_uI J 0 2 0) 0 3 0)) (L' := L) (R' := zw_RM) rfl ?_
  obtain ⟨p14, e14, h⟩ := mo_b h
  refine zv_cS (M' := mm_X10_firstHouse) (av := [.ref 2]) (st := []) (r := none) (I' := p14) (L' := L) (R' := zw_RM) rfl zc_10_68 gd_X10_firstHouse rfl (Nat.le_of_ble_eq_true rfl) (mt_firstHouse (d := _) e14) ⟨Nat.le_refl _, Nat.le_refl _⟩ ?_
  refine zv_run 0 (pc' := 17) (lo' := [some (.ref 0), none]) (st' := []) (I' := p14) (L' := L) (R' := zw_RM) rfl ?_
  refine zv_run 2 (pc' := 19) (lo' := [some (.ref 0), some (.int 1)]) (st' := []) (I' := p14) (L' := L) (R' := zw_RM) rfl ?_
  refine ml_isRead_19 (fun J_19 p h => ?_) n _ _ p h
  refine zv_run 1 (pc' := 58) (lo' := [some (.ref 0), none]) (st' := [.int 1]) (I' := J_19) (L' := L) (R' := zw_RM) rfl ?_
  obtain rfl := Option.some.inj h
  exact zv_zret (zs_at rfl) rfl (Or.inr rfl) ⟨Nat.le_refl _, Nat.le_refl _⟩ ⟨zw_here, (Or.inr rfl)⟩
def mf_fault (n : Nat) (J : zx_I) : Option (Int32 × zx_I) := ((mf_isRead n J).bind fun p1 => (if p1.1 = 0 then some ((p1.2 0 3), p1.2) else some ((-4 : Int32), p1.2)))
theorem mt_fault {d n : Nat} {J : zx_I} {L : zx_L} {p : Int32 × zx_I} (h : mf_fault n J = some p) : zx_M0 mm_X10_fault (d + 6) 0 0 [.ref 0] zw_SM J L zw_RM (zw_ret (some (.int p.1)) zw_SM p.2 L zw_RM) := by
  unfold mf_fault at h
  refine zv_entry gd_X10_fault (Nat.le_of_ble_eq_true rfl) ?_
  refine zv_run 1 (pc' := 1) (lo' := [some (.ref 0)]) (st' := [.ref 0]) (I' := J) (L' := L) (R' := zw_RM) rfl ?_
  obtain ⟨p1, e1, h⟩ := mo_b h
  refine zv_cVz (M' := mm_X10_isRead) (ci := 10) (a := 0) (av := []) (st := []) (v := p1.1) (I' := p1.2) (L' := L) (R' := zw_RM) rfl zc_10_130 gd_X10_isRead rfl rfl rfl (Nat.le_of_ble_eq_true rfl) (mt_isRead (d := _) e1) ⟨Nat.le_refl _, Nat.le_refl _⟩ ?_
  intro b1
  refine zv_run 0 (pc' := 4) (lo' := [some (.ref 0)]) (st' := [.int p1.1]) (I' := p1.2) (L' := L) (R' := zw_RM) rfl ?_
  refine zv_if_eq (tgt := 12) (zs_at rfl) (by decide) (fun c4 => ?_) (fun c4 => ?_)
  · have h := mo_t h c4
    refine zv_run 2 (pc' := 16) (lo' := [some (.ref 0)]) (st' := [.int (p1.2 0 3)]) (I' := p1.2) (L' := L) (R' := zw_RM) rfl ?_
    obtain rfl := Option.some.inj h
    exact zv_iret (zs_at rfl) rfl ⟨Nat.le_refl _, Nat.le_refl _⟩ zw_here
  · have h := mo_f h c4
    refine zv_run 2 (pc' := 16) (lo' := [some (.ref 0)]) (st' := [.int (-4)]) (I' := p1.2) (L' := L) (R' := zw_RM) rfl ?_
    obtain rfl := Option.some.inj h
    exact zv_iret (zs_at rfl) rfl ⟨Nat.le_refl _, Nat.le_refl _⟩ zw_here
def mf_lay (n : Nat) (J : zx_I) (L : zx_L) : Option (Int32 × zx_I × zx_L) := ((mf_isRead n J).bind fun p1 => (if p1.1 = 0 then some ((-2 : Int32), p1.2, L) else ((mf_layDown n p1.2 L).bind fun p11 => some ((p11.1 3 16), p11.1, p11.2))))
theorem mt_lay {d n : Nat} {J : zx_I} {L : zx_L} {p : Int32 × zx_I × zx_L} (h : mf_lay n J L = some p) : zx_M0 mm_X10_lay (d + 6) 0 0 [.ref 0] zw_SM J L zw_RM (zw_ret (some (.int p.1)) zw_SM p.2.1 p.2.2 zw_RM) := by
  unfold mf_lay at h
  refine zv_entry gd_X10_lay (Nat.le_of_ble_eq_true rfl) ?_
  refine zv_run 1 (pc' := 1) (lo' := [some (.ref 0)]) (st' := [.ref 0]) (I' := J) (L' := L) (R' := zw_RM) rfl ?_
  obtain ⟨p1, e1, h⟩ := mo_b h
  refine zv_cVz (M' := mm_X10_isRead) (ci := 10) (a := 0) (av := []) (st := []) (v := p1.1) (I' := p1.2) (L' := L) (R' := zw_RM) rfl zc_10_130 gd_X10_isRead rfl rfl rfl (Nat.le_of_ble_eq_true rfl) (mt_isRead (d := _) e1) ⟨Nat.le_refl _, Nat.le_refl _⟩ ?_
  intro b1
  refine zv_run 0 (pc' := 4) (lo' := [some (.ref 0)]) (st' := [.int p1.1]) (I' := p1.2) (L' := L) (R' := zw_RM) rfl ?_
  refine zv_if_ne (tgt := 10) (zs_at rfl) (by decide) (fun c4 => ?_) (fun c4 => ?_)
  · have h := mo_f h c4
    refine zv_run 1 (pc' := 11) (lo' := [some (.ref 0)]) (st' := [.ref 0]) (I' := p1.2) (L' := L) (R' := zw_RM) rfl ?_
    obtain ⟨p11, e11, h⟩ := mo_b h
    refine zv_cV (M' := mm_X10_layDown) (ci := 10) (a := 0) (av := []) (st := []) (r := none) (I' := p11.1) (L' := p11.2) (R' := zw_RM) rfl zc_10_72 gd_X10_layDown rfl rfl rfl (Nat.le_of_ble_eq_true rfl) (mt_layDown (d := _) e11) ⟨Nat.le_refl _, Nat.le_refl _⟩ ?_
    refine zv_run 0 (pc' := 14) (lo' := [some (.ref 0)]) (st' := []) (I' := p11.1) (L' := p11.2) (R' := zw_RM) rfl ?_
    refine zv_run 4 (pc' := 21) (lo' := [some (.ref 0)]) (st' := [.int (p11.1 3 16)]) (I' := p11.1) (L' := p11.2) (R' := zw_RM) rfl ?_
    obtain rfl := Option.some.inj h
    exact zv_iret (zs_at rfl) rfl ⟨Nat.le_refl _, Nat.le_refl _⟩ zw_here
  · have h := mo_t h c4
    refine zv_run 1 (pc' := 9) (lo' := [some (.ref 0)]) (st' := [.int (-2)]) (I' := p1.2) (L' := L) (R' := zw_RM) rfl ?_
    obtain rfl := Option.some.inj h
    exact zv_iret (zs_at rfl) rfl ⟨Nat.le_refl _, Nat.le_refl _⟩ zw_here
def mf_many (J : zx_I) : Int32 := (J 3 16)
theorem mt_many {d : Nat} {J : zx_I} {L : zx_L} {p : Int32} (h : mf_many J = p) : zx_M0 mm_X10_many (d + 0) 0 0 [.ref 0] zw_SM J L zw_RM (zw_ret (some (.int p)) zw_SM J L zw_RM) := by
  unfold mf_many at h
  refine zv_entry gd_X10_many (Nat.le_of_ble_eq_true rfl) ?_
  refine zv_run 4 (pc' := 7) (lo' := [some (.ref 0)]) (st' := [.int (J 3 16)]) (I' := J) (L' := L) (R' := zw_RM) rfl ?_
  obtain rfl := h
  exact zv_iret (zs_at rfl) rfl ⟨Nat.le_refl _, Nat.le_refl _⟩ zw_here
def mf_isBatherOf (x1 : Int32) (J : zx_I) : Int32 := (mf_in x1 (0 : Int32) ((mf_many J) - 1))
theorem mt_isBatherOf {d : Nat} {x1 : Int32} {J : zx_I} {L : zx_L} {p : Int32} (h : mf_isBatherOf x1 J = p) : zx_M0 mm_X10_isBatherOf (d + 1) 0 0 [.ref 0, .int x1] zw_SM J L zw_RM (zw_rz p zw_SM J L zw_RM) := by
  unfold mf_isBatherOf at h
  refine zv_entry gd_X10_isBatherOf (Nat.le_of_ble_eq_true rfl) ?_
  refine zv_run 3 (pc' := 3) (lo' := [some (.ref 0), some (.int x1)]) (st' := [.ref 0, .int 0, .int x1]) (I' := J) (L' := L) (R' := zw_RM) rfl ?_
  refine zv_cV (M' := mm_X10_many) (ci := 10) (a := 0) (av := []) (st := [.int 0, .int x1]) (r := some (.int (mf_many J))) (I' := J) (L' := L) (R' := zw_RM) rfl zc_10_133 gd_X10_many rfl rfl rfl (Nat.le_of_ble_eq_true rfl) (mt_many (d := _) rfl) ⟨Nat.le_refl _, Nat.le_refl _⟩ ?_
  refine zv_run 0 (pc' := 6) (lo' := [some (.ref 0), some (.int x1)]) (st' := [.int (mf_many J), .int 0, .int x1]) (I' := J) (L' := L) (R' := zw_RM) rfl ?_
  refine zv_run 2 (pc' := 8) (lo' := [some (.ref 0), some (.int x1)]) (st' := [.int ((mf_many J) - 1), .int 0, .int x1]) (I' := J) (L' := L) (R' := zw_RM) rfl ?_
  refine zv_cSz (M' := mm_X10_in) (av := [.int x1, .int 0, .int ((mf_many J) - 1)]) (st := []) (v := (mf_in x1 (0 : Int32) ((mf_many J) - 1))) (I' := J) (L' := L) (R' := zw_RM) rfl zc_10_86 gd_X10_in rfl (Nat.le_of_ble_eq_true rfl) (mt_in (d := _) rfl) ⟨Nat.le_refl _, Nat.le_refl _⟩ ?_
  intro b8
  refine zv_run 0 (pc' := 11) (lo' := [some (.ref 0), some (.int x1)]) (st' := [.int (mf_in x1 (0 : Int32) ((mf_many J) - 1))]) (I' := J) (L' := L) (R' := zw_RM) rfl ?_
  obtain rfl := h
  exact zv_zret (zs_at rfl) rfl b8 ⟨Nat.le_refl _, Nat.le_refl _⟩ ⟨zw_here, b8⟩
def mf_of (x1 : Int32) (x2 : Int32) (J : zx_I) : Option (Int32) := (mo_g (mo_in ((17 + (8 * x1)) + x2) 65) (some ((J 3 (((17 + (8 * x1)) + x2).toNatClampNeg)))))
theorem mt_of {d : Nat} {x1 : Int32} {x2 : Int32} {J : zx_I} {L : zx_L} {p : Int32} (h : mf_of x1 x2 J = some p) : zx_M0 mm_X10_of (d + 0) 0 0 [.ref 0, .int x1, .int x2] zw_SM J L zw_RM (zw_ret (some (.int p)) zw_SM J L zw_RM) := by
  unfold mf_of at h
  refine zv_entry gd_X10_of (Nat.le_of_ble_eq_true rfl) ?_
  refine zv_run 9 (pc' := 13) (lo' := [some (.ref 0), some (.int x1), some (.int x2)]) (st' := [.int ((17 + (8 * x1)) + x2), .ref 3]) (I' := J) (L' := L) (R' := zw_RM) rfl ?_
  obtain ⟨g13, h⟩ := mo_gs h
  refine zv_iald (zs_at rfl) rfl (mo_in_vp g13) ?_
  refine zv_run 0 (pc' := 14) (lo' := [some (.ref 0), some (.int x1), some (.int x2)]) (st' := [.int (J 3 (((17 + (8 * x1)) + x2).toNatClampNeg))]) (I' := J) (L' := L) (R' := zw_RM) rfl ?_
  obtain rfl := Option.some.inj h
  exact zv_iret (zs_at rfl) rfl ⟨Nat.le_refl _, Nat.le_refl _⟩ zw_here
def mf_bather (x1 : Int32) (x2 : Int32) (J : zx_I) : Option (Int32) := (if (mf_isBatherOf x1 J) = 0 then some ((-1 : Int32)) else (if (mf_in x2 (0 : Int32) (7 : Int32)) = 0 then some ((-1 : Int32)) else ((mf_of x1 x2 J).bind fun p21 => some (p21))))
theorem mt_bather {d : Nat} {x1 : Int32} {x2 : Int32} {J : zx_I} {L : zx_L} {p : Int32} (h : mf_bather x1 x2 J = some p) : zx_M0 mm_X10_bather (d + 2) 0 0 [.ref 0, .int x1, .int x2] zw_SM J L zw_RM (zw_ret (some (.int p)) zw_SM J L zw_RM) := by
  unfold mf_bather at h
  refine zv_entry gd_X10_bather (Nat.le_of_ble_eq_true rfl) ?_
  refine zv_run 2 (pc' := 2) (lo' := [some (.ref 0), some (.int x1), some (.int x2)]) (st' := [.int x1, .ref 0]) (I' := J) (L' := L) (R' := zw_RM) rfl ?_
  refine zv_cVz (M' := mm_X10_isBatherOf) (ci := 10) (a := 0) (av := [.int x1]) (st := []) (v := (mf_isBatherOf x1 J)) (I' := J) (L' := L) (R' := zw_RM) rfl zc_10_136 gd_X10_isBatherOf rfl rfl rfl (Nat.le_of_ble_eq_true rfl) (mt_isBatherOf (d := _) rfl) ⟨Nat.le_refl _, Nat.le_refl _⟩ ?_
  intro b2
  refine zv_run 0 (pc' := 5) (lo' := [some (.ref 0), some (.int x1), some (.int x2)]) (st' := [.int (mf_isBatherOf x1 J)]) (I' := J) (L' := L) (R' := zw_RM) rfl ?_
  refine zv_if_eq (tgt := 27) (zs_at rfl) (by decide) (fun c5 => ?_) (fun c5 => ?_)
  · have h := mo_t h c5
    refine zv_run 1 (pc' := 28) (lo' := [some (.ref 0), some (.int x1), some (.int x2)]) (st' := [.int (-1)]) (I' := J) (L' := L) (R' := zw_RM) rfl ?_
    obtain rfl := Option.some.inj h
    exact zv_iret (zs_at rfl) rfl ⟨Nat.le_refl _, Nat.le_refl _⟩ zw_here
  · have h := mo_f h c5
    refine zv_run 3 (pc' := 12) (lo' := [some (.ref 0), some (.int x1), some (.int x2)]) (st' := [.int 7, .int 0, .int x2]) (I' := J) (L' := L) (R' := zw_RM) rfl ?_
    refine zv_cSz (M' := mm_X10_in) (av := [.int x2, .int 0, .int 7]) (st := []) (v := (mf_in x2 (0 : Int32) (7 : Int32))) (I' := J) (L' := L) (R' := zw_RM) rfl zc_10_86 gd_X10_in rfl (Nat.le_of_ble_eq_true rfl) (mt_in (d := _) rfl) ⟨Nat.le_refl _, Nat.le_refl _⟩ ?_
    intro b12
    refine zv_run 0 (pc' := 15) (lo' := [some (.ref 0), some (.int x1), some (.int x2)]) (st' := [.int (mf_in x2 (0 : Int32) (7 : Int32))]) (I' := J) (L' := L) (R' := zw_RM) rfl ?_
    refine zv_if_eq (tgt := 27) (zs_at rfl) (by decide) (fun c15 => ?_) (fun c15 => ?_)
    · have h := mo_t h c15
      refine zv_run 1 (pc' := 28) (lo' := [some (.ref 0), some (.int x1), some (.int x2)]) (st' := [.int (-1)]) (I' := J) (L' := L) (R' := zw_RM) rfl ?_
      obtain rfl := Option.some.inj h
      exact zv_iret (zs_at rfl) rfl ⟨Nat.le_refl _, Nat.le_refl _⟩ zw_here
    · have h := mo_f h c15
      refine zv_run 3 (pc' := 21) (lo' := [some (.ref 0), some (.int x1), some (.int x2)]) (st' := [.int x2, .int x1, .ref 0]) (I' := J) (L' := L) (R' := zw_RM) rfl ?_
      obtain ⟨p21, e21, h⟩ := mo_b h
      refine zv_cV (M' := mm_X10_of) (ci := 10) (a := 0) (av := [.int x1, .int x2]) (st := []) (r := some (.int p21)) (I' := J) (L' := L) (R' := zw_RM) rfl zc_10_139 gd_X10_of rfl rfl rfl (Nat.le_of_ble_eq_true rfl) (mt_of (d := _) e21) ⟨Nat.le_refl _, Nat.le_refl _⟩ ?_
      refine zv_run 0 (pc' := 24) (lo' := [some (.ref 0), some (.int x1), some (.int x2)]) (st' := [.int p21]) (I' := J) (L' := L) (R' := zw_RM) rfl ?_
      refine zv_run 1 (pc' := 28) (lo' := [some (.ref 0), some (.int x1), some (.int x2)]) (st' := [.int p21]) (I' := J) (L' := L) (R' := zw_RM) rfl ?_
      obtain rfl := Option.some.inj h
      exact zv_iret (zs_at rfl) rfl ⟨Nat.le_refl _, Nat.le_refl _⟩ zw_here
def mf_holds (J : zx_I) : Int32 := ((J 3 0) * (J 3 1))
theorem mt_holds {d : Nat} {J : zx_I} {L : zx_L} {p : Int32} (h : mf_holds J = p) : zx_M0 mm_X10_holds (d + 0) 0 0 [.ref 0] zw_SM J L zw_RM (zw_ret (some (.int p)) zw_SM J L zw_RM) := by
  unfold mf_holds at h
  refine zv_entry gd_X10_holds (Nat.le_of_ble_eq_true rfl) ?_
  refine zv_run 9 (pc' := 13) (lo' := [some (.ref 0)]) (st' := [.int ((J 3 0) * (J 3 1))]) (I' := J) (L' := L) (R' := zw_RM) rfl ?_
  obtain rfl := h
  exact zv_iret (zs_at rfl) rfl ⟨Nat.le_refl _, Nat.le_refl _⟩ zw_here
def mf_fill_2_b (n : Nat) (K : zx_I → Option (zx_I)) (Z : Int32 → zx_I → Option (zx_I)) (x1 : Int32) (J : zx_I) : Option (zx_I) := (if (6 : Int32) ≤ x1 then K J else (mo_g (mo_in x1 6) (Z (x1 + 1) (zx_uI J 10 x1.toNatClampNeg ((J 3 1) * (J 3 3))))))
def mf_fill_2 (n : Nat) (K : zx_I → Option (zx_I)) : Nat → Int32 → zx_I → Option (zx_I)
  | 0 => fun _ _ => none
  | k + 1 => mf_fill_2_b n K (mf_fill_2 n K k)
def mf_fill (n : Nat) (J : zx_I) : Option (zx_I) := (mf_fill_2 n (fun J_2 => some (J_2)) n (0 : Int32) J)
theorem ml_fill_2 {n d : Nat} {L : zx_L} {K : zx_I → Option (zx_I)} (hK : ∀ (J : zx_I) (p : zx_I), K J = some p → zx_V mm_X10_fill (d + 0) z0 (zw_ret (none) zw_SM p L zw_RM) zw_SM 33 [some (.ref 0), none] [] J L zw_RM) : ∀ (k : Nat) (x1 : Int32) (J : zx_I) (p : zx_I), mf_fill_2 n K k x1 J = some p → zx_V mm_X10_fill (d + 0) z0 (zw_ret (none) zw_SM p L zw_RM) zw_SM 2 [some (.ref 0), some (.int x1)] [] J L zw_RM := by
  intro k
  induction k with
  | zero =>
    intro x1 J p h
    exact absurd (show (none : Option (zx_I)) = some p from h) (by intro q; cases q)
  | succ k ih =>
    intro x1 J p h
    have h : mf_fill_2_b n K (mf_fill_2 n K k) x1 J = some p := h
    unfold mf_fill_2_b at h
    refine zv_run 2 (pc' := 5) (lo' := [some (.ref 0), some (.int x1)]) (st' := [.int 6, .int x1]) (I' := J) (L' := L) (R' := zw_RM) rfl ?_
    refine zv_icmp_ge (tgt := 33) (zs_at rfl) (by decide) (fun c5 => ?_) (fun c5 => ?_)
    · have h := mo_t h c5
      refine zv_fg (lo' := [some (.ref 0), none]) (And.intro rfl (And.intro trivial rfl)) ?_
      exact hK _ p h
    · have h := mo_f h c5
      refine zv_run 12 (pc' := 26) (lo' := [some (.ref 0), some (.int x1)]) (st' := [.int ((J 3 1) * (J 3 3)), .int x1, .ref 10]) (I' := J) (L' := L) (R' := zw_RM) rfl ?_
      obtain ⟨g26, h⟩ := mo_gs h
      refine zv_iast (zs_at rfl) rfl (mo_in_vp g26) ?_
      refine zv_run 2 (pc' := 2) (lo' := [some (.ref 0), some (.int (x1 + 1))]) (st' := []) (I' := (zx_uI J 10 x1.toNatClampNeg ((J 3 1) * (J 3 3)))) (L' := L) (R' := zw_RM) rfl ?_
      exact ih _ _ p h
theorem mt_fill {d n : Nat} {J : zx_I} {L : zx_L} {p : zx_I} (h : mf_fill n J = some p) : zx_M0 mm_X10_fill (d + 0) 0 0 [.ref 0] zw_SM J L zw_RM (zw_ret (none) zw_SM p L zw_RM) := by
  unfold mf_fill at h
  refine zv_entry gd_X10_fill (Nat.le_of_ble_eq_true rfl) ?_
  refine zv_run 2 (pc' := 2) (lo' := [some (.ref 0), some (.int 0)]) (st' := []) (I' := J) (L' := L) (R' := zw_RM) rfl ?_
  refine ml_fill_2 (fun J_2 p h => ?_) n _ _ p h
  obtain rfl := Option.some.inj h
  exact zv_vret (zs_at rfl) rfl ⟨Nat.le_refl _, Nat.le_refl _⟩ zw_here
def mf_unitsOf_49_b (n : Nat) (x1 : Int32) (x2 : Int32) (x3 : Int32) (J : zx_I) (K : Int32 → Option (Int32)) (Z : Int32 → Int32 → Option (Int32)) (x4 : Int32) (x5 : Int32) : Option (Int32) := (if (J 3 0) ≤ x5 then K x4 else (((if x1 ≤ (x3 * x5) then some ((x3 * x5)) else some (x1)) : Option (Int32)).bind fun v65 => (((if ((x3 * x5) + x3) ≤ x2 then some (((x3 * x5) + x3)) else some (x2)) : Option (Int32)).bind fun v85 => (if (v85 - v65) = x3 then (mo_g (mo_in x5 6) (Z (x4 + (J 10 x5.toNatClampNeg)) (x5 + 1))) else (if v85 ≤ v65 then Z (x4 + 0) (x5 + 1) else (mo_g (mo_in x5 6) (mo_g (mo_nz x3) (Z (x4 + (((J 10 x5.toNatClampNeg) * (v85 - v65)) / x3)) (x5 + 1)))))))))
def mf_unitsOf_49 (n : Nat) (x1 : Int32) (x2 : Int32) (x3 : Int32) (J : zx_I) (K : Int32 → Option (Int32)) : Nat → Int32 → Int32 → Option (Int32)
  | 0 => fun _ _ => none
  | k + 1 => mf_unitsOf_49_b n x1 x2 x3 J K (mf_unitsOf_49 n x1 x2 x3 J K k)
def mf_unitsOf (n : Nat) (x1 : Int32) (x2 : Int32) (J : zx_I) : Option (Int32) := (((if x2 ≤ (mf_holds J) then some ((0 : Int32)) else (((if x1 ≤ (mf_holds J) then some ((mf_holds J)) else some (x1)) : Option (Int32)).bind fun v21 => some (((x2 - v21) * (J 3 2))))) : Option (Int32)).bind fun v12 => (mf_unitsOf_49 n x1 x2 (J 3 1) J (fun x4_49 => some (x4_49)) n v12 (0 : Int32)))
theorem ml_unitsOf_49 {n d : Nat} {x1 : Int32} {x2 : Int32} {x3 : Int32} {J : zx_I} {L : zx_L} {K : Int32 → Option (Int32)} (hK : ∀ (x4 : Int32) (p : Int32), K x4 = some p → zx_V mm_X10_unitsOf (d + 1) z0 (zw_ret (some (.int p)) zw_SM J L zw_RM) zw_SM 156 [some (.ref 0), some (.int x1), some (.int x2), some (.int x3), some (.int x4), none, none, none] [] J L zw_RM) : ∀ (k : Nat) (x4 : Int32) (x5 : Int32) (p : Int32), mf_unitsOf_49 n x1 x2 x3 J K k x4 x5 = some p → zx_V mm_X10_unitsOf (d + 1) z0 (zw_ret (some (.int p)) zw_SM J L zw_RM) zw_SM 49 [some (.ref 0), some (.int x1), some (.int x2), some (.int x3), some (.int x4), some (.int x5), none, none] [] J L zw_RM := by
  intro k
  induction k with
  | zero =>
    intro x4 x5 p h
    exact absurd (show (none : Option (Int32)) = some p from h) (by intro q; cases q)
  | succ k ih =>
    intro x4 x5 p h
    have h : mf_unitsOf_49_b n x1 x2 x3 J K (mf_unitsOf_49 n x1 x2 x3 J K k) x4 x5 = some p := h
    unfold mf_unitsOf_49_b at h
    refine zv_run 5 (pc' := 57) (lo' := [some (.ref 0), some (.int x1), some (.int x2), some (.int x3), some (.int x4), some (.int x5), none, none]) (st' := [.int (J 3 0), .int x5]) (I' := J) (L' := L) (R' := zw_RM) rfl ?_
    refine zv_icmp_ge (tgt := 156) (zs_at rfl) (by decide) (fun c57 => ?_) (fun c57 => ?_)
    · have h := mo_t h c57
      refine zv_fg (lo' := [some (.ref 0), some (.int x1), some (.int x2), some (.int x3), some (.int x4), none, none, none]) (And.intro rfl (And.intro rfl (And.intro rfl (And.intro rfl (And.intro rfl (And.intro trivial (And.intro trivial (And.intro trivial rfl)))))))) ?_
      exact hK _ p h
    · have h := mo_f h c57
      refine zv_run 4 (pc' := 65) (lo' := [some (.ref 0), some (.int x1), some (.int x2), some (.int x3), some (.int x4), some (.int x5), none, none]) (st' := [.int (x3 * x5), .int x1]) (I' := J) (L' := L) (R' := zw_RM) rfl ?_
      obtain ⟨v65, e65, h⟩ := mo_b h
      have k65 : zx_V mm_X10_unitsOf (d + 1) z0 (zw_ret (some (.int p)) zw_SM J L zw_RM) zw_SM 76 [some (.ref 0), some (.int x1), some (.int x2), some (.int x3), some (.int x4), some (.int x5), none, none] [.int v65] J L zw_RM := by
        clear e65
        refine zv_run 7 (pc' := 85) (lo' := [some (.ref 0), some (.int x1), some (.int x2), some (.int x3), some (.int x4), some (.int x5), some (.int v65), none]) (st' := [.int ((x3 * x5) + x3), .int x2]) (I' := J) (L' := L) (R' := zw_RM) rfl ?_
        obtain ⟨v85, e85, h⟩ := mo_b h
        have k85 : zx_V mm_X10_unitsOf (d + 1) z0 (zw_ret (some (.int p)) zw_SM J L zw_RM) zw_SM 98 [some (.ref 0), some (.int x1), some (.int x2), some (.int x3), some (.int x4), some (.int x5), some (.int v65), none] [.int v85] J L zw_RM := by
          clear e85
          refine zv_run 6 (pc' := 108) (lo' := [some (.ref 0), some (.int x1), some (.int x2), some (.int x3), some (.int x4), some (.int x5), some (.int v65), some (.int v85)]) (st' := [.int x3, .int (v85 - v65), .int x4]) (I' := J) (L' := L) (R' := zw_RM) rfl ?_
          refine zv_icmp_ne (tgt := 121) (zs_at rfl) (by decide) (fun c108 => ?_) (fun c108 => ?_)
          · have h := mo_f h c108
            refine zv_run 2 (pc' := 125) (lo' := [some (.ref 0), some (.int x1), some (.int x2), some (.int x3), some (.int x4), some (.int x5), some (.int v65), some (.int v85)]) (st' := [.int v65, .int v85, .int x4]) (I' := J) (L' := L) (R' := zw_RM) rfl ?_
            refine zv_icmp_le (tgt := 146) (zs_at rfl) (by decide) (fun c125 => ?_) (fun c125 => ?_)
            · have h := mo_t h c125
              refine zv_run 5 (pc' := 49) (lo' := [some (.ref 0), some (.int x1), some (.int x2), some (.int x3), some (.int (x4 + 0)), some (.int (x5 + 1)), some (.int v65), some (.int v85)]) (st' := []) (I' := J) (L' := L) (R' := zw_RM) rfl ?_
              refine zv_fg (lo' := [some (.ref 0), some (.int x1), some (.int x2), some (.int x3), some (.int (x4 + 0)), some (.int (x5 + 1)), none, none]) (And.intro rfl (And.intro rfl (And.intro rfl (And.intro rfl (And.intro rfl (And.intro rfl (And.intro trivial (And.intro trivial rfl)))))))) ?_
              exact ih _ _ p h
            · have h := mo_f h c125
              refine zv_run 3 (pc' := 134) (lo' := [some (.ref 0), some (.int x1), some (.int x2), some (.int x3), some (.int x4), some (.int x5), some (.int v65), some (.int v85)]) (st' := [.int x5, .ref 10, .int x4]) (I' := J) (L' := L) (R' := zw_RM) rfl ?_
              obtain ⟨g134, h⟩ := mo_gs h
              refine zv_iald (zs_at rfl) rfl (mo_in_vp g134) ?_
              refine zv_run 0 (pc' := 135) (lo' := [some (.ref 0), some (.int x1), some (.int x2), some (.int x3), some (.int x4), some (.int x5), some (.int v65), some (.int v85)]) (st' := [.int (J 10 x5.toNatClampNeg), .int x4]) (I' := J) (L' := L) (R' := zw_RM) rfl ?_
              refine zv_run 5 (pc' := 142) (lo' := [some (.ref 0), some (.int x1), some (.int x2), some (.int x3), some (.int x4), some (.int x5), some (.int v65), some (.int v85)]) (st' := [.int x3, .int ((J 10 x5.toNatClampNeg) * (v85 - v65)), .int x4]) (I' := J) (L' := L) (R' := zw_RM) rfl ?_
              obtain ⟨g142, h⟩ := mo_gs h
              refine zv_idiv (zs_at rfl) (mo_nz_ne g142) ?_
              refine zv_run 1 (pc' := 147) (lo' := [some (.ref 0), some (.int x1), some (.int x2), some (.int x3), some (.int x4), some (.int x5), some (.int v65), some (.int v85)]) (st' := [.int (((J 10 x5.toNatClampNeg) * (v85 - v65)) / x3), .int x4]) (I' := J) (L' := L) (R' := zw_RM) rfl ?_
              refine zv_run 4 (pc' := 49) (lo' := [some (.ref 0), some (.int x1), some (.int x2), some (.int x3), some (.int (x4 + (((J 10 x5.toNatClampNeg) * (v85 - v65)) / x3))), some (.int (x5 + 1)), some (.int v65), some (.int v85)]) (st' := []) (I' := J) (L' := L) (R' := zw_RM) rfl ?_
              refine zv_fg (lo' := [some (.ref 0), some (.int x1), some (.int x2), some (.int x3), some (.int (x4 + (((J 10 x5.toNatClampNeg) * (v85 - v65)) / x3))), some (.int (x5 + 1)), none, none]) (And.intro rfl (And.intro rfl (And.intro rfl (And.intro rfl (And.intro rfl (And.intro rfl (And.intro trivial (And.intro trivial rfl)))))))) ?_
              exact ih _ _ p h
          · have h := mo_t h c108
            refine zv_run 3 (pc' := 117) (lo' := [some (.ref 0), some (.int x1), some (.int x2), some (.int x3), some (.int x4), some (.int x5), some (.int v65), some (.int v85)]) (st' := [.int x5, .ref 10, .int x4]) (I' := J) (L' := L) (R' := zw_RM) rfl ?_
            obtain ⟨g117, h⟩ := mo_gs h
            refine zv_iald (zs_at rfl) rfl (mo_in_vp g117) ?_
            refine zv_run 0 (pc' := 118) (lo' := [some (.ref 0), some (.int x1), some (.int x2), some (.int x3), some (.int x4), some (.int x5), some (.int v65), some (.int v85)]) (st' := [.int (J 10 x5.toNatClampNeg), .int x4]) (I' := J) (L' := L) (R' := zw_RM) rfl ?_
            refine zv_run 1 (pc' := 147) (lo' := [some (.ref 0), some (.int x1), some (.int x2), some (.int x3), some (.int x4), some (.int x5), some (.int v65), some (.int v85)]) (st' := [.int (J 10 x5.toNatClampNeg), .int x4]) (I' := J) (L' := L) (R' := zw_RM) rfl ?_
            refine zv_run 4 (pc' := 49) (lo' := [some (.ref 0), some (.int x1), some (.int x2), some (.int x3), some (.int (x4 + (J 10 x5.toNatClampNeg))), some (.int (x5 + 1)), some (.int v65), some (.int v85)]) (st' := []) (I' := J) (L' := L) (R' := zw_RM) rfl ?_
            refine zv_fg (lo' := [some (.ref 0), some (.int x1), some (.int x2), some (.int x3), some (.int (x4 + (J 10 x5.toNatClampNeg))), some (.int (x5 + 1)), none, none]) (And.intro rfl (And.intro rfl (And.intro rfl (And.intro rfl (And.intro rfl (And.intro rfl (And.intro trivial (And.intro trivial rfl)))))))) ?_
            exact ih _ _ p h
        have h := e85
        refine zv_icmp_ge (tgt := 92) (zs_at rfl) (by decide) (fun c85 => ?_) (fun c85 => ?_)
        · have h := mo_t h c85
          refine zv_run 5 (pc' := 98) (lo' := [some (.ref 0), some (.int x1), some (.int x2), some (.int x3), some (.int x4), some (.int x5), some (.int v65), none]) (st' := [.int ((x3 * x5) + x3)]) (I' := J) (L' := L) (R' := zw_RM) rfl ?_
          obtain rfl := Option.some.inj h
          exact k85
        · have h := mo_f h c85
          refine zv_run 2 (pc' := 98) (lo' := [some (.ref 0), some (.int x1), some (.int x2), some (.int x3), some (.int x4), some (.int x5), some (.int v65), none]) (st' := [.int x2]) (I' := J) (L' := L) (R' := zw_RM) rfl ?_
          obtain rfl := Option.some.inj h
          exact k85
      have h := e65
      refine zv_icmp_le (tgt := 72) (zs_at rfl) (by decide) (fun c65 => ?_) (fun c65 => ?_)
      · have h := mo_t h c65
        refine zv_run 3 (pc' := 76) (lo' := [some (.ref 0), some (.int x1), some (.int x2), some (.int x3), some (.int x4), some (.int x5), none, none]) (st' := [.int (x3 * x5)]) (I' := J) (L' := L) (R' := zw_RM) rfl ?_
        obtain rfl := Option.some.inj h
        exact k65
      · have h := mo_f h c65
        refine zv_run 2 (pc' := 76) (lo' := [some (.ref 0), some (.int x1), some (.int x2), some (.int x3), some (.int x4), some (.int x5), none, none]) (st' := [.int x1]) (I' := J) (L' := L) (R' := zw_RM) rfl ?_
        obtain rfl := Option.some.inj h
        exact k65
theorem mt_unitsOf {d n : Nat} {x1 : Int32} {x2 : Int32} {J : zx_I} {L : zx_L} {p : Int32} (h : mf_unitsOf n x1 x2 J = some p) : zx_M0 mm_X10_unitsOf (d + 1) 0 0 [.ref 0, .int x1, .int x2] zw_SM J L zw_RM (zw_ret (some (.int p)) zw_SM J L zw_RM) := by
  unfold mf_unitsOf at h
  refine zv_entry gd_X10_unitsOf (Nat.le_of_ble_eq_true rfl) ?_
  refine zv_run 7 (pc' := 9) (lo' := [some (.ref 0), some (.int x1), some (.int x2), some (.int (J 3 1)), none, none, none, none]) (st' := [.ref 0, .int x2]) (I' := J) (L' := L) (R' := zw_RM) rfl ?_
  refine zv_cV (M' := mm_X10_holds) (ci := 10) (a := 0) (av := []) (st := [.int x2]) (r := some (.int (mf_holds J))) (I' := J) (L' := L) (R' := zw_RM) rfl zc_10_143 gd_X10_holds rfl rfl rfl (Nat.le_of_ble_eq_true rfl) (mt_holds (d := _) rfl) ⟨Nat.le_refl _, Nat.le_refl _⟩ ?_
  refine zv_run 0 (pc' := 12) (lo' := [some (.ref 0), some (.int x1), some (.int x2), some (.int (J 3 1)), none, none, none, none]) (st' := [.int (mf_holds J), .int x2]) (I' := J) (L' := L) (R' := zw_RM) rfl ?_
  obtain ⟨v12, e12, h⟩ := mo_b h
  have k12 : zx_V mm_X10_unitsOf (d + 1) z0 (zw_ret (some (.int p)) zw_SM J L zw_RM) zw_SM 44 [some (.ref 0), some (.int x1), some (.int x2), some (.int (J 3 1)), none, none, none, none] [.int v12] J L zw_RM := by
    clear e12
    refine zv_run 3 (pc' := 49) (lo' := [some (.ref 0), some (.int x1), some (.int x2), some (.int (J 3 1)), some (.int v12), some (.int 0), none, none]) (st' := []) (I' := J) (L' := L) (R' := zw_RM) rfl ?_
    refine ml_unitsOf_49 (fun x4_49 p h => ?_) n _ _ p h
    refine zv_run 1 (pc' := 158) (lo' := [some (.ref 0), some (.int x1), some (.int x2), some (.int (J 3 1)), some (.int x4_49), none, none, none]) (st' := [.int x4_49]) (I' := J) (L' := L) (R' := zw_RM) rfl ?_
    obtain rfl := Option.some.inj h
    exact zv_iret (zs_at rfl) rfl ⟨Nat.le_refl _, Nat.le_refl _⟩ zw_here
  have h := e12
  refine zv_icmp_le (tgt := 43) (zs_at rfl) (by decide) (fun c12 => ?_) (fun c12 => ?_)
  · have h := mo_t h c12
    refine zv_run 1 (pc' := 44) (lo' := [some (.ref 0), some (.int x1), some (.int x2), some (.int (J 3 1)), none, none, none, none]) (st' := [.int 0]) (I' := J) (L' := L) (R' := zw_RM) rfl ?_
    obtain rfl := Option.some.inj h
    exact k12
  · have h := mo_f h c12
    refine zv_run 3 (pc' := 18) (lo' := [some (.ref 0), some (.int x1), some (.int x2), some (.int (J 3 1)), none, none, none, none]) (st' := [.ref 0, .int x1, .int x2]) (I' := J) (L' := L) (R' := zw_RM) rfl ?_
    refine zv_cV (M' := mm_X10_holds) (ci := 10) (a := 0) (av := []) (st := [.int x1, .int x2]) (r := some (.int (mf_holds J))) (I' := J) (L' := L) (R' := zw_RM) rfl zc_10_143 gd_X10_holds rfl rfl rfl (Nat.le_of_ble_eq_true rfl) (mt_holds (d := _) rfl) ⟨Nat.le_refl _, Nat.le_refl _⟩ ?_
    refine zv_run 0 (pc' := 21) (lo' := [some (.ref 0), some (.int x1), some (.int x2), some (.int (J 3 1)), none, none, none, none]) (st' := [.int (mf_holds J), .int x1, .int x2]) (I' := J) (L' := L) (R' := zw_RM) rfl ?_
    obtain ⟨v21, e21, h⟩ := mo_b h
    have k21 : zx_V mm_X10_unitsOf (d + 1) z0 (zw_ret (some (.int p)) zw_SM J L zw_RM) zw_SM 32 [some (.ref 0), some (.int x1), some (.int x2), some (.int (J 3 1)), none, none, none, none] [.int v21, .int x2] J L zw_RM := by
      clear e21
      refine zv_run 7 (pc' := 44) (lo' := [some (.ref 0), some (.int x1), some (.int x2), some (.int (J 3 1)), none, none, none, none]) (st' := [.int ((x2 - v21) * (J 3 2))]) (I' := J) (L' := L) (R' := zw_RM) rfl ?_
      obtain rfl := Option.some.inj h
      exact k12
    have h := e21
    refine zv_icmp_le (tgt := 28) (zs_at rfl) (by decide) (fun c21 => ?_) (fun c21 => ?_)
    · have h := mo_t h c21
      refine zv_run 1 (pc' := 29) (lo' := [some (.ref 0), some (.int x1), some (.int x2), some (.int (J 3 1)), none, none, none, none]) (st' := [.ref 0, .int x2]) (I' := J) (L' := L) (R' := zw_RM) rfl ?_
      refine zv_cV (M' := mm_X10_holds) (ci := 10) (a := 0) (av := []) (st := [.int x2]) (r := some (.int (mf_holds J))) (I' := J) (L' := L) (R' := zw_RM) rfl zc_10_143 gd_X10_holds rfl rfl rfl (Nat.le_of_ble_eq_true rfl) (mt_holds (d := _) rfl) ⟨Nat.le_refl _, Nat.le_refl _⟩ ?_
      refine zv_run 0 (pc' := 32) (lo' := [some (.ref 0), some (.int x1), some (.int x2), some (.int (J 3 1)), none, none, none, none]) (st' := [.int (mf_holds J), .int x2]) (I' := J) (L' := L) (R' := zw_RM) rfl ?_
      obtain rfl := Option.some.inj h
      exact k21
    · have h := mo_f h c21
      refine zv_run 2 (pc' := 32) (lo' := [some (.ref 0), some (.int x1), some (.int x2), some (.int (J 3 1)), none, none, none, none]) (st' := [.int x1, .int x2]) (I' := J) (L' := L) (R' := zw_RM) rfl ?_
      obtain rfl := Option.some.inj h
      exact k21
def mf_draw_9_b (n : Nat) (x1 : Int32) (x2 : Int32) (K : zx_I → Option (zx_I)) (Z : Int32 → zx_I → Option (zx_I)) (x3 : Int32) (J : zx_I) : Option (zx_I) := (if (J 3 0) ≤ x3 then K J else ((mf_unitsOf n ((x2 * x3) + x1) (((x2 * x3) + x2) + x1) J).bind fun p37 => (mo_g (mo_in x3 6) (Z (x3 + 1) (zx_uI J 11 x3.toNatClampNeg p37)))))
def mf_draw_9 (n : Nat) (x1 : Int32) (x2 : Int32) (K : zx_I → Option (zx_I)) : Nat → Int32 → zx_I → Option (zx_I)
  | 0 => fun _ _ => none
  | k + 1 => mf_draw_9_b n x1 x2 K (mf_draw_9 n x1 x2 K k)
def mf_draw_49_b (n : Nat) (K : zx_I → Option (zx_I)) (Z : Int32 → zx_I → Option (zx_I)) (x3 : Int32) (J : zx_I) : Option (zx_I) := (if (J 3 0) ≤ x3 then K J else (mo_g (mo_in x3 6) (mo_g (mo_in x3 6) (Z (x3 + 1) (zx_uI J 10 x3.toNatClampNeg (J 11 x3.toNatClampNeg))))))
def mf_draw_49 (n : Nat) (K : zx_I → Option (zx_I)) : Nat → Int32 → zx_I → Option (zx_I)
  | 0 => fun _ _ => none
  | k + 1 => mf_draw_49_b n K (mf_draw_49 n K k)
def mf_draw (n : Nat) (x1 : Int32) (J : zx_I) : Option (zx_I) := (mf_draw_9 n x1 (J 3 1) (fun J_9 => (mf_draw_49 n (fun J_49 => some (J_49)) n (0 : Int32) J_9)) n (0 : Int32) J)
theorem ml_draw_9 {n d : Nat} {x1 : Int32} {x2 : Int32} {L : zx_L} {K : zx_I → Option (zx_I)} (hK : ∀ (J : zx_I) (p : zx_I), K J = some p → zx_V mm_X10_draw (d + 2) z0 (zw_ret (none) zw_SM p L zw_RM) zw_SM 47 [some (.ref 0), some (.int x1), some (.int x2), none] [] J L zw_RM) : ∀ (k : Nat) (x3 : Int32) (J : zx_I) (p : zx_I), mf_draw_9 n x1 x2 K k x3 J = some p → zx_V mm_X10_draw (d + 2) z0 (zw_ret (none) zw_SM p L zw_RM) zw_SM 9 [some (.ref 0), some (.int x1), some (.int x2), some (.int x3)] [] J L zw_RM := by
  intro k
  induction k with
  | zero =>
    intro x3 J p h
    exact absurd (show (none : Option (zx_I)) = some p from h) (by intro q; cases q)
  | succ k ih =>
    intro x3 J p h
    have h : mf_draw_9_b n x1 x2 K (mf_draw_9 n x1 x2 K k) x3 J = some p := h
    unfold mf_draw_9_b at h
    refine zv_run 5 (pc' := 16) (lo' := [some (.ref 0), some (.int x1), some (.int x2), some (.int x3)]) (st' := [.int (J 3 0), .int x3]) (I' := J) (L' := L) (R' := zw_RM) rfl ?_
    refine zv_icmp_ge (tgt := 47) (zs_at rfl) (by decide) (fun c16 => ?_) (fun c16 => ?_)
    · have h := mo_t h c16
      refine zv_fg (lo' := [some (.ref 0), some (.int x1), some (.int x2), none]) (And.intro rfl (And.intro rfl (And.intro rfl (And.intro trivial rfl)))) ?_
      exact hK _ p h
    · have h := mo_f h c16
      refine zv_run 16 (pc' := 37) (lo' := [some (.ref 0), some (.int x1), some (.int x2), some (.int x3)]) (st' := [.int (((x2 * x3) + x2) + x1), .int ((x2 * x3) + x1), .ref 0, .int x3, .ref 11]) (I' := J) (L' := L) (R' := zw_RM) rfl ?_
      obtain ⟨p37, e37, h⟩ := mo_b h
      refine zv_cV (M' := mm_X10_unitsOf) (ci := 10) (a := 0) (av := [.int ((x2 * x3) + x1), .int (((x2 * x3) + x2) + x1)]) (st := [.int x3, .ref 11]) (r := some (.int p37)) (I' := J) (L' := L) (R' := zw_RM) rfl zc_10_146 gd_X10_unitsOf rfl rfl rfl (Nat.le_of_ble_eq_true rfl) (mt_unitsOf (d := _) e37) ⟨Nat.le_refl _, Nat.le_refl _⟩ ?_
      refine zv_run 0 (pc' := 40) (lo' := [some (.ref 0), some (.int x1), some (.int x2), some (.int x3)]) (st' := [.int p37, .int x3, .ref 11]) (I' := J) (L' := L) (R' := zw_RM) rfl ?_
      obtain ⟨g40, h⟩ := mo_gs h
      refine zv_iast (zs_at rfl) rfl (mo_in_vp g40) ?_
      refine zv_run 2 (pc' := 9) (lo' := [some (.ref 0), some (.int x1), some (.int x2), some (.int (x3 + 1))]) (st' := []) (I' := (zx_uI J 11 x3.toNatClampNeg p37)) (L' := L) (R' := zw_RM) rfl ?_
      exact ih _ _ p h
theorem ml_draw_49 {n d : Nat} {L : zx_L} {K : zx_I → Option (zx_I)} (hK : ∀ (J : zx_I) (p : zx_I), K J = some p → zx_V mm_X10_draw (d + 2) z0 (zw_ret (none) zw_SM p L zw_RM) zw_SM 77 [some (.ref 0), none, none, none] [] J L zw_RM) : ∀ (k : Nat) (x3 : Int32) (J : zx_I) (p : zx_I), mf_draw_49 n K k x3 J = some p → zx_V mm_X10_draw (d + 2) z0 (zw_ret (none) zw_SM p L zw_RM) zw_SM 49 [some (.ref 0), none, none, some (.int x3)] [] J L zw_RM := by
  intro k
  induction k with
  | zero =>
    intro x3 J p h
    exact absurd (show (none : Option (zx_I)) = some p from h) (by intro q; cases q)
  | succ k ih =>
    intro x3 J p h
    have h : mf_draw_49_b n K (mf_draw_49 n K k) x3 J = some p := h
    unfold mf_draw_49_b at h
    refine zv_run 5 (pc' := 56) (lo' := [some (.ref 0), none, none, some (.int x3)]) (st' := [.int (J 3 0), .int x3]) (I' := J) (L' := L) (R' := zw_RM) rfl ?_
    refine zv_icmp_ge (tgt := 77) (zs_at rfl) (by decide) (fun c56 => ?_) (fun c56 => ?_)
    · have h := mo_t h c56
      refine zv_fg (lo' := [some (.ref 0), none, none, none]) (And.intro rfl (And.intro trivial (And.intro trivial (And.intro trivial rfl)))) ?_
      exact hK _ p h
    · have h := mo_f h c56
      refine zv_run 6 (pc' := 69) (lo' := [some (.ref 0), none, none, some (.int x3)]) (st' := [.int x3, .ref 11, .int x3, .ref 10]) (I' := J) (L' := L) (R' := zw_RM) rfl ?_
      obtain ⟨g69, h⟩ := mo_gs h
      refine zv_iald (zs_at rfl) rfl (mo_in_vp g69) ?_
      refine zv_run 0 (pc' := 70) (lo' := [some (.ref 0), none, none, some (.int x3)]) (st' := [.int (J 11 x3.toNatClampNeg), .int x3, .ref 10]) (I' := J) (L' := L) (R' := zw_RM) rfl ?_
      obtain ⟨g70, h⟩ := mo_gs h
      refine zv_iast (zs_at rfl) rfl (mo_in_vp g70) ?_
      refine zv_run 2 (pc' := 49) (lo' := [some (.ref 0), none, none, some (.int (x3 + 1))]) (st' := []) (I' := (zx_uI J 10 x3.toNatClampNeg (J 11 x3.toNatClampNeg))) (L' := L) (R' := zw_RM) rfl ?_
      exact ih _ _ p h
theorem mt_draw {d n : Nat} {x1 : Int32} {J : zx_I} {L : zx_L} {p : zx_I} (h : mf_draw n x1 J = some p) : zx_M0 mm_X10_draw (d + 2) 0 0 [.ref 0, .int x1] zw_SM J L zw_RM (zw_ret (none) zw_SM p L zw_RM) := by
  unfold mf_draw at h
  refine zv_entry gd_X10_draw (Nat.le_of_ble_eq_true rfl) ?_
  refine zv_run 7 (pc' := 9) (lo' := [some (.ref 0), some (.int x1), some (.int (J 3 1)), some (.int 0)]) (st' := []) (I' := J) (L' := L) (R' := zw_RM) rfl ?_
  refine ml_draw_9 (fun J_9 p h => ?_) n _ _ p h
  refine zv_run 2 (pc' := 49) (lo' := [some (.ref 0), some (.int x1), some (.int (J 3 1)), some (.int 0)]) (st' := []) (I' := J_9) (L' := L) (R' := zw_RM) rfl ?_
  refine zv_fg (lo' := [some (.ref 0), none, none, some (.int 0)]) (And.intro rfl (And.intro trivial (And.intro trivial (And.intro rfl rfl)))) ?_
  refine ml_draw_49 (fun J_49 p h => ?_) n _ _ p h
  obtain rfl := Option.some.inj h
  exact zv_vret (zs_at rfl) rfl ⟨Nat.le_refl _, Nat.le_refl _⟩ zw_here
