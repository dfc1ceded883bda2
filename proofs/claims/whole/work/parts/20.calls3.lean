/-! drawn, bath, row, write -/
def q_drok (F : zx_I) (h : Nat) (i j : Int32) : Prop := ¬ i < 0 ∧ ¬ i > F 37 1 * F 37 2 ∧ ¬ j < -1 ∧ j < F h 1
def q_drv (F : zx_I) (i j : Int32) : Int32 := if j ≠ -1 then ft_unitsIn (ft_draw F i) j else ft_topc F i
def q_drm (F : zx_I) (i j : Int32) : zx_I := if j ≠ -1 then ft_draw F i else F
def q_bag (F : zx_I) (h : Nat) (kt : Int32) : Int32 := if kt = 0 then 0 else F h 9
def q_baok (I : zx_I) (h : Nat) (i what : Int32) : Option Nat := match fh_who I h i with
  | none => none
  | some w => if what < 0 then none else if what ≤ 1 then some w else none
def q_bav (F : zx_I) (h w : Nat) (kt what : Int32) : Int32 := if fc_is F w (q_bag F h kt) = 0 then -2 else if what ≠ 0 then fc_m F w (q_bag F h kt) 40 1 else fc_m F w (q_bag F h kt) 40 0
theorem ct_X9_drawn_no_4 {d : Nat} {I : zx_I} {L : zx_L} {la : Option Nat} {i j : Int32} (hH : hs_tk I 4) (hno : ¬ q_drok (ft_fill I 4) 4 i j) : zx_M0 mm_X9_drawn (d + 2) 0 0 [.ref 0, .int i, .int j] zw_SC I L (zw_RC 4 14 la) (zw_ret (some (.int (-1))) zw_SC (ft_fill I 4) L (zw_RC 4 14 la)) := by
  refine zv_entry gd_X9_drawn (Nat.le_of_ble_eq_true rfl) ?_
  refine zv_run 7 (pc' := 13) (lo' := [some (.ref 0), some (.int i), some (.int j), some (.ref 37)]) (st' := [.ref 4, .ref 37]) (I' := I) (L' := L) (R' := zw_RC 4 14 la) rfl ?_
  refine zv_cV (M' := mm_X7_fill) (ci := 7) (a := 37) (av := [.ref 4]) (st := []) (r := none) (I' := (ft_fill I 4)) (L' := L) (R' := zw_RC 4 14 la) rfl zc_9_99 gd_X7_fill rfl rfl rfl (Nat.le_of_ble_eq_true rfl) (ct_X7_fill (d := _) (Or.inl rfl) hH) ⟨Nat.le_refl _, Nat.le_refl _⟩ ?_
  refine zv_run 0 (pc' := 16) (lo' := [some (.ref 0), some (.int i), some (.int j), some (.ref 37)]) (st' := []) (I' := (ft_fill I 4)) (L' := L) (R' := zw_RC 4 14 la) rfl ?_
  refine zv_run 1 (pc' := 17) (lo' := [some (.ref 0), some (.int i), some (.int j), some (.ref 37)]) (st' := [.int i]) (I' := (ft_fill I 4)) (L' := L) (R' := zw_RC 4 14 la) rfl ?_
  refine zv_if_lt (tgt := 44) (zs_at rfl) (by decide) (fun c17 => ?_) (fun c17 => ?_)
  · have _c := c17
    refine zv_run 1 (pc' := 45) (lo' := [some (.ref 0), some (.int i), some (.int j), some (.ref 37)]) (st' := [.int (-1)]) (I' := (ft_fill I 4)) (L' := L) (R' := zw_RC 4 14 la) rfl ?_
    exact zv_iret (zs_at rfl) rfl ⟨Nat.le_refl _, Nat.le_refl _⟩ (zw_to rfl rfl rfl rfl)
  · have _c := c17
    refine zv_run 2 (pc' := 22) (lo' := [some (.ref 0), some (.int i), some (.int j), some (.ref 37)]) (st' := [.ref 37, .int i]) (I' := (ft_fill I 4)) (L' := L) (R' := zw_RC 4 14 la) rfl ?_
    refine zv_cV (M' := mm_X7_holds) (ci := 7) (a := 37) (av := []) (st := [.int i]) (r := some (.int (((ft_fill I 4) 37 1) * ((ft_fill I 4) 37 2)))) (I' := (ft_fill I 4)) (L' := L) (R' := zw_RC 4 14 la) rfl zc_9_105 gd_X7_holds rfl rfl rfl (Nat.le_of_ble_eq_true rfl) (ct_X7_holds (d := _)) ⟨Nat.le_refl _, Nat.le_refl _⟩ ?_
    refine zv_run 0 (pc' := 25) (lo' := [some (.ref 0), some (.int i), some (.int j), some (.ref 37)]) (st' := [.int (((ft_fill I 4) 37 1) * ((ft_fill I 4) 37 2)), .int i]) (I' := (ft_fill I 4)) (L' := L) (R' := zw_RC 4 14 la) rfl ?_
    refine zv_icmp_gt (tgt := 44) (zs_at rfl) (by decide) (fun c25 => ?_) (fun c25 => ?_)
    · have _c := c25
      refine zv_run 1 (pc' := 45) (lo' := [some (.ref 0), some (.int i), some (.int j), some (.ref 37)]) (st' := [.int (-1)]) (I' := (ft_fill I 4)) (L' := L) (R' := zw_RC 4 14 la) rfl ?_
      exact zv_iret (zs_at rfl) rfl ⟨Nat.le_refl _, Nat.le_refl _⟩ (zw_to rfl rfl rfl rfl)
    · have _c := c25
      refine zv_run 2 (pc' := 30) (lo' := [some (.ref 0), some (.int i), some (.int j), some (.ref 37)]) (st' := [.int (-1), .int j]) (I' := (ft_fill I 4)) (L' := L) (R' := zw_RC 4 14 la) rfl ?_
      refine zv_icmp_lt (tgt := 44) (zs_at rfl) (by decide) (fun c30 => ?_) (fun c30 => ?_)
      · have _c := c30
        refine zv_run 1 (pc' := 45) (lo' := [some (.ref 0), some (.int i), some (.int j), some (.ref 37)]) (st' := [.int (-1)]) (I' := (ft_fill I 4)) (L' := L) (R' := zw_RC 4 14 la) rfl ?_
        exact zv_iret (zs_at rfl) rfl ⟨Nat.le_refl _, Nat.le_refl _⟩ (zw_to rfl rfl rfl rfl)
      · have _c := c30
        refine zv_run 4 (pc' := 41) (lo' := [some (.ref 0), some (.int i), some (.int j), some (.ref 37)]) (st' := [.int ((ft_fill I 4) 4 1), .int j]) (I' := (ft_fill I 4)) (L' := L) (R' := zw_RC 4 14 la) rfl ?_
        refine zv_icmp_lt (tgt := 46) (zs_at rfl) (by decide) (fun c41 => ?_) (fun c41 => ?_)
        · have _c := c41
          exact absurd ⟨c17, c25, c30, c41⟩ hno
        · have _c := c41
          refine zv_run 1 (pc' := 45) (lo' := [some (.ref 0), some (.int i), some (.int j), some (.ref 37)]) (st' := [.int (-1)]) (I' := (ft_fill I 4)) (L' := L) (R' := zw_RC 4 14 la) rfl ?_
          exact zv_iret (zs_at rfl) rfl ⟨Nat.le_refl _, Nat.le_refl _⟩ (zw_to rfl rfl rfl rfl)
theorem ct_X9_drawn_no_14 {d : Nat} {I : zx_I} {L : zx_L} {la : Option Nat} {i j : Int32} (hH : hs_tk I 14) (hno : ¬ q_drok (ft_fill I 14) 14 i j) : zx_M0 mm_X9_drawn (d + 2) 0 0 [.ref 0, .int i, .int j] zw_SC I L (zw_RC 14 4 la) (zw_ret (some (.int (-1))) zw_SC (ft_fill I 14) L (zw_RC 14 4 la)) := by
  refine zv_entry gd_X9_drawn (Nat.le_of_ble_eq_true rfl) ?_
  refine zv_run 7 (pc' := 13) (lo' := [some (.ref 0), some (.int i), some (.int j), some (.ref 37)]) (st' := [.ref 14, .ref 37]) (I' := I) (L' := L) (R' := zw_RC 14 4 la) rfl ?_
  refine zv_cV (M' := mm_X7_fill) (ci := 7) (a := 37) (av := [.ref 14]) (st := []) (r := none) (I' := (ft_fill I 14)) (L' := L) (R' := zw_RC 14 4 la) rfl zc_9_99 gd_X7_fill rfl rfl rfl (Nat.le_of_ble_eq_true rfl) (ct_X7_fill (d := _) (Or.inr rfl) hH) ⟨Nat.le_refl _, Nat.le_refl _⟩ ?_
  refine zv_run 0 (pc' := 16) (lo' := [some (.ref 0), some (.int i), some (.int j), some (.ref 37)]) (st' := []) (I' := (ft_fill I 14)) (L' := L) (R' := zw_RC 14 4 la) rfl ?_
  refine zv_run 1 (pc' := 17) (lo' := [some (.ref 0), some (.int i), some (.int j), some (.ref 37)]) (st' := [.int i]) (I' := (ft_fill I 14)) (L' := L) (R' := zw_RC 14 4 la) rfl ?_
  refine zv_if_lt (tgt := 44) (zs_at rfl) (by decide) (fun c17 => ?_) (fun c17 => ?_)
  · have _c := c17
    refine zv_run 1 (pc' := 45) (lo' := [some (.ref 0), some (.int i), some (.int j), some (.ref 37)]) (st' := [.int (-1)]) (I' := (ft_fill I 14)) (L' := L) (R' := zw_RC 14 4 la) rfl ?_
    exact zv_iret (zs_at rfl) rfl ⟨Nat.le_refl _, Nat.le_refl _⟩ (zw_to rfl rfl rfl rfl)
  · have _c := c17
    refine zv_run 2 (pc' := 22) (lo' := [some (.ref 0), some (.int i), some (.int j), some (.ref 37)]) (st' := [.ref 37, .int i]) (I' := (ft_fill I 14)) (L' := L) (R' := zw_RC 14 4 la) rfl ?_
    refine zv_cV (M' := mm_X7_holds) (ci := 7) (a := 37) (av := []) (st := [.int i]) (r := some (.int (((ft_fill I 14) 37 1) * ((ft_fill I 14) 37 2)))) (I' := (ft_fill I 14)) (L' := L) (R' := zw_RC 14 4 la) rfl zc_9_105 gd_X7_holds rfl rfl rfl (Nat.le_of_ble_eq_true rfl) (ct_X7_holds (d := _)) ⟨Nat.le_refl _, Nat.le_refl _⟩ ?_
    refine zv_run 0 (pc' := 25) (lo' := [some (.ref 0), some (.int i), some (.int j), some (.ref 37)]) (st' := [.int (((ft_fill I 14) 37 1) * ((ft_fill I 14) 37 2)), .int i]) (I' := (ft_fill I 14)) (L' := L) (R' := zw_RC 14 4 la) rfl ?_
    refine zv_icmp_gt (tgt := 44) (zs_at rfl) (by decide) (fun c25 => ?_) (fun c25 => ?_)
    · have _c := c25
      refine zv_run 1 (pc' := 45) (lo' := [some (.ref 0), some (.int i), some (.int j), some (.ref 37)]) (st' := [.int (-1)]) (I' := (ft_fill I 14)) (L' := L) (R' := zw_RC 14 4 la) rfl ?_
      exact zv_iret (zs_at rfl) rfl ⟨Nat.le_refl _, Nat.le_refl _⟩ (zw_to rfl rfl rfl rfl)
    · have _c := c25
      refine zv_run 2 (pc' := 30) (lo' := [some (.ref 0), some (.int i), some (.int j), some (.ref 37)]) (st' := [.int (-1), .int j]) (I' := (ft_fill I 14)) (L' := L) (R' := zw_RC 14 4 la) rfl ?_
      refine zv_icmp_lt (tgt := 44) (zs_at rfl) (by decide) (fun c30 => ?_) (fun c30 => ?_)
      · have _c := c30
        refine zv_run 1 (pc' := 45) (lo' := [some (.ref 0), some (.int i), some (.int j), some (.ref 37)]) (st' := [.int (-1)]) (I' := (ft_fill I 14)) (L' := L) (R' := zw_RC 14 4 la) rfl ?_
        exact zv_iret (zs_at rfl) rfl ⟨Nat.le_refl _, Nat.le_refl _⟩ (zw_to rfl rfl rfl rfl)
      · have _c := c30
        refine zv_run 4 (pc' := 41) (lo' := [some (.ref 0), some (.int i), some (.int j), some (.ref 37)]) (st' := [.int ((ft_fill I 14) 14 1), .int j]) (I' := (ft_fill I 14)) (L' := L) (R' := zw_RC 14 4 la) rfl ?_
        refine zv_icmp_lt (tgt := 46) (zs_at rfl) (by decide) (fun c41 => ?_) (fun c41 => ?_)
        · have _c := c41
          exact absurd ⟨c17, c25, c30, c41⟩ hno
        · have _c := c41
          refine zv_run 1 (pc' := 45) (lo' := [some (.ref 0), some (.int i), some (.int j), some (.ref 37)]) (st' := [.int (-1)]) (I' := (ft_fill I 14)) (L' := L) (R' := zw_RC 14 4 la) rfl ?_
          exact zv_iret (zs_at rfl) rfl ⟨Nat.le_refl _, Nat.le_refl _⟩ (zw_to rfl rfl rfl rfl)
theorem ct_X9_drawn_no {d : Nat} {I : zx_I} {L : zx_L} {h sp : Nat} {la : Option Nat} {i j : Int32} (hh : hsp h sp) (hH : hs_tk I h) (hno : ¬ q_drok (ft_fill I h) h i j) : zx_M0 mm_X9_drawn (d + 2) 0 0 [.ref 0, .int i, .int j] zw_SC I L (zw_RC h sp la) (zw_ret (some (.int (-1))) zw_SC (ft_fill I h) L (zw_RC h sp la)) := by
  rcases hh with ⟨rfl, rfl⟩ | ⟨rfl, rfl⟩
  · exact ct_X9_drawn_no_4 hH hno
  · exact ct_X9_drawn_no_14 hH hno
theorem ct_X9_drawn_4 {d : Nat} {I : zx_I} {L : zx_L} {la : Option Nat} {i j : Int32} (hH : hs_tk I 4) (hok : q_drok (ft_fill I 4) 4 i j) (hT : tk_ok (ft_fill I 4)) (hq : ¬ i < 0 → ¬ i > ft_fill I 4 37 1 * ft_fill I 4 37 2 → ¬ i / ft_fill I 4 37 2 < 0 ∧ i / ft_fill I 4 37 2 ≤ ft_fill I 4 37 1) : zx_M0 mm_X9_drawn (d + 2) 0 0 [.ref 0, .int i, .int j] zw_SC I L (zw_RC 4 14 la) (zw_ret (some (.int (q_drv (ft_fill I 4) i j))) zw_SC (q_drm (ft_fill I 4) i j) L (zw_RC 4 14 la)) := by
  refine zv_entry gd_X9_drawn (Nat.le_of_ble_eq_true rfl) ?_
  refine zv_run 7 (pc' := 13) (lo' := [some (.ref 0), some (.int i), some (.int j), some (.ref 37)]) (st' := [.ref 4, .ref 37]) (I' := I) (L' := L) (R' := zw_RC 4 14 la) rfl ?_
  refine zv_cV (M' := mm_X7_fill) (ci := 7) (a := 37) (av := [.ref 4]) (st := []) (r := none) (I' := (ft_fill I 4)) (L' := L) (R' := zw_RC 4 14 la) rfl zc_9_99 gd_X7_fill rfl rfl rfl (Nat.le_of_ble_eq_true rfl) (ct_X7_fill (d := _) (Or.inl rfl) hH) ⟨Nat.le_refl _, Nat.le_refl _⟩ ?_
  refine zv_run 0 (pc' := 16) (lo' := [some (.ref 0), some (.int i), some (.int j), some (.ref 37)]) (st' := []) (I' := (ft_fill I 4)) (L' := L) (R' := zw_RC 4 14 la) rfl ?_
  refine zv_run 1 (pc' := 17) (lo' := [some (.ref 0), some (.int i), some (.int j), some (.ref 37)]) (st' := [.int i]) (I' := (ft_fill I 4)) (L' := L) (R' := zw_RC 4 14 la) rfl ?_
  refine zv_if_lt (tgt := 44) (zs_at rfl) (by decide) (fun c17 => ?_) (fun c17 => ?_)
  · have _c := c17
    refine zv_run 1 (pc' := 45) (lo' := [some (.ref 0), some (.int i), some (.int j), some (.ref 37)]) (st' := [.int (-1)]) (I' := (ft_fill I 4)) (L' := L) (R' := zw_RC 4 14 la) rfl ?_
    exact zv_iret (zs_at rfl) rfl ⟨Nat.le_refl _, Nat.le_refl _⟩ (absurd hok (fun q => by first | exact q.1 c17 | exact q.2.1 c25 | exact q.2.2.1 c30 | exact c41 q.2.2.2))
  · have _c := c17
    refine zv_run 2 (pc' := 22) (lo' := [some (.ref 0), some (.int i), some (.int j), some (.ref 37)]) (st' := [.ref 37, .int i]) (I' := (ft_fill I 4)) (L' := L) (R' := zw_RC 4 14 la) rfl ?_
    refine zv_cV (M' := mm_X7_holds) (ci := 7) (a := 37) (av := []) (st := [.int i]) (r := some (.int (((ft_fill I 4) 37 1) * ((ft_fill I 4) 37 2)))) (I' := (ft_fill I 4)) (L' := L) (R' := zw_RC 4 14 la) rfl zc_9_105 gd_X7_holds rfl rfl rfl (Nat.le_of_ble_eq_true rfl) (ct_X7_holds (d := _)) ⟨Nat.le_refl _, Nat.le_refl _⟩ ?_
    refine zv_run 0 (pc' := 25) (lo' := [some (.ref 0), some (.int i), some (.int j), some (.ref 37)]) (st' := [.int (((ft_fill I 4) 37 1) * ((ft_fill I 4) 37 2)), .int i]) (I' := (ft_fill I 4)) (L' := L) (R' := zw_RC 4 14 la) rfl ?_
    refine zv_icmp_gt (tgt := 44) (zs_at rfl) (by decide) (fun c25 => ?_) (fun c25 => ?_)
    · have _c := c25
      refine zv_run 1 (pc' := 45) (lo' := [some (.ref 0), some (.int i), some (.int j), some (.ref 37)]) (st' := [.int (-1)]) (I' := (ft_fill I 4)) (L' := L) (R' := zw_RC 4 14 la) rfl ?_
      exact zv_iret (zs_at rfl) rfl ⟨Nat.le_refl _, Nat.le_refl _⟩ (absurd hok (fun q => by first | exact q.1 c17 | exact q.2.1 c25 | exact q.2.2.1 c30 | exact c41 q.2.2.2))
    · have _c := c25
      refine zv_run 2 (pc' := 30) (lo' := [some (.ref 0), some (.int i), some (.int j), some (.ref 37)]) (st' := [.int (-1), .int j]) (I' := (ft_fill I 4)) (L' := L) (R' := zw_RC 4 14 la) rfl ?_
      refine zv_icmp_lt (tgt := 44) (zs_at rfl) (by decide) (fun c30 => ?_) (fun c30 => ?_)
      · have _c := c30
        refine zv_run 1 (pc' := 45) (lo' := [some (.ref 0), some (.int i), some (.int j), some (.ref 37)]) (st' := [.int (-1)]) (I' := (ft_fill I 4)) (L' := L) (R' := zw_RC 4 14 la) rfl ?_
        exact zv_iret (zs_at rfl) rfl ⟨Nat.le_refl _, Nat.le_refl _⟩ (absurd hok (fun q => by first | exact q.1 c17 | exact q.2.1 c25 | exact q.2.2.1 c30 | exact c41 q.2.2.2))
      · have _c := c30
        refine zv_run 4 (pc' := 41) (lo' := [some (.ref 0), some (.int i), some (.int j), some (.ref 37)]) (st' := [.int ((ft_fill I 4) 4 1), .int j]) (I' := (ft_fill I 4)) (L' := L) (R' := zw_RC 4 14 la) rfl ?_
        refine zv_icmp_lt (tgt := 46) (zs_at rfl) (by decide) (fun c41 => ?_) (fun c41 => ?_)
        · have _c := c41
          refine zv_run 2 (pc' := 48) (lo' := [some (.ref 0), some (.int i), some (.int j), some (.ref 37)]) (st' := [.int (-1), .int j]) (I' := (ft_fill I 4)) (L' := L) (R' := zw_RC 4 14 la) rfl ?_
          refine zv_icmp_ne (tgt := 57) (zs_at rfl) (by decide) (fun c48 => ?_) (fun c48 => ?_)
          · have _c := c48
            refine zv_run 2 (pc' := 59) (lo' := [some (.ref 0), some (.int i), some (.int j), some (.ref 37)]) (st' := [.int i, .ref 37]) (I' := (ft_fill I 4)) (L' := L) (R' := zw_RC 4 14 la) rfl ?_
            refine zv_cV (M' := mm_X7_draw) (ci := 7) (a := 37) (av := [.int i]) (st := []) (r := none) (I' := (ft_draw (ft_fill I 4) i)) (L' := L) (R' := zw_RC 4 14 la) rfl zc_9_114 gd_X7_draw rfl rfl rfl (Nat.le_of_ble_eq_true rfl) (ct_X7_draw (d := _) hT) ⟨Nat.le_refl _, Nat.le_refl _⟩ ?_
            refine zv_run 0 (pc' := 62) (lo' := [some (.ref 0), some (.int i), some (.int j), some (.ref 37)]) (st' := []) (I' := (ft_draw (ft_fill I 4) i)) (L' := L) (R' := zw_RC 4 14 la) rfl ?_
            refine zv_run 2 (pc' := 64) (lo' := [some (.ref 0), some (.int i), some (.int j), some (.ref 37)]) (st' := [.int j, .ref 37]) (I' := (ft_draw (ft_fill I 4) i)) (L' := L) (R' := zw_RC 4 14 la) rfl ?_
            refine zv_cV (M' := mm_X7_unitsIn) (ci := 7) (a := 37) (av := [.int j]) (st := []) (r := some (.int (ft_unitsIn (ft_draw (ft_fill I 4) i) j))) (I' := (ft_draw (ft_fill I 4) i)) (L' := L) (R' := zw_RC 4 14 la) rfl zc_9_118 gd_X7_unitsIn rfl rfl rfl (Nat.le_of_ble_eq_true rfl) (ct_X7_unitsIn (d := _) (tk_cg (I := ft_fill I 4) rfl hT)) ⟨Nat.le_refl _, Nat.le_refl _⟩ ?_
            refine zv_run 0 (pc' := 67) (lo' := [some (.ref 0), some (.int i), some (.int j), some (.ref 37)]) (st' := [.int (ft_unitsIn (ft_draw (ft_fill I 4) i) j)]) (I' := (ft_draw (ft_fill I 4) i)) (L' := L) (R' := zw_RC 4 14 la) rfl ?_
            exact zv_iret (zs_at rfl) rfl ⟨Nat.le_refl _, Nat.le_refl _⟩ (zw_to (by unfold q_drv; rw [if_pos c48]) (by unfold q_drm; rw [if_pos c48]) rfl rfl)
          · have _c := c48
            refine zv_run 2 (pc' := 53) (lo' := [some (.ref 0), some (.int i), some (.int j), some (.ref 37)]) (st' := [.int i, .ref 37]) (I' := (ft_fill I 4)) (L' := L) (R' := zw_RC 4 14 la) rfl ?_
            refine zv_cV (M' := mm_X7_unitsOfTop) (ci := 7) (a := 37) (av := [.int i]) (st := []) (r := some (.int (ft_topc (ft_fill I 4) i))) (I' := (ft_fill I 4)) (L' := L) (R' := zw_RC 4 14 la) rfl zc_9_111 gd_X7_unitsOfTop rfl rfl rfl (Nat.le_of_ble_eq_true rfl) (ct2_X7_unitsOfTop (d := _) (I := (ft_fill I 4)) hT (hq c17 c25).1 (hq c17 c25).2) ⟨Nat.le_refl _, Nat.le_refl _⟩ ?_
            refine zv_run 0 (pc' := 56) (lo' := [some (.ref 0), some (.int i), some (.int j), some (.ref 37)]) (st' := [.int (ft_topc (ft_fill I 4) i)]) (I' := (ft_fill I 4)) (L' := L) (R' := zw_RC 4 14 la) rfl ?_
            exact zv_iret (zs_at rfl) rfl ⟨Nat.le_refl _, Nat.le_refl _⟩ (zw_to (by unfold q_drv; rw [if_neg (fun q => q c48)]) (by unfold q_drm; rw [if_neg (fun q => q c48)]) rfl rfl)
        · have _c := c41
          refine zv_run 1 (pc' := 45) (lo' := [some (.ref 0), some (.int i), some (.int j), some (.ref 37)]) (st' := [.int (-1)]) (I' := (ft_fill I 4)) (L' := L) (R' := zw_RC 4 14 la) rfl ?_
          exact zv_iret (zs_at rfl) rfl ⟨Nat.le_refl _, Nat.le_refl _⟩ (absurd hok (fun q => by first | exact q.1 c17 | exact q.2.1 c25 | exact q.2.2.1 c30 | exact c41 q.2.2.2))
theorem ct_X9_drawn_14 {d : Nat} {I : zx_I} {L : zx_L} {la : Option Nat} {i j : Int32} (hH : hs_tk I 14) (hok : q_drok (ft_fill I 14) 14 i j) (hT : tk_ok (ft_fill I 14)) (hq : ¬ i < 0 → ¬ i > ft_fill I 14 37 1 * ft_fill I 14 37 2 → ¬ i / ft_fill I 14 37 2 < 0 ∧ i / ft_fill I 14 37 2 ≤ ft_fill I 14 37 1) : zx_M0 mm_X9_drawn (d + 2) 0 0 [.ref 0, .int i, .int j] zw_SC I L (zw_RC 14 4 la) (zw_ret (some (.int (q_drv (ft_fill I 14) i j))) zw_SC (q_drm (ft_fill I 14) i j) L (zw_RC 14 4 la)) := by
  refine zv_entry gd_X9_drawn (Nat.le_of_ble_eq_true rfl) ?_
  refine zv_run 7 (pc' := 13) (lo' := [some (.ref 0), some (.int i), some (.int j), some (.ref 37)]) (st' := [.ref 14, .ref 37]) (I' := I) (L' := L) (R' := zw_RC 14 4 la) rfl ?_
  refine zv_cV (M' := mm_X7_fill) (ci := 7) (a := 37) (av := [.ref 14]) (st := []) (r := none) (I' := (ft_fill I 14)) (L' := L) (R' := zw_RC 14 4 la) rfl zc_9_99 gd_X7_fill rfl rfl rfl (Nat.le_of_ble_eq_true rfl) (ct_X7_fill (d := _) (Or.inr rfl) hH) ⟨Nat.le_refl _, Nat.le_refl _⟩ ?_
  refine zv_run 0 (pc' := 16) (lo' := [some (.ref 0), some (.int i), some (.int j), some (.ref 37)]) (st' := []) (I' := (ft_fill I 14)) (L' := L) (R' := zw_RC 14 4 la) rfl ?_
  refine zv_run 1 (pc' := 17) (lo' := [some (.ref 0), some (.int i), some (.int j), some (.ref 37)]) (st' := [.int i]) (I' := (ft_fill I 14)) (L' := L) (R' := zw_RC 14 4 la) rfl ?_
  refine zv_if_lt (tgt := 44) (zs_at rfl) (by decide) (fun c17 => ?_) (fun c17 => ?_)
  · have _c := c17
    refine zv_run 1 (pc' := 45) (lo' := [some (.ref 0), some (.int i), some (.int j), some (.ref 37)]) (st' := [.int (-1)]) (I' := (ft_fill I 14)) (L' := L) (R' := zw_RC 14 4 la) rfl ?_
    exact zv_iret (zs_at rfl) rfl ⟨Nat.le_refl _, Nat.le_refl _⟩ (absurd hok (fun q => by first | exact q.1 c17 | exact q.2.1 c25 | exact q.2.2.1 c30 | exact c41 q.2.2.2))
  · have _c := c17
    refine zv_run 2 (pc' := 22) (lo' := [some (.ref 0), some (.int i), some (.int j), some (.ref 37)]) (st' := [.ref 37, .int i]) (I' := (ft_fill I 14)) (L' := L) (R' := zw_RC 14 4 la) rfl ?_
    refine zv_cV (M' := mm_X7_holds) (ci := 7) (a := 37) (av := []) (st := [.int i]) (r := some (.int (((ft_fill I 14) 37 1) * ((ft_fill I 14) 37 2)))) (I' := (ft_fill I 14)) (L' := L) (R' := zw_RC 14 4 la) rfl zc_9_105 gd_X7_holds rfl rfl rfl (Nat.le_of_ble_eq_true rfl) (ct_X7_holds (d := _)) ⟨Nat.le_refl _, Nat.le_refl _⟩ ?_
    refine zv_run 0 (pc' := 25) (lo' := [some (.ref 0), some (.int i), some (.int j), some (.ref 37)]) (st' := [.int (((ft_fill I 14) 37 1) * ((ft_fill I 14) 37 2)), .int i]) (I' := (ft_fill I 14)) (L' := L) (R' := zw_RC 14 4 la) rfl ?_
    refine zv_icmp_gt (tgt := 44) (zs_at rfl) (by decide) (fun c25 => ?_) (fun c25 => ?_)
    · have _c := c25
      refine zv_run 1 (pc' := 45) (lo' := [some (.ref 0), some (.int i), some (.int j), some (.ref 37)]) (st' := [.int (-1)]) (I' := (ft_fill I 14)) (L' := L) (R' := zw_RC 14 4 la) rfl ?_
      exact zv_iret (zs_at rfl) rfl ⟨Nat.le_refl _, Nat.le_refl _⟩ (absurd hok (fun q => by first | exact q.1 c17 | exact q.2.1 c25 | exact q.2.2.1 c30 | exact c41 q.2.2.2))
    · have _c := c25
      refine zv_run 2 (pc' := 30) (lo' := [some (.ref 0), some (.int i), some (.int j), some (.ref 37)]) (st' := [.int (-1), .int j]) (I' := (ft_fill I 14)) (L' := L) (R' := zw_RC 14 4 la) rfl ?_
      refine zv_icmp_lt (tgt := 44) (zs_at rfl) (by decide) (fun c30 => ?_) (fun c30 => ?_)
      · have _c := c30
        refine zv_run 1 (pc' := 45) (lo' := [some (.ref 0), some (.int i), some (.int j), some (.ref 37)]) (st' := [.int (-1)]) (I' := (ft_fill I 14)) (L' := L) (R' := zw_RC 14 4 la) rfl ?_
        exact zv_iret (zs_at rfl) rfl ⟨Nat.le_refl _, Nat.le_refl _⟩ (absurd hok (fun q => by first | exact q.1 c17 | exact q.2.1 c25 | exact q.2.2.1 c30 | exact c41 q.2.2.2))
      · have _c := c30
        refine zv_run 4 (pc' := 41) (lo' := [some (.ref 0), some (.int i), some (.int j), some (.ref 37)]) (st' := [.int ((ft_fill I 14) 14 1), .int j]) (I' := (ft_fill I 14)) (L' := L) (R' := zw_RC 14 4 la) rfl ?_
        refine zv_icmp_lt (tgt := 46) (zs_at rfl) (by decide) (fun c41 => ?_) (fun c41 => ?_)
        · have _c := c41
          refine zv_run 2 (pc' := 48) (lo' := [some (.ref 0), some (.int i), some (.int j), some (.ref 37)]) (st' := [.int (-1), .int j]) (I' := (ft_fill I 14)) (L' := L) (R' := zw_RC 14 4 la) rfl ?_
          refine zv_icmp_ne (tgt := 57) (zs_at rfl) (by decide) (fun c48 => ?_) (fun c48 => ?_)
          · have _c := c48
            refine zv_run 2 (pc' := 59) (lo' := [some (.ref 0), some (.int i), some (.int j), some (.ref 37)]) (st' := [.int i, .ref 37]) (I' := (ft_fill I 14)) (L' := L) (R' := zw_RC 14 4 la) rfl ?_
            refine zv_cV (M' := mm_X7_draw) (ci := 7) (a := 37) (av := [.int i]) (st := []) (r := none) (I' := (ft_draw (ft_fill I 14) i)) (L' := L) (R' := zw_RC 14 4 la) rfl zc_9_114 gd_X7_draw rfl rfl rfl (Nat.le_of_ble_eq_true rfl) (ct_X7_draw (d := _) hT) ⟨Nat.le_refl _, Nat.le_refl _⟩ ?_
            refine zv_run 0 (pc' := 62) (lo' := [some (.ref 0), some (.int i), some (.int j), some (.ref 37)]) (st' := []) (I' := (ft_draw (ft_fill I 14) i)) (L' := L) (R' := zw_RC 14 4 la) rfl ?_
            refine zv_run 2 (pc' := 64) (lo' := [some (.ref 0), some (.int i), some (.int j), some (.ref 37)]) (st' := [.int j, .ref 37]) (I' := (ft_draw (ft_fill I 14) i)) (L' := L) (R' := zw_RC 14 4 la) rfl ?_
            refine zv_cV (M' := mm_X7_unitsIn) (ci := 7) (a := 37) (av := [.int j]) (st := []) (r := some (.int (ft_unitsIn (ft_draw (ft_fill I 14) i) j))) (I' := (ft_draw (ft_fill I 14) i)) (L' := L) (R' := zw_RC 14 4 la) rfl zc_9_118 gd_X7_unitsIn rfl rfl rfl (Nat.le_of_ble_eq_true rfl) (ct_X7_unitsIn (d := _) (tk_cg (I := ft_fill I 14) rfl hT)) ⟨Nat.le_refl _, Nat.le_refl _⟩ ?_
            refine zv_run 0 (pc' := 67) (lo' := [some (.ref 0), some (.int i), some (.int j), some (.ref 37)]) (st' := [.int (ft_unitsIn (ft_draw (ft_fill I 14) i) j)]) (I' := (ft_draw (ft_fill I 14) i)) (L' := L) (R' := zw_RC 14 4 la) rfl ?_
            exact zv_iret (zs_at rfl) rfl ⟨Nat.le_refl _, Nat.le_refl _⟩ (zw_to (by unfold q_drv; rw [if_pos c48]) (by unfold q_drm; rw [if_pos c48]) rfl rfl)
          · have _c := c48
            refine zv_run 2 (pc' := 53) (lo' := [some (.ref 0), some (.int i), some (.int j), some (.ref 37)]) (st' := [.int i, .ref 37]) (I' := (ft_fill I 14)) (L' := L) (R' := zw_RC 14 4 la) rfl ?_
            refine zv_cV (M' := mm_X7_unitsOfTop) (ci := 7) (a := 37) (av := [.int i]) (st := []) (r := some (.int (ft_topc (ft_fill I 14) i))) (I' := (ft_fill I 14)) (L' := L) (R' := zw_RC 14 4 la) rfl zc_9_111 gd_X7_unitsOfTop rfl rfl rfl (Nat.le_of_ble_eq_true rfl) (ct2_X7_unitsOfTop (d := _) (I := (ft_fill I 14)) hT (hq c17 c25).1 (hq c17 c25).2) ⟨Nat.le_refl _, Nat.le_refl _⟩ ?_
            refine zv_run 0 (pc' := 56) (lo' := [some (.ref 0), some (.int i), some (.int j), some (.ref 37)]) (st' := [.int (ft_topc (ft_fill I 14) i)]) (I' := (ft_fill I 14)) (L' := L) (R' := zw_RC 14 4 la) rfl ?_
            exact zv_iret (zs_at rfl) rfl ⟨Nat.le_refl _, Nat.le_refl _⟩ (zw_to (by unfold q_drv; rw [if_neg (fun q => q c48)]) (by unfold q_drm; rw [if_neg (fun q => q c48)]) rfl rfl)
        · have _c := c41
          refine zv_run 1 (pc' := 45) (lo' := [some (.ref 0), some (.int i), some (.int j), some (.ref 37)]) (st' := [.int (-1)]) (I' := (ft_fill I 14)) (L' := L) (R' := zw_RC 14 4 la) rfl ?_
          exact zv_iret (zs_at rfl) rfl ⟨Nat.le_refl _, Nat.le_refl _⟩ (absurd hok (fun q => by first | exact q.1 c17 | exact q.2.1 c25 | exact q.2.2.1 c30 | exact c41 q.2.2.2))
theorem ct_X9_drawn {d : Nat} {I : zx_I} {L : zx_L} {h sp : Nat} {la : Option Nat} {i j : Int32} (hh : hsp h sp) (hH : hs_tk I h) (hok : q_drok (ft_fill I h) h i j) (hT : tk_ok (ft_fill I h)) (hq : ¬ i < 0 → ¬ i > ft_fill I h 37 1 * ft_fill I h 37 2 → ¬ i / ft_fill I h 37 2 < 0 ∧ i / ft_fill I h 37 2 ≤ ft_fill I h 37 1) : zx_M0 mm_X9_drawn (d + 2) 0 0 [.ref 0, .int i, .int j] zw_SC I L (zw_RC h sp la) (zw_ret (some (.int (q_drv (ft_fill I h) i j))) zw_SC (q_drm (ft_fill I h) i j) L (zw_RC h sp la)) := by
  rcases hh with ⟨rfl, rfl⟩ | ⟨rfl, rfl⟩
  · exact ct_X9_drawn_4 hH hok hT hq
  · exact ct_X9_drawn_14 hH hok hT hq
theorem ct_X9_bath_no_4 {d : Nat} {I : zx_I} {L : zx_L} {la : Option Nat} {i kt what : Int32} (hno : q_baok I 4 i what = none) : zx_M0 mm_X9_bath (d + 2) 0 0 [.ref 0, .int i, .int kt, .int what] zw_SC I L (zw_RC 4 14 la) (zw_ret (some (.int (-1))) zw_SC I L (zw_RC 4 14 la)) := by
  refine zv_entry gd_X9_bath (Nat.le_of_ble_eq_true rfl) ?_
  refine zv_run 3 (pc' := 5) (lo' := [some (.ref 0), some (.int i), some (.int kt), some (.int what), none]) (st' := [.int i, .ref 4]) (I' := I) (L' := L) (R' := zw_RC 4 14 la) rfl ?_
  refine zv_cV (M' := mm_X5_who) (ci := 5) (a := 4) (av := [.int i]) (st := []) (r := some (va_rf (fh_who I 4 i))) (I' := I) (L' := L) (R' := zw_RC 4 14 la) rfl zc_9_85 gd_X5_who rfl rfl rfl (Nat.le_of_ble_eq_true rfl) (ct_X5_who (d := _) (Or.inl rfl)) ⟨Nat.le_refl _, Nat.le_refl _⟩ ?_
  rcases hw8 : fh_who I 4 i with _ | w
  · refine zv_run 0 (pc' := 8) (lo' := [some (.ref 0), some (.int i), some (.int kt), some (.int what), none]) (st' := [.null]) (I' := I) (L' := L) (R' := zw_RC 4 14 la) rfl ?_
    refine zv_run 2 (pc' := 12) (lo' := [some (.ref 0), some (.int i), some (.int kt), some (.int what), some (.null)]) (st' := [.null]) (I' := I) (L' := L) (R' := zw_RC 4 14 la) rfl ?_
    refine zv_ifnullN (tgt := 24) (zs_at rfl) (by decide) ?_
    refine zv_run 1 (pc' := 25) (lo' := [some (.ref 0), some (.int i), some (.int kt), some (.int what), some (.null)]) (st' := [.int (-1)]) (I' := I) (L' := L) (R' := zw_RC 4 14 la) rfl ?_
    exact zv_iret (zs_at rfl) rfl ⟨Nat.le_refl _, Nat.le_refl _⟩ (zw_to rfl rfl rfl rfl)
  · refine zv_run 0 (pc' := 8) (lo' := [some (.ref 0), some (.int i), some (.int kt), some (.int what), none]) (st' := [.ref w]) (I' := I) (L' := L) (R' := zw_RC 4 14 la) rfl ?_
    have hwf := fh_who_bt (Or.inl rfl) hw8
    refine zv_run 2 (pc' := 12) (lo' := [some (.ref 0), some (.int i), some (.int kt), some (.int what), some (.ref w)]) (st' := [.ref w]) (I' := I) (L' := L) (R' := zw_RC 4 14 la) rfl ?_
    refine zv_ifnull (zs_at rfl) ?_
    refine zv_run 1 (pc' := 16) (lo' := [some (.ref 0), some (.int i), some (.int kt), some (.int what), some (.ref w)]) (st' := [.int what]) (I' := I) (L' := L) (R' := zw_RC 4 14 la) rfl ?_
    refine zv_if_lt (tgt := 24) (zs_at rfl) (by decide) (fun c16 => ?_) (fun c16 => ?_)
    · have _c := c16
      refine zv_run 1 (pc' := 25) (lo' := [some (.ref 0), some (.int i), some (.int kt), some (.int what), some (.ref w)]) (st' := [.int (-1)]) (I' := I) (L' := L) (R' := zw_RC 4 14 la) rfl ?_
      exact zv_iret (zs_at rfl) rfl ⟨Nat.le_refl _, Nat.le_refl _⟩ (zw_to rfl rfl rfl rfl)
    · have _c := c16
      refine zv_run 2 (pc' := 21) (lo' := [some (.ref 0), some (.int i), some (.int kt), some (.int what), some (.ref w)]) (st' := [.int 1, .int what]) (I' := I) (L' := L) (R' := zw_RC 4 14 la) rfl ?_
      refine zv_icmp_le (tgt := 26) (zs_at rfl) (by decide) (fun c21 => ?_) (fun c21 => ?_)
      · have _c := c21
        exact absurd hno (by unfold q_baok; rw [hw8]; dsimp only; rw [if_neg c16, if_pos c21]; exact fun q => by cases q)
      · have _c := c21
        refine zv_run 1 (pc' := 25) (lo' := [some (.ref 0), some (.int i), some (.int kt), some (.int what), some (.ref w)]) (st' := [.int (-1)]) (I' := I) (L' := L) (R' := zw_RC 4 14 la) rfl ?_
        exact zv_iret (zs_at rfl) rfl ⟨Nat.le_refl _, Nat.le_refl _⟩ (zw_to rfl rfl rfl rfl)
theorem ct_X9_bath_no_14 {d : Nat} {I : zx_I} {L : zx_L} {la : Option Nat} {i kt what : Int32} (hno : q_baok I 14 i what = none) : zx_M0 mm_X9_bath (d + 2) 0 0 [.ref 0, .int i, .int kt, .int what] zw_SC I L (zw_RC 14 4 la) (zw_ret (some (.int (-1))) zw_SC I L (zw_RC 14 4 la)) := by
  refine zv_entry gd_X9_bath (Nat.le_of_ble_eq_true rfl) ?_
  refine zv_run 3 (pc' := 5) (lo' := [some (.ref 0), some (.int i), some (.int kt), some (.int what), none]) (st' := [.int i, .ref 14]) (I' := I) (L' := L) (R' := zw_RC 14 4 la) rfl ?_
  refine zv_cV (M' := mm_X5_who) (ci := 5) (a := 14) (av := [.int i]) (st := []) (r := some (va_rf (fh_who I 14 i))) (I' := I) (L' := L) (R' := zw_RC 14 4 la) rfl zc_9_85 gd_X5_who rfl rfl rfl (Nat.le_of_ble_eq_true rfl) (ct_X5_who (d := _) (Or.inr rfl)) ⟨Nat.le_refl _, Nat.le_refl _⟩ ?_
  rcases hw8 : fh_who I 14 i with _ | w
  · refine zv_run 0 (pc' := 8) (lo' := [some (.ref 0), some (.int i), some (.int kt), some (.int what), none]) (st' := [.null]) (I' := I) (L' := L) (R' := zw_RC 14 4 la) rfl ?_
    refine zv_run 2 (pc' := 12) (lo' := [some (.ref 0), some (.int i), some (.int kt), some (.int what), some (.null)]) (st' := [.null]) (I' := I) (L' := L) (R' := zw_RC 14 4 la) rfl ?_
    refine zv_ifnullN (tgt := 24) (zs_at rfl) (by decide) ?_
    refine zv_run 1 (pc' := 25) (lo' := [some (.ref 0), some (.int i), some (.int kt), some (.int what), some (.null)]) (st' := [.int (-1)]) (I' := I) (L' := L) (R' := zw_RC 14 4 la) rfl ?_
    exact zv_iret (zs_at rfl) rfl ⟨Nat.le_refl _, Nat.le_refl _⟩ (zw_to rfl rfl rfl rfl)
  · refine zv_run 0 (pc' := 8) (lo' := [some (.ref 0), some (.int i), some (.int kt), some (.int what), none]) (st' := [.ref w]) (I' := I) (L' := L) (R' := zw_RC 14 4 la) rfl ?_
    have hwf := fh_who_bt (Or.inr rfl) hw8
    refine zv_run 2 (pc' := 12) (lo' := [some (.ref 0), some (.int i), some (.int kt), some (.int what), some (.ref w)]) (st' := [.ref w]) (I' := I) (L' := L) (R' := zw_RC 14 4 la) rfl ?_
    refine zv_ifnull (zs_at rfl) ?_
    refine zv_run 1 (pc' := 16) (lo' := [some (.ref 0), some (.int i), some (.int kt), some (.int what), some (.ref w)]) (st' := [.int what]) (I' := I) (L' := L) (R' := zw_RC 14 4 la) rfl ?_
    refine zv_if_lt (tgt := 24) (zs_at rfl) (by decide) (fun c16 => ?_) (fun c16 => ?_)
    · have _c := c16
      refine zv_run 1 (pc' := 25) (lo' := [some (.ref 0), some (.int i), some (.int kt), some (.int what), some (.ref w)]) (st' := [.int (-1)]) (I' := I) (L' := L) (R' := zw_RC 14 4 la) rfl ?_
      exact zv_iret (zs_at rfl) rfl ⟨Nat.le_refl _, Nat.le_refl _⟩ (zw_to rfl rfl rfl rfl)
    · have _c := c16
      refine zv_run 2 (pc' := 21) (lo' := [some (.ref 0), some (.int i), some (.int kt), some (.int what), some (.ref w)]) (st' := [.int 1, .int what]) (I' := I) (L' := L) (R' := zw_RC 14 4 la) rfl ?_
      refine zv_icmp_le (tgt := 26) (zs_at rfl) (by decide) (fun c21 => ?_) (fun c21 => ?_)
      · have _c := c21
        exact absurd hno (by unfold q_baok; rw [hw8]; dsimp only; rw [if_neg c16, if_pos c21]; exact fun q => by cases q)
      · have _c := c21
        refine zv_run 1 (pc' := 25) (lo' := [some (.ref 0), some (.int i), some (.int kt), some (.int what), some (.ref w)]) (st' := [.int (-1)]) (I' := I) (L' := L) (R' := zw_RC 14 4 la) rfl ?_
        exact zv_iret (zs_at rfl) rfl ⟨Nat.le_refl _, Nat.le_refl _⟩ (zw_to rfl rfl rfl rfl)
theorem ct_X9_bath_no {d : Nat} {I : zx_I} {L : zx_L} {h sp : Nat} {la : Option Nat} {i kt what : Int32} (hh : hsp h sp) (hno : q_baok I h i what = none) : zx_M0 mm_X9_bath (d + 2) 0 0 [.ref 0, .int i, .int kt, .int what] zw_SC I L (zw_RC h sp la) (zw_ret (some (.int (-1))) zw_SC I L (zw_RC h sp la)) := by
  rcases hh with ⟨rfl, rfl⟩ | ⟨rfl, rfl⟩
  · exact ct_X9_bath_no_4 hno
  · exact ct_X9_bath_no_14 hno
theorem ct_X9_bath_4 {d : Nat} {I : zx_I} {L : zx_L} {la : Option Nat} {i kt what : Int32} {w0 : Nat} (hH : hs_tk I 4) (hok : q_baok I 4 i what = some w0) (hT : tk_ok (ft_fill I 4)) (hv : ∀ w, fh_who I 4 i = some w → 1 ≤ (ft_fill I 4 w 1).toInt) (hq : ∀ w, fh_who I 4 i = some w → (¬ fc_p (ft_fill I 4) w (q_bag (ft_fill I 4) 4 kt) = -4 → ¬ fc_p (ft_fill I 4) w (q_bag (ft_fill I 4) 4 kt) / ft_fill I 4 37 2 < 0) ∧ (¬ fc_p (ft_fill I 4) w (q_bag (ft_fill I 4) 4 kt) = -4 → fc_p (ft_fill I 4) w (q_bag (ft_fill I 4) 4 kt) / ft_fill I 4 37 2 ≤ ft_fill I 4 37 1)) : zx_M0 mm_X9_bath (d + 2) 0 0 [.ref 0, .int i, .int kt, .int what] zw_SC I L (zw_RC 4 14 la) (zw_ret (some (.int (q_bav (ft_fill I 4) 4 w0 kt what))) zw_SC (fc_m (ft_fill I 4) w0 (q_bag (ft_fill I 4) 4 kt)) L (zw_RC 4 14 la)) := by
  refine zv_entry gd_X9_bath (Nat.le_of_ble_eq_true rfl) ?_
  refine zv_run 3 (pc' := 5) (lo' := [some (.ref 0), some (.int i), some (.int kt), some (.int what), none]) (st' := [.int i, .ref 4]) (I' := I) (L' := L) (R' := zw_RC 4 14 la) rfl ?_
  refine zv_cV (M' := mm_X5_who) (ci := 5) (a := 4) (av := [.int i]) (st := []) (r := some (va_rf (fh_who I 4 i))) (I' := I) (L' := L) (R' := zw_RC 4 14 la) rfl zc_9_85 gd_X5_who rfl rfl rfl (Nat.le_of_ble_eq_true rfl) (ct_X5_who (d := _) (Or.inl rfl)) ⟨Nat.le_refl _, Nat.le_refl _⟩ ?_
  rcases hw8 : fh_who I 4 i with _ | w
  · refine zv_run 0 (pc' := 8) (lo' := [some (.ref 0), some (.int i), some (.int kt), some (.int what), none]) (st' := [.null]) (I' := I) (L' := L) (R' := zw_RC 4 14 la) rfl ?_
    refine zv_run 2 (pc' := 12) (lo' := [some (.ref 0), some (.int i), some (.int kt), some (.int what), some (.null)]) (st' := [.null]) (I' := I) (L' := L) (R' := zw_RC 4 14 la) rfl ?_
    refine zv_ifnullN (tgt := 24) (zs_at rfl) (by decide) ?_
    refine zv_run 1 (pc' := 25) (lo' := [some (.ref 0), some (.int i), some (.int kt), some (.int what), some (.null)]) (st' := [.int (-1)]) (I' := I) (L' := L) (R' := zw_RC 4 14 la) rfl ?_
    exact zv_iret (zs_at rfl) rfl ⟨Nat.le_refl _, Nat.le_refl _⟩ (absurd hok (by unfold q_baok; rw [hw8]; first | (exact fun q => by cases q) | (dsimp only; first | (rw [if_pos c16]; exact fun q => by cases q) | (rw [if_neg c16, if_neg c21]; exact fun q => by cases q))))
  · refine zv_run 0 (pc' := 8) (lo' := [some (.ref 0), some (.int i), some (.int kt), some (.int what), none]) (st' := [.ref w]) (I' := I) (L' := L) (R' := zw_RC 4 14 la) rfl ?_
    have hwf := fh_who_bt (Or.inl rfl) hw8
    refine zv_run 2 (pc' := 12) (lo' := [some (.ref 0), some (.int i), some (.int kt), some (.int what), some (.ref w)]) (st' := [.ref w]) (I' := I) (L' := L) (R' := zw_RC 4 14 la) rfl ?_
    refine zv_ifnull (zs_at rfl) ?_
    refine zv_run 1 (pc' := 16) (lo' := [some (.ref 0), some (.int i), some (.int kt), some (.int what), some (.ref w)]) (st' := [.int what]) (I' := I) (L' := L) (R' := zw_RC 4 14 la) rfl ?_
    refine zv_if_lt (tgt := 24) (zs_at rfl) (by decide) (fun c16 => ?_) (fun c16 => ?_)
    · have _c := c16
      refine zv_run 1 (pc' := 25) (lo' := [some (.ref 0), some (.int i), some (.int kt), some (.int what), some (.ref w)]) (st' := [.int (-1)]) (I' := I) (L' := L) (R' := zw_RC 4 14 la) rfl ?_
      exact zv_iret (zs_at rfl) rfl ⟨Nat.le_refl _, Nat.le_refl _⟩ (absurd hok (by unfold q_baok; rw [hw8]; first | (exact fun q => by cases q) | (dsimp only; first | (rw [if_pos c16]; exact fun q => by cases q) | (rw [if_neg c16, if_neg c21]; exact fun q => by cases q))))
    · have _c := c16
      refine zv_run 2 (pc' := 21) (lo' := [some (.ref 0), some (.int i), some (.int kt), some (.int what), some (.ref w)]) (st' := [.int 1, .int what]) (I' := I) (L' := L) (R' := zw_RC 4 14 la) rfl ?_
      refine zv_icmp_le (tgt := 26) (zs_at rfl) (by decide) (fun c21 => ?_) (fun c21 => ?_)
      · have _c := c21
        refine zv_run 5 (pc' := 37) (lo' := [some (.ref 0), some (.int i), some (.int kt), some (.int what), some (.ref w)]) (st' := [.ref 4, .ref 37]) (I' := I) (L' := L) (R' := zw_RC 4 14 la) rfl ?_
        refine zv_cV (M' := mm_X7_fill) (ci := 7) (a := 37) (av := [.ref 4]) (st := []) (r := none) (I' := (ft_fill I 4)) (L' := L) (R' := zw_RC 4 14 la) rfl zc_9_99 gd_X7_fill rfl rfl rfl (Nat.le_of_ble_eq_true rfl) (ct_X7_fill (d := _) (Or.inl rfl) hH) ⟨Nat.le_refl _, Nat.le_refl _⟩ ?_
        refine zv_run 0 (pc' := 40) (lo' := [some (.ref 0), some (.int i), some (.int kt), some (.int what), some (.ref w)]) (st' := []) (I' := (ft_fill I 4)) (L' := L) (R' := zw_RC 4 14 la) rfl ?_
        refine zv_run 8 (pc' := 57) (lo' := [some (.ref 0), some (.int i), some (.int kt), some (.int what), some (.ref w)]) (st' := [.int kt, .ref w, .ref 37, .ref 40]) (I' := (ft_fill I 4)) (L' := L) (R' := zw_RC 4 14 la) rfl ?_
        refine zv_if_eq (tgt := 70) (zs_at rfl) (by decide) (fun c57 => ?_) (fun c57 => ?_)
        · have _c := c57
          refine zv_run 1 (pc' := 71) (lo' := [some (.ref 0), some (.int i), some (.int kt), some (.int what), some (.ref w)]) (st' := [.int 0, .ref w, .ref 37, .ref 40]) (I' := (ft_fill I 4)) (L' := L) (R' := zw_RC 4 14 la) rfl ?_
          refine zv_cV (M' := mm_X1_comesFrom) (ci := 1) (a := 40) (av := [.ref 37, .ref w, .int 0]) (st := []) (r := some (.int (fc_is (ft_fill I 4) w 0))) (I' := (fc_m (ft_fill I 4) w 0)) (L' := L) (R' := zw_RC 4 14 la) rfl zc_9_128 gd_X1_comesFrom rfl rfl rfl (Nat.le_of_ble_eq_true rfl) (ct_X1_comesFrom (d := _) (I := ft_fill I 4) (g := 0) hT hwf.1 (hv w hw8) (by have e : q_bag (ft_fill I 4) 4 kt = 0 := (by unfold q_bag; rw [if_pos c57]); have q := (hq w hw8).1; rw [e] at q; exact q) (by have e : q_bag (ft_fill I 4) 4 kt = 0 := (by unfold q_bag; rw [if_pos c57]); have q := (hq w hw8).2; rw [e] at q; exact q)) ⟨Nat.le_refl _, Nat.le_refl _⟩ ?_
          refine zv_run 0 (pc' := 74) (lo' := [some (.ref 0), some (.int i), some (.int kt), some (.int what), some (.ref w)]) (st' := [.int (fc_is (ft_fill I 4) w 0)]) (I' := (fc_m (ft_fill I 4) w 0)) (L' := L) (R' := zw_RC 4 14 la) rfl ?_
          refine zv_if_ne (tgt := 80) (zs_at rfl) (by decide) (fun c74 => ?_) (fun c74 => ?_)
          · have _c := c74
            refine zv_run 1 (pc' := 81) (lo' := [some (.ref 0), some (.int i), some (.int kt), some (.int what), some (.ref w)]) (st' := [.int what]) (I' := (fc_m (ft_fill I 4) w 0)) (L' := L) (R' := zw_RC 4 14 la) rfl ?_
            refine zv_if_ne (tgt := 97) (zs_at rfl) (by decide) (fun c81 => ?_) (fun c81 => ?_)
            · have _c := c81
              refine zv_run 4 (pc' := 107) (lo' := [some (.ref 0), some (.int i), some (.int kt), some (.int what), some (.ref w)]) (st' := [.int ((fc_m (ft_fill I 4) w 0) 40 1)]) (I' := (fc_m (ft_fill I 4) w 0)) (L' := L) (R' := zw_RC 4 14 la) rfl ?_
              exact zv_iret (zs_at rfl) rfl ⟨Nat.le_refl _, Nat.le_refl _⟩ (zw_to (by have hww : q_baok I 4 i what = some w := (by unfold q_baok; rw [hw8]; dsimp only; rw [if_neg c16, if_pos c21]); rw [hok] at hww; cases hww; unfold q_bav; rw [show q_bag (ft_fill I 4) 4 kt = 0 from by unfold q_bag; rw [if_pos c57], if_neg c74, if_pos c81]) (by have hww : q_baok I 4 i what = some w := (by unfold q_baok; rw [hw8]; dsimp only; rw [if_neg c16, if_pos c21]); rw [hok] at hww; cases hww; rw [show q_bag (ft_fill I 4) 4 kt = 0 from by unfold q_bag; rw [if_pos c57]]) rfl rfl)
            · have _c := c81
              refine zv_run 5 (pc' := 107) (lo' := [some (.ref 0), some (.int i), some (.int kt), some (.int what), some (.ref w)]) (st' := [.int ((fc_m (ft_fill I 4) w 0) 40 0)]) (I' := (fc_m (ft_fill I 4) w 0)) (L' := L) (R' := zw_RC 4 14 la) rfl ?_
              exact zv_iret (zs_at rfl) rfl ⟨Nat.le_refl _, Nat.le_refl _⟩ (zw_to (by have hww : q_baok I 4 i what = some w := (by unfold q_baok; rw [hw8]; dsimp only; rw [if_neg c16, if_pos c21]); rw [hok] at hww; cases hww; unfold q_bav; rw [show q_bag (ft_fill I 4) 4 kt = 0 from by unfold q_bag; rw [if_pos c57], if_neg c74, if_neg (fun q => q c81)]) (by have hww : q_baok I 4 i what = some w := (by unfold q_baok; rw [hw8]; dsimp only; rw [if_neg c16, if_pos c21]); rw [hok] at hww; cases hww; rw [show q_bag (ft_fill I 4) 4 kt = 0 from by unfold q_bag; rw [if_pos c57]]) rfl rfl)
          · have _c := c74
            refine zv_run 1 (pc' := 79) (lo' := [some (.ref 0), some (.int i), some (.int kt), some (.int what), some (.ref w)]) (st' := [.int (-2)]) (I' := (fc_m (ft_fill I 4) w 0)) (L' := L) (R' := zw_RC 4 14 la) rfl ?_
            exact zv_iret (zs_at rfl) rfl ⟨Nat.le_refl _, Nat.le_refl _⟩ (zw_to (by have hww : q_baok I 4 i what = some w := (by unfold q_baok; rw [hw8]; dsimp only; rw [if_neg c16, if_pos c21]); rw [hok] at hww; cases hww; unfold q_bav; rw [show q_bag (ft_fill I 4) 4 kt = 0 from by unfold q_bag; rw [if_pos c57], if_pos c74]) (by have hww : q_baok I 4 i what = some w := (by unfold q_baok; rw [hw8]; dsimp only; rw [if_neg c16, if_pos c21]); rw [hok] at hww; cases hww; rw [show q_bag (ft_fill I 4) 4 kt = 0 from by unfold q_bag; rw [if_pos c57]]) rfl rfl)
        · have _c := c57
          refine zv_run 4 (pc' := 71) (lo' := [some (.ref 0), some (.int i), some (.int kt), some (.int what), some (.ref w)]) (st' := [.int ((ft_fill I 4) 4 9), .ref w, .ref 37, .ref 40]) (I' := (ft_fill I 4)) (L' := L) (R' := zw_RC 4 14 la) rfl ?_
          refine zv_cV (M' := mm_X1_comesFrom) (ci := 1) (a := 40) (av := [.ref 37, .ref w, .int ((ft_fill I 4) 4 9)]) (st := []) (r := some (.int (fc_is (ft_fill I 4) w ((ft_fill I 4) 4 9)))) (I' := (fc_m (ft_fill I 4) w ((ft_fill I 4) 4 9))) (L' := L) (R' := zw_RC 4 14 la) rfl zc_9_128 gd_X1_comesFrom rfl rfl rfl (Nat.le_of_ble_eq_true rfl) (ct_X1_comesFrom (d := _) (I := ft_fill I 4) (g := ((ft_fill I 4) 4 9)) hT hwf.1 (hv w hw8) (by have e : q_bag (ft_fill I 4) 4 kt = (ft_fill I 4) 4 9 := (by unfold q_bag; rw [if_neg c57]); have q := (hq w hw8).1; rw [e] at q; exact q) (by have e : q_bag (ft_fill I 4) 4 kt = (ft_fill I 4) 4 9 := (by unfold q_bag; rw [if_neg c57]); have q := (hq w hw8).2; rw [e] at q; exact q)) ⟨Nat.le_refl _, Nat.le_refl _⟩ ?_
          refine zv_run 0 (pc' := 74) (lo' := [some (.ref 0), some (.int i), some (.int kt), some (.int what), some (.ref w)]) (st' := [.int (fc_is (ft_fill I 4) w ((ft_fill I 4) 4 9))]) (I' := (fc_m (ft_fill I 4) w ((ft_fill I 4) 4 9))) (L' := L) (R' := zw_RC 4 14 la) rfl ?_
          refine zv_if_ne (tgt := 80) (zs_at rfl) (by decide) (fun c74 => ?_) (fun c74 => ?_)
          · have _c := c74
            refine zv_run 1 (pc' := 81) (lo' := [some (.ref 0), some (.int i), some (.int kt), some (.int what), some (.ref w)]) (st' := [.int what]) (I' := (fc_m (ft_fill I 4) w ((ft_fill I 4) 4 9))) (L' := L) (R' := zw_RC 4 14 la) rfl ?_
            refine zv_if_ne (tgt := 97) (zs_at rfl) (by decide) (fun c81 => ?_) (fun c81 => ?_)
            · have _c := c81
              refine zv_run 4 (pc' := 107) (lo' := [some (.ref 0), some (.int i), some (.int kt), some (.int what), some (.ref w)]) (st' := [.int ((fc_m (ft_fill I 4) w ((ft_fill I 4) 4 9)) 40 1)]) (I' := (fc_m (ft_fill I 4) w ((ft_fill I 4) 4 9))) (L' := L) (R' := zw_RC 4 14 la) rfl ?_
              exact zv_iret (zs_at rfl) rfl ⟨Nat.le_refl _, Nat.le_refl _⟩ (zw_to (by have hww : q_baok I 4 i what = some w := (by unfold q_baok; rw [hw8]; dsimp only; rw [if_neg c16, if_pos c21]); rw [hok] at hww; cases hww; unfold q_bav; rw [show q_bag (ft_fill I 4) 4 kt = ft_fill I 4 4 9 from by unfold q_bag; rw [if_neg c57], if_neg c74, if_pos c81]) (by have hww : q_baok I 4 i what = some w := (by unfold q_baok; rw [hw8]; dsimp only; rw [if_neg c16, if_pos c21]); rw [hok] at hww; cases hww; rw [show q_bag (ft_fill I 4) 4 kt = ft_fill I 4 4 9 from by unfold q_bag; rw [if_neg c57]]) rfl rfl)
            · have _c := c81
              refine zv_run 5 (pc' := 107) (lo' := [some (.ref 0), some (.int i), some (.int kt), some (.int what), some (.ref w)]) (st' := [.int ((fc_m (ft_fill I 4) w ((ft_fill I 4) 4 9)) 40 0)]) (I' := (fc_m (ft_fill I 4) w ((ft_fill I 4) 4 9))) (L' := L) (R' := zw_RC 4 14 la) rfl ?_
              exact zv_iret (zs_at rfl) rfl ⟨Nat.le_refl _, Nat.le_refl _⟩ (zw_to (by have hww : q_baok I 4 i what = some w := (by unfold q_baok; rw [hw8]; dsimp only; rw [if_neg c16, if_pos c21]); rw [hok] at hww; cases hww; unfold q_bav; rw [show q_bag (ft_fill I 4) 4 kt = ft_fill I 4 4 9 from by unfold q_bag; rw [if_neg c57], if_neg c74, if_neg (fun q => q c81)]) (by have hww : q_baok I 4 i what = some w := (by unfold q_baok; rw [hw8]; dsimp only; rw [if_neg c16, if_pos c21]); rw [hok] at hww; cases hww; rw [show q_bag (ft_fill I 4) 4 kt = ft_fill I 4 4 9 from by unfold q_bag; rw [if_neg c57]]) rfl rfl)
          · have _c := c74
            refine zv_run 1 (pc' := 79) (lo' := [some (.ref 0), some (.int i), some (.int kt), some (.int what), some (.ref w)]) (st' := [.int (-2)]) (I' := (fc_m (ft_fill I 4) w ((ft_fill I 4) 4 9))) (L' := L) (R' := zw_RC 4 14 la) rfl ?_
            exact zv_iret (zs_at rfl) rfl ⟨Nat.le_refl _, Nat.le_refl _⟩ (zw_to (by have hww : q_baok I 4 i what = some w := (by unfold q_baok; rw [hw8]; dsimp only; rw [if_neg c16, if_pos c21]); rw [hok] at hww; cases hww; unfold q_bav; rw [show q_bag (ft_fill I 4) 4 kt = ft_fill I 4 4 9 from by unfold q_bag; rw [if_neg c57], if_pos c74]) (by have hww : q_baok I 4 i what = some w := (by unfold q_baok; rw [hw8]; dsimp only; rw [if_neg c16, if_pos c21]); rw [hok] at hww; cases hww; rw [show q_bag (ft_fill I 4) 4 kt = ft_fill I 4 4 9 from by unfold q_bag; rw [if_neg c57]]) rfl rfl)
      · have _c := c21
        refine zv_run 1 (pc' := 25) (lo' := [some (.ref 0), some (.int i), some (.int kt), some (.int what), some (.ref w)]) (st' := [.int (-1)]) (I' := I) (L' := L) (R' := zw_RC 4 14 la) rfl ?_
        exact zv_iret (zs_at rfl) rfl ⟨Nat.le_refl _, Nat.le_refl _⟩ (absurd hok (by unfold q_baok; rw [hw8]; first | (exact fun q => by cases q) | (dsimp only; first | (rw [if_pos c16]; exact fun q => by cases q) | (rw [if_neg c16, if_neg c21]; exact fun q => by cases q))))
theorem ct_X9_bath_14 {d : Nat} {I : zx_I} {L : zx_L} {la : Option Nat} {i kt what : Int32} {w0 : Nat} (hH : hs_tk I 14) (hok : q_baok I 14 i what = some w0) (hT : tk_ok (ft_fill I 14)) (hv : ∀ w, fh_who I 14 i = some w → 1 ≤ (ft_fill I 14 w 1).toInt) (hq : ∀ w, fh_who I 14 i = some w → (¬ fc_p (ft_fill I 14) w (q_bag (ft_fill I 14) 14 kt) = -4 → ¬ fc_p (ft_fill I 14) w (q_bag (ft_fill I 14) 14 kt) / ft_fill I 14 37 2 < 0) ∧ (¬ fc_p (ft_fill I 14) w (q_bag (ft_fill I 14) 14 kt) = -4 → fc_p (ft_fill I 14) w (q_bag (ft_fill I 14) 14 kt) / ft_fill I 14 37 2 ≤ ft_fill I 14 37 1)) : zx_M0 mm_X9_bath (d + 2) 0 0 [.ref 0, .int i, .int kt, .int what] zw_SC I L (zw_RC 14 4 la) (zw_ret (some (.int (q_bav (ft_fill I 14) 14 w0 kt what))) zw_SC (fc_m (ft_fill I 14) w0 (q_bag (ft_fill I 14) 14 kt)) L (zw_RC 14 4 la)) := by
  refine zv_entry gd_X9_bath (Nat.le_of_ble_eq_true rfl) ?_
  refine zv_run 3 (pc' := 5) (lo' := [some (.ref 0), some (.int i), some (.int kt), some (.int what), none]) (st' := [.int i, .ref 14]) (I' := I) (L' := L) (R' := zw_RC 14 4 la) rfl ?_
  refine zv_cV (M' := mm_X5_who) (ci := 5) (a := 14) (av := [.int i]) (st := []) (r := some (va_rf (fh_who I 14 i))) (I' := I) (L' := L) (R' := zw_RC 14 4 la) rfl zc_9_85 gd_X5_who rfl rfl rfl (Nat.le_of_ble_eq_true rfl) (ct_X5_who (d := _) (Or.inr rfl)) ⟨Nat.le_refl _, Nat.le_refl _⟩ ?_
  rcases hw8 : fh_who I 14 i with _ | w
  · refine zv_run 0 (pc' := 8) (lo' := [some (.ref 0), some (.int i), some (.int kt), some (.int what), none]) (st' := [.null]) (I' := I) (L' := L) (R' := zw_RC 14 4 la) rfl ?_
    refine zv_run 2 (pc' := 12) (lo' := [some (.ref 0), some (.int i), some (.int kt), some (.int what), some (.null)]) (st' := [.null]) (I' := I) (L' := L) (R' := zw_RC 14 4 la) rfl ?_
    refine zv_ifnullN (tgt := 24) (zs_at rfl) (by decide) ?_
    refine zv_run 1 (pc' := 25) (lo' := [some (.ref 0), some (.int i), some (.int kt), some (.int what), some (.null)]) (st' := [.int (-1)]) (I' := I) (L' := L) (R' := zw_RC 14 4 la) rfl ?_
    exact zv_iret (zs_at rfl) rfl ⟨Nat.le_refl _, Nat.le_refl _⟩ (absurd hok (by unfold q_baok; rw [hw8]; first | (exact fun q => by cases q) | (dsimp only; first | (rw [if_pos c16]; exact fun q => by cases q) | (rw [if_neg c16, if_neg c21]; exact fun q => by cases q))))
  · refine zv_run 0 (pc' := 8) (lo' := [some (.ref 0), some (.int i), some (.int kt), some (.int what), none]) (st' := [.ref w]) (I' := I) (L' := L) (R' := zw_RC 14 4 la) rfl ?_
    have hwf := fh_who_bt (Or.inr rfl) hw8
    refine zv_run 2 (pc' := 12) (lo' := [some (.ref 0), some (.int i), some (.int kt), some (.int what), some (.ref w)]) (st' := [.ref w]) (I' := I) (L' := L) (R' := zw_RC 14 4 la) rfl ?_
    refine zv_ifnull (zs_at rfl) ?_
    refine zv_run 1 (pc' := 16) (lo' := [some (.ref 0), some (.int i), some (.int kt), some (.int what), some (.ref w)]) (st' := [.int what]) (I' := I) (L' := L) (R' := zw_RC 14 4 la) rfl ?_
    refine zv_if_lt (tgt := 24) (zs_at rfl) (by decide) (fun c16 => ?_) (fun c16 => ?_)
    · have _c := c16
      refine zv_run 1 (pc' := 25) (lo' := [some (.ref 0), some (.int i), some (.int kt), some (.int what), some (.ref w)]) (st' := [.int (-1)]) (I' := I) (L' := L) (R' := zw_RC 14 4 la) rfl ?_
      exact zv_iret (zs_at rfl) rfl ⟨Nat.le_refl _, Nat.le_refl _⟩ (absurd hok (by unfold q_baok; rw [hw8]; first | (exact fun q => by cases q) | (dsimp only; first | (rw [if_pos c16]; exact fun q => by cases q) | (rw [if_neg c16, if_neg c21]; exact fun q => by cases q))))
    · have _c := c16
      refine zv_run 2 (pc' := 21) (lo' := [some (.ref 0), some (.int i), some (.int kt), some (.int what), some (.ref w)]) (st' := [.int 1, .int what]) (I' := I) (L' := L) (R' := zw_RC 14 4 la) rfl ?_
      refine zv_icmp_le (tgt := 26) (zs_at rfl) (by decide) (fun c21 => ?_) (fun c21 => ?_)
      · have _c := c21
        refine zv_run 5 (pc' := 37) (lo' := [some (.ref 0), some (.int i), some (.int kt), some (.int what), some (.ref w)]) (st' := [.ref 14, .ref 37]) (I' := I) (L' := L) (R' := zw_RC 14 4 la) rfl ?_
        refine zv_cV (M' := mm_X7_fill) (ci := 7) (a := 37) (av := [.ref 14]) (st := []) (r := none) (I' := (ft_fill I 14)) (L' := L) (R' := zw_RC 14 4 la) rfl zc_9_99 gd_X7_fill rfl rfl rfl (Nat.le_of_ble_eq_true rfl) (ct_X7_fill (d := _) (Or.inr rfl) hH) ⟨Nat.le_refl _, Nat.le_refl _⟩ ?_
        refine zv_run 0 (pc' := 40) (lo' := [some (.ref 0), some (.int i), some (.int kt), some (.int what), some (.ref w)]) (st' := []) (I' := (ft_fill I 14)) (L' := L) (R' := zw_RC 14 4 la) rfl ?_
        refine zv_run 8 (pc' := 57) (lo' := [some (.ref 0), some (.int i), some (.int kt), some (.int what), some (.ref w)]) (st' := [.int kt, .ref w, .ref 37, .ref 40]) (I' := (ft_fill I 14)) (L' := L) (R' := zw_RC 14 4 la) rfl ?_
        refine zv_if_eq (tgt := 70) (zs_at rfl) (by decide) (fun c57 => ?_) (fun c57 => ?_)
        · have _c := c57
          refine zv_run 1 (pc' := 71) (lo' := [some (.ref 0), some (.int i), some (.int kt), some (.int what), some (.ref w)]) (st' := [.int 0, .ref w, .ref 37, .ref 40]) (I' := (ft_fill I 14)) (L' := L) (R' := zw_RC 14 4 la) rfl ?_
          refine zv_cV (M' := mm_X1_comesFrom) (ci := 1) (a := 40) (av := [.ref 37, .ref w, .int 0]) (st := []) (r := some (.int (fc_is (ft_fill I 14) w 0))) (I' := (fc_m (ft_fill I 14) w 0)) (L' := L) (R' := zw_RC 14 4 la) rfl zc_9_128 gd_X1_comesFrom rfl rfl rfl (Nat.le_of_ble_eq_true rfl) (ct_X1_comesFrom (d := _) (I := ft_fill I 14) (g := 0) hT hwf.1 (hv w hw8) (by have e : q_bag (ft_fill I 14) 14 kt = 0 := (by unfold q_bag; rw [if_pos c57]); have q := (hq w hw8).1; rw [e] at q; exact q) (by have e : q_bag (ft_fill I 14) 14 kt = 0 := (by unfold q_bag; rw [if_pos c57]); have q := (hq w hw8).2; rw [e] at q; exact q)) ⟨Nat.le_refl _, Nat.le_refl _⟩ ?_
          refine zv_run 0 (pc' := 74) (lo' := [some (.ref 0), some (.int i), some (.int kt), some (.int what), some (.ref w)]) (st' := [.int (fc_is (ft_fill I 14) w 0)]) (I' := (fc_m (ft_fill I 14) w 0)) (L' := L) (R' := zw_RC 14 4 la) rfl ?_
          refine zv_if_ne (tgt := 80) (zs_at rfl) (by decide) (fun c74 => ?_) (fun c74 => ?_)
          · have _c := c74
            refine zv_run 1 (pc' := 81) (lo' := [some (.ref 0), some (.int i), some (.int kt), some (.int what), some (.ref w)]) (st' := [.int what]) (I' := (fc_m (ft_fill I 14) w 0)) (L' := L) (R' := zw_RC 14 4 la) rfl ?_
            refine zv_if_ne (tgt := 97) (zs_at rfl) (by decide) (fun c81 => ?_) (fun c81 => ?_)
            · have _c := c81
              refine zv_run 4 (pc' := 107) (lo' := [some (.ref 0), some (.int i), some (.int kt), some (.int what), some (.ref w)]) (st' := [.int ((fc_m (ft_fill I 14) w 0) 40 1)]) (I' := (fc_m (ft_fill I 14) w 0)) (L' := L) (R' := zw_RC 14 4 la) rfl ?_
              exact zv_iret (zs_at rfl) rfl ⟨Nat.le_refl _, Nat.le_refl _⟩ (zw_to (by have hww : q_baok I 14 i what = some w := (by unfold q_baok; rw [hw8]; dsimp only; rw [if_neg c16, if_pos c21]); rw [hok] at hww; cases hww; unfold q_bav; rw [show q_bag (ft_fill I 14) 14 kt = 0 from by unfold q_bag; rw [if_pos c57], if_neg c74, if_pos c81]) (by have hww : q_baok I 14 i what = some w := (by unfold q_baok; rw [hw8]; dsimp only; rw [if_neg c16, if_pos c21]); rw [hok] at hww; cases hww; rw [show q_bag (ft_fill I 14) 14 kt = 0 from by unfold q_bag; rw [if_pos c57]]) rfl rfl)
            · have _c := c81
              refine zv_run 5 (pc' := 107) (lo' := [some (.ref 0), some (.int i), some (.int kt), some (.int what), some (.ref w)]) (st' := [.int ((fc_m (ft_fill I 14) w 0) 40 0)]) (I' := (fc_m (ft_fill I 14) w 0)) (L' := L) (R' := zw_RC 14 4 la) rfl ?_
              exact zv_iret (zs_at rfl) rfl ⟨Nat.le_refl _, Nat.le_refl _⟩ (zw_to (by have hww : q_baok I 14 i what = some w := (by unfold q_baok; rw [hw8]; dsimp only; rw [if_neg c16, if_pos c21]); rw [hok] at hww; cases hww; unfold q_bav; rw [show q_bag (ft_fill I 14) 14 kt = 0 from by unfold q_bag; rw [if_pos c57], if_neg c74, if_neg (fun q => q c81)]) (by have hww : q_baok I 14 i what = some w := (by unfold q_baok; rw [hw8]; dsimp only; rw [if_neg c16, if_pos c21]); rw [hok] at hww; cases hww; rw [show q_bag (ft_fill I 14) 14 kt = 0 from by unfold q_bag; rw [if_pos c57]]) rfl rfl)
          · have _c := c74
            refine zv_run 1 (pc' := 79) (lo' := [some (.ref 0), some (.int i), some (.int kt), some (.int what), some (.ref w)]) (st' := [.int (-2)]) (I' := (fc_m (ft_fill I 14) w 0)) (L' := L) (R' := zw_RC 14 4 la) rfl ?_
            exact zv_iret (zs_at rfl) rfl ⟨Nat.le_refl _, Nat.le_refl _⟩ (zw_to (by have hww : q_baok I 14 i what = some w := (by unfold q_baok; rw [hw8]; dsimp only; rw [if_neg c16, if_pos c21]); rw [hok] at hww; cases hww; unfold q_bav; rw [show q_bag (ft_fill I 14) 14 kt = 0 from by unfold q_bag; rw [if_pos c57], if_pos c74]) (by have hww : q_baok I 14 i what = some w := (by unfold q_baok; rw [hw8]; dsimp only; rw [if_neg c16, if_pos c21]); rw [hok] at hww; cases hww; rw [show q_bag (ft_fill I 14) 14 kt = 0 from by unfold q_bag; rw [if_pos c57]]) rfl rfl)
        · have _c := c57
          refine zv_run 4 (pc' := 71) (lo' := [some (.ref 0), some (.int i), some (.int kt), some (.int what), some (.ref w)]) (st' := [.int ((ft_fill I 14) 14 9), .ref w, .ref 37, .ref 40]) (I' := (ft_fill I 14)) (L' := L) (R' := zw_RC 14 4 la) rfl ?_
          refine zv_cV (M' := mm_X1_comesFrom) (ci := 1) (a := 40) (av := [.ref 37, .ref w, .int ((ft_fill I 14) 14 9)]) (st := []) (r := some (.int (fc_is (ft_fill I 14) w ((ft_fill I 14) 14 9)))) (I' := (fc_m (ft_fill I 14) w ((ft_fill I 14) 14 9))) (L' := L) (R' := zw_RC 14 4 la) rfl zc_9_128 gd_X1_comesFrom rfl rfl rfl (Nat.le_of_ble_eq_true rfl) (ct_X1_comesFrom (d := _) (I := ft_fill I 14) (g := ((ft_fill I 14) 14 9)) hT hwf.1 (hv w hw8) (by have e : q_bag (ft_fill I 14) 14 kt = (ft_fill I 14) 14 9 := (by unfold q_bag; rw [if_neg c57]); have q := (hq w hw8).1; rw [e] at q; exact q) (by have e : q_bag (ft_fill I 14) 14 kt = (ft_fill I 14) 14 9 := (by unfold q_bag; rw [if_neg c57]); have q := (hq w hw8).2; rw [e] at q; exact q)) ⟨Nat.le_refl _, Nat.le_refl _⟩ ?_
          refine zv_run 0 (pc' := 74) (lo' := [some (.ref 0), some (.int i), some (.int kt), some (.int what), some (.ref w)]) (st' := [.int (fc_is (ft_fill I 14) w ((ft_fill I 14) 14 9))]) (I' := (fc_m (ft_fill I 14) w ((ft_fill I 14) 14 9))) (L' := L) (R' := zw_RC 14 4 la) rfl ?_
          refine zv_if_ne (tgt := 80) (zs_at rfl) (by decide) (fun c74 => ?_) (fun c74 => ?_)
          · have _c := c74
            refine zv_run 1 (pc' := 81) (lo' := [some (.ref 0), some (.int i), some (.int kt), some (.int what), some (.ref w)]) (st' := [.int what]) (I' := (fc_m (ft_fill I 14) w ((ft_fill I 14) 14 9))) (L' := L) (R' := zw_RC 14 4 la) rfl ?_
            refine zv_if_ne (tgt := 97) (zs_at rfl) (by decide) (fun c81 => ?_) (fun c81 => ?_)
            · have _c := c81
              refine zv_run 4 (pc' := 107) (lo' := [some (.ref 0), some (.int i), some (.int kt), some (.int what), some (.ref w)]) (st' := [.int ((fc_m (ft_fill I 14) w ((ft_fill I 14) 14 9)) 40 1)]) (I' := (fc_m (ft_fill I 14) w ((ft_fill I 14) 14 9))) (L' := L) (R' := zw_RC 14 4 la) rfl ?_
              exact zv_iret (zs_at rfl) rfl ⟨Nat.le_refl _, Nat.le_refl _⟩ (zw_to (by have hww : q_baok I 14 i what = some w := (by unfold q_baok; rw [hw8]; dsimp only; rw [if_neg c16, if_pos c21]); rw [hok] at hww; cases hww; unfold q_bav; rw [show q_bag (ft_fill I 14) 14 kt = ft_fill I 14 14 9 from by unfold q_bag; rw [if_neg c57], if_neg c74, if_pos c81]) (by have hww : q_baok I 14 i what = some w := (by unfold q_baok; rw [hw8]; dsimp only; rw [if_neg c16, if_pos c21]); rw [hok] at hww; cases hww; rw [show q_bag (ft_fill I 14) 14 kt = ft_fill I 14 14 9 from by unfold q_bag; rw [if_neg c57]]) rfl rfl)
            · have _c := c81
              refine zv_run 5 (pc' := 107) (lo' := [some (.ref 0), some (.int i), some (.int kt), some (.int what), some (.ref w)]) (st' := [.int ((fc_m (ft_fill I 14) w ((ft_fill I 14) 14 9)) 40 0)]) (I' := (fc_m (ft_fill I 14) w ((ft_fill I 14) 14 9))) (L' := L) (R' := zw_RC 14 4 la) rfl ?_
              exact zv_iret (zs_at rfl) rfl ⟨Nat.le_refl _, Nat.le_refl _⟩ (zw_to (by have hww : q_baok I 14 i what = some w := (by unfold q_baok; rw [hw8]; dsimp only; rw [if_neg c16, if_pos c21]); rw [hok] at hww; cases hww; unfold q_bav; rw [show q_bag (ft_fill I 14) 14 kt = ft_fill I 14 14 9 from by unfold q_bag; rw [if_neg c57], if_neg c74, if_neg (fun q => q c81)]) (by have hww : q_baok I 14 i what = some w := (by unfold q_baok; rw [hw8]; dsimp only; rw [if_neg c16, if_pos c21]); rw [hok] at hww; cases hww; rw [show q_bag (ft_fill I 14) 14 kt = ft_fill I 14 14 9 from by unfold q_bag; rw [if_neg c57]]) rfl rfl)
          · have _c := c74
            refine zv_run 1 (pc' := 79) (lo' := [some (.ref 0), some (.int i), some (.int kt), some (.int what), some (.ref w)]) (st' := [.int (-2)]) (I' := (fc_m (ft_fill I 14) w ((ft_fill I 14) 14 9))) (L' := L) (R' := zw_RC 14 4 la) rfl ?_
            exact zv_iret (zs_at rfl) rfl ⟨Nat.le_refl _, Nat.le_refl _⟩ (zw_to (by have hww : q_baok I 14 i what = some w := (by unfold q_baok; rw [hw8]; dsimp only; rw [if_neg c16, if_pos c21]); rw [hok] at hww; cases hww; unfold q_bav; rw [show q_bag (ft_fill I 14) 14 kt = ft_fill I 14 14 9 from by unfold q_bag; rw [if_neg c57], if_pos c74]) (by have hww : q_baok I 14 i what = some w := (by unfold q_baok; rw [hw8]; dsimp only; rw [if_neg c16, if_pos c21]); rw [hok] at hww; cases hww; rw [show q_bag (ft_fill I 14) 14 kt = ft_fill I 14 14 9 from by unfold q_bag; rw [if_neg c57]]) rfl rfl)
      · have _c := c21
        refine zv_run 1 (pc' := 25) (lo' := [some (.ref 0), some (.int i), some (.int kt), some (.int what), some (.ref w)]) (st' := [.int (-1)]) (I' := I) (L' := L) (R' := zw_RC 14 4 la) rfl ?_
        exact zv_iret (zs_at rfl) rfl ⟨Nat.le_refl _, Nat.le_refl _⟩ (absurd hok (by unfold q_baok; rw [hw8]; first | (exact fun q => by cases q) | (dsimp only; first | (rw [if_pos c16]; exact fun q => by cases q) | (rw [if_neg c16, if_neg c21]; exact fun q => by cases q))))
theorem ct_X9_bath {d : Nat} {I : zx_I} {L : zx_L} {h sp : Nat} {la : Option Nat} {i kt what : Int32} {w0 : Nat} (hh : hsp h sp) (hH : hs_tk I h) (hok : q_baok I h i what = some w0) (hT : tk_ok (ft_fill I h)) (hv : ∀ w, fh_who I h i = some w → 1 ≤ (ft_fill I h w 1).toInt) (hq : ∀ w, fh_who I h i = some w → (¬ fc_p (ft_fill I h) w (q_bag (ft_fill I h) h kt) = -4 → ¬ fc_p (ft_fill I h) w (q_bag (ft_fill I h) h kt) / ft_fill I h 37 2 < 0) ∧ (¬ fc_p (ft_fill I h) w (q_bag (ft_fill I h) h kt) = -4 → fc_p (ft_fill I h) w (q_bag (ft_fill I h) h kt) / ft_fill I h 37 2 ≤ ft_fill I h 37 1)) : zx_M0 mm_X9_bath (d + 2) 0 0 [.ref 0, .int i, .int kt, .int what] zw_SC I L (zw_RC h sp la) (zw_ret (some (.int (q_bav (ft_fill I h) h w0 kt what))) zw_SC (fc_m (ft_fill I h) w0 (q_bag (ft_fill I h) h kt)) L (zw_RC h sp la)) := by
  rcases hh with ⟨rfl, rfl⟩ | ⟨rfl, rfl⟩
  · exact ct_X9_bath_4 hH hok hT hv hq
  · exact ct_X9_bath_14 hH hok hT hv hq
def wr_loop (v : Int64) : Nat → zx_I → zx_I
  | 0, J => J
  | k + 1, J => wr_loop v k (zx_uI (zx_uI J 1 (J 0 1).toNatClampNeg (vp_nar .byte (v >>> ((8 * nI k).toInt64 &&& 63)).toInt32.toInt8.toInt32)) 0 1 (J 0 1 + 1))
theorem lp_X9_write {d : Nat} {L : zx_L} {h sp : Nat} {la : Option Nat} {n : Int32} {v : Int64} : ∀ (k l : Nat) (J : zx_I), J 0 1 = nI l → l + k ≤ 400 → zx_V mm_X9_write d z0 (zw_ret (some (.int (nI (l + k)))) zw_SC (wr_loop v k J) L (zw_RC h sp la)) zw_SC 35 [some (.ref 0), some (.int n), some (.long v), none, some (.int (nI k - 1))] [] J L (zw_RC h sp la) := by
  intro k
  induction k with
  | zero =>
    intro l J hl hk
    refine zv_run 1 (pc' := 37) (lo' := [some (.ref 0), some (.int n), some (.long v), none, some (.int (nI 0 - 1))]) (st' := [.int (nI 0 - 1)]) (I' := J) (L' := L) (R' := zw_RC h sp la) rfl ?_
    refine zv_if_lt (tgt := 74) (zs_at rfl) (by decide) (fun c37 => ?_) (fun c37 => ?_)
    · have _c := c37
      refine zv_run 2 (pc' := 78) (lo' := [some (.ref 0), some (.int n), some (.long v), none, some (.int (nI 0 - 1))]) (st' := [.int (J 0 1)]) (I' := J) (L' := L) (R' := zw_RC h sp la) rfl ?_
      exact zv_iret (zs_at rfl) rfl ⟨Nat.le_refl _, Nat.le_refl _⟩ (zw_to (by show some (Value.int (J 0 1)) = _; rw [hl]; rfl) rfl rfl rfl)
    · exact absurd (by decide) c37
  | succ k ih =>
    intro l J hl hk
    rw [nI_pred]
    refine zv_run 1 (pc' := 37) (lo' := [some (.ref 0), some (.int n), some (.long v), none, some (.int (nI k))]) (st' := [.int (nI k)]) (I' := J) (L' := L) (R' := zw_RC h sp la) rfl ?_
    refine zv_if_lt (tgt := 74) (zs_at rfl) (by decide) (fun c37 => ?_) (fun c37 => ?_)
    · exact absurd c37 (nI_pos (by omega))
    · have _c := c37
      refine zv_run 11 (pc' := 57) (lo' := [some (.ref 0), some (.int n), some (.long v), none, some (.int (nI k))]) (st' := [.int (((v >>> ((8 * (nI k)).toInt64 &&& 63)).toInt32).toInt8.toInt32), .int (J 0 1), .ref 1]) (I' := J) (L' := L) (R' := zw_RC h sp la) rfl ?_
      refine zv_bast (zs_at rfl) rfl (by rw [hl]; exact vp_in_nI (by omega) (by decide)) ?_
      refine zv_run 8 (pc' := 35) (lo' := [some (.ref 0), some (.int n), some (.long v), none, some (.int ((nI k) + (-1)))]) (st' := []) (I' := (zx_uI (zx_uI J 1 ((J 0 1).toNatClampNeg) (vp_nar .byte (((v >>> ((8 * (nI k)).toInt64 &&& 63)).toInt32).toInt8.toInt32))) 0 1 ((J 0 1) + 1))) (L' := L) (R' := zw_RC h sp la) rfl ?_
      rw [show nI k + -1 = nI k - 1 from by rw [Int32.sub_eq_add_neg]]
      rw [show l + (k + 1) = l + 1 + k by omega]
      exact ih (l + 1) _ (by show J 0 1 + 1 = _; rw [hl]; exact nI_1 l) (by omega)
def q_wrok (I : zx_I) (n : Int32) : Prop := ¬ n < 1 ∧ n ≤ 8 ∧ I 0 1 + n ≤ 400
theorem ct_X9_write_bad {d : Nat} {I : zx_I} {L : zx_L} {h sp : Nat} {la : Option Nat} {n : Int32} {v : Int64} (hno : ¬ (¬ n < 1 ∧ n ≤ 8)) : zx_M0 mm_X9_write (d + 0) 0 0 [.ref 0, .int n, .long v] zw_SC I L (zw_RC h sp la) (zw_ret (some (.int (-1))) zw_SC I L (zw_RC h sp la)) := by
  refine zv_entry gd_X9_write (Nat.le_of_ble_eq_true rfl) ?_
  refine zv_run 2 (pc' := 2) (lo' := [some (.ref 0), some (.int n), some (.long v), none, none]) (st' := [.int 1, .int n]) (I' := I) (L' := L) (R' := zw_RC h sp la) rfl ?_
  refine zv_icmp_lt (tgt := 11) (zs_at rfl) (by decide) (fun c2 => ?_) (fun c2 => ?_)
  · have _c := c2
    refine zv_run 1 (pc' := 12) (lo' := [some (.ref 0), some (.int n), some (.long v), none, none]) (st' := [.int (-1)]) (I' := I) (L' := L) (R' := zw_RC h sp la) rfl ?_
    exact zv_iret (zs_at rfl) rfl ⟨Nat.le_refl _, Nat.le_refl _⟩ (zw_to rfl rfl rfl rfl)
  · have _c := c2
    refine zv_run 2 (pc' := 8) (lo' := [some (.ref 0), some (.int n), some (.long v), none, none]) (st' := [.int 8, .int n]) (I' := I) (L' := L) (R' := zw_RC h sp la) rfl ?_
    refine zv_icmp_le (tgt := 13) (zs_at rfl) (by decide) (fun c8 => ?_) (fun c8 => ?_)
    · have _c := c8
      exact absurd ⟨c2, c8⟩ hno
    · have _c := c8
      refine zv_run 1 (pc' := 12) (lo' := [some (.ref 0), some (.int n), some (.long v), none, none]) (st' := [.int (-1)]) (I' := I) (L' := L) (R' := zw_RC h sp la) rfl ?_
      exact zv_iret (zs_at rfl) rfl ⟨Nat.le_refl _, Nat.le_refl _⟩ (zw_to rfl rfl rfl rfl)
theorem ct_X9_write_full {d : Nat} {I : zx_I} {L : zx_L} {h sp : Nat} {la : Option Nat} {n : Int32} {v : Int64} (hn1 : ¬ n < 1) (hn8 : n ≤ 8) (hfull : ¬ I 0 1 + n ≤ 400) : zx_M0 mm_X9_write (d + 0) 0 0 [.ref 0, .int n, .long v] zw_SC I L (zw_RC h sp la) (zw_ret (some (.int (-3))) zw_SC I L (zw_RC h sp la)) := by
  refine zv_entry gd_X9_write (Nat.le_of_ble_eq_true rfl) ?_
  refine zv_run 2 (pc' := 2) (lo' := [some (.ref 0), some (.int n), some (.long v), none, none]) (st' := [.int 1, .int n]) (I' := I) (L' := L) (R' := zw_RC h sp la) rfl ?_
  refine zv_icmp_lt (tgt := 11) (zs_at rfl) (by decide) (fun c2 => ?_) (fun c2 => ?_)
  · exact absurd c2 hn1
  · have _c := c2
    refine zv_run 2 (pc' := 8) (lo' := [some (.ref 0), some (.int n), some (.long v), none, none]) (st' := [.int 8, .int n]) (I' := I) (L' := L) (R' := zw_RC h sp la) rfl ?_
    refine zv_icmp_le (tgt := 13) (zs_at rfl) (by decide) (fun c8 => ?_) (fun c8 => ?_)
    · have _c := c8
      refine zv_run 7 (pc' := 24) (lo' := [some (.ref 0), some (.int n), some (.long v), none, none]) (st' := [.int 400, .int ((I 0 1) + n)]) (I' := I) (L' := L) (R' := zw_RC h sp la) rfl ?_
      refine zv_icmp_le (tgt := 30) (zs_at rfl) (by decide) (fun c24 => ?_) (fun c24 => ?_)
      · exact absurd c24 hfull
      · have _c := c24
        refine zv_run 1 (pc' := 29) (lo' := [some (.ref 0), some (.int n), some (.long v), none, none]) (st' := [.int (-3)]) (I' := I) (L' := L) (R' := zw_RC h sp la) rfl ?_
        exact zv_iret (zs_at rfl) rfl ⟨Nat.le_refl _, Nat.le_refl _⟩ (zw_to rfl rfl rfl rfl)
    · exact absurd hn8 c8
theorem ct_X9_write {d : Nat} {I : zx_I} {L : zx_L} {h sp : Nat} {la : Option Nat} {n : Int32} {v : Int64} {k l : Nat} (hn1 : ¬ n < 1) (hn8 : n ≤ 8) (hfit : I 0 1 + n ≤ 400) (hk : n = nI k) (hl : I 0 1 = nI l) (hlk : l + k ≤ 400) : zx_M0 mm_X9_write (d + 0) 0 0 [.ref 0, .int n, .long v] zw_SC I L (zw_RC h sp la) (zw_ret (some (.int (nI (l + k)))) zw_SC (wr_loop v k I) L (zw_RC h sp la)) := by
  refine zv_entry gd_X9_write (Nat.le_of_ble_eq_true rfl) ?_
  refine zv_run 2 (pc' := 2) (lo' := [some (.ref 0), some (.int n), some (.long v), none, none]) (st' := [.int 1, .int n]) (I' := I) (L' := L) (R' := zw_RC h sp la) rfl ?_
  refine zv_icmp_lt (tgt := 11) (zs_at rfl) (by decide) (fun c2 => ?_) (fun c2 => ?_)
  · exact absurd c2 hn1
  · have _c := c2
    refine zv_run 2 (pc' := 8) (lo' := [some (.ref 0), some (.int n), some (.long v), none, none]) (st' := [.int 8, .int n]) (I' := I) (L' := L) (R' := zw_RC h sp la) rfl ?_
    refine zv_icmp_le (tgt := 13) (zs_at rfl) (by decide) (fun c8 => ?_) (fun c8 => ?_)
    · have _c := c8
      refine zv_run 7 (pc' := 24) (lo' := [some (.ref 0), some (.int n), some (.long v), none, none]) (st' := [.int 400, .int ((I 0 1) + n)]) (I' := I) (L' := L) (R' := zw_RC h sp la) rfl ?_
      refine zv_icmp_le (tgt := 30) (zs_at rfl) (by decide) (fun c24 => ?_) (fun c24 => ?_)
      · have _c := c24
        refine zv_run 4 (pc' := 35) (lo' := [some (.ref 0), some (.int n), some (.long v), none, some (.int (n - 1))]) (st' := []) (I' := I) (L' := L) (R' := zw_RC h sp la) rfl ?_
        subst hk
        exact lp_X9_write k l I hl hlk
      · exact absurd hfit c24
    · exact absurd hn8 c8
