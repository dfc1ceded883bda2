/-! items taken: numbers, pairs, all -/
theorem ct_X5_takesNumber_no {d : Nat} {I : zx_I} {L : zx_L} {h sp : Nat} {la : Option Nat} {a : Nat}  (ha : a = 4 ∨ a = 14) (hno : ti_num I = 0) : zx_M0 mm_X5_takesNumber (d + 3) 0 0 [.ref a, .ref 2] zw_SC I L (zw_RC h sp la) (zw_ret (some (.int 0)) zw_SC I L (zw_RC h sp la)) := by
  rcases ha with rfl | rfl
  · refine zv_entry gd_X5_takesNumber (Nat.le_of_ble_eq_true rfl) ?_
    refine zv_run 2 (pc' := 2) (lo' := [some (.ref 4), some (.ref 2), none]) (st' := [.int 0, .ref 2]) (I' := I) (L' := L) (R' := zw_RC h sp la) rfl ?_
    refine zv_cV (M' := mm_X6_number) (ci := 6) (a := 2) (av := [.int 0]) (st := []) (r := some (.int (fi_num I 0))) (I' := I) (L' := L) (R' := zw_RC h sp la) rfl zc_5_121 gd_X6_number rfl rfl rfl (Nat.le_of_ble_eq_true rfl) (ct_X6_number (d := _) (I := I)) ⟨Nat.le_refl _, Nat.le_refl _⟩ ?_
    refine zv_run 0 (pc' := 5) (lo' := [some (.ref 4), some (.ref 2), none]) (st' := [.int (fi_num I 0)]) (I' := I) (L' := L) (R' := zw_RC h sp la) rfl ?_
    refine zv_run 4 (pc' := 12) (lo' := [some (.ref 4), some (.ref 2), some (.int (fi_num I 0))]) (st' := [.int 99, .int (I 2 1)]) (I' := I) (L' := L) (R' := zw_RC h sp la) rfl ?_
    refine zv_icmp_ne (tgt := 33) (zs_at rfl) (by decide) (fun c12 => ?_) (fun c12 => ?_)
    · have _c := c12
      refine zv_run 3 (pc' := 39) (lo' := [some (.ref 4), some (.ref 2), some (.int (fi_num I 0))]) (st' := [.int 113, .int (I 2 1)]) (I' := I) (L' := L) (R' := zw_RC h sp la) rfl ?_
      refine zv_icmp_ne (tgt := 60) (zs_at rfl) (by decide) (fun c39 => ?_) (fun c39 => ?_)
      · have _c := c39
        refine zv_run 3 (pc' := 66) (lo' := [some (.ref 4), some (.ref 2), some (.int (fi_num I 0))]) (st' := [.int 110, .int (I 2 1)]) (I' := I) (L' := L) (R' := zw_RC h sp la) rfl ?_
        refine zv_icmp_ne (tgt := 87) (zs_at rfl) (by decide) (fun c66 => ?_) (fun c66 => ?_)
        · have _c := c66
          refine zv_run 1 (pc' := 88) (lo' := [some (.ref 4), some (.ref 2), some (.int (fi_num I 0))]) (st' := [.int 0]) (I' := I) (L' := L) (R' := zw_RC h sp la) rfl ?_
          exact zv_zret (zs_at rfl) rfl (Or.inl rfl) ⟨Nat.le_refl _, Nat.le_refl _⟩ (zw_to rfl rfl rfl rfl)
        · have _c := c66
          refine zv_run 3 (pc' := 73) (lo' := [some (.ref 4), some (.ref 2), some (.int (fi_num I 0))]) (st' := [.int 60, .int 1, .ref 2]) (I' := I) (L' := L) (R' := zw_RC h sp la) rfl ?_
          refine zv_cV (M' := mm_X6_isOneWithin) (ci := 6) (a := 2) (av := [.int 1, .int 60]) (st := []) (r := some (.int (fi_one I 1 60))) (I' := I) (L' := L) (R' := zw_RC h sp la) rfl zc_5_146 gd_X6_isOneWithin rfl rfl rfl (Nat.le_of_ble_eq_true rfl) (ct_X6_isOneWithin (d := _)) ⟨Nat.le_refl _, Nat.le_refl _⟩ ?_
          refine zv_run 0 (pc' := 76) (lo' := [some (.ref 4), some (.ref 2), some (.int (fi_num I 0))]) (st' := [.int (fi_one I 1 60)]) (I' := I) (L' := L) (R' := zw_RC h sp la) rfl ?_
          refine zv_if_eq (tgt := 87) (zs_at rfl) (by decide) (fun c76 => ?_) (fun c76 => ?_)
          · have _c := c76
            refine zv_run 1 (pc' := 88) (lo' := [some (.ref 4), some (.ref 2), some (.int (fi_num I 0))]) (st' := [.int 0]) (I' := I) (L' := L) (R' := zw_RC h sp la) rfl ?_
            exact zv_zret (zs_at rfl) rfl (Or.inl rfl) ⟨Nat.le_refl _, Nat.le_refl _⟩ (zw_to rfl rfl rfl rfl)
          · have _c := c76
            refine zv_run 4 (pc' := 89) (lo' := [some (.ref 4), some (.ref 2), some (.int (fi_num I 0))]) (st' := []) (I' := (zx_uI I 4 12 (fi_num I 0))) (L' := L) (R' := zw_RC h sp la) rfl ?_
            first | (exact absurd (c12.symm.trans c39) (by decide)) | (exact absurd (c12.symm.trans c66) (by decide)) | (exact absurd (c39.symm.trans c66) (by decide)) | (exact absurd hno (by simp [ti_num, *]; done))
      · have _c := c39
        refine zv_run 3 (pc' := 46) (lo' := [some (.ref 4), some (.ref 2), some (.int (fi_num I 0))]) (st' := [.int 9, .int 0, .ref 2]) (I' := I) (L' := L) (R' := zw_RC h sp la) rfl ?_
        refine zv_cV (M' := mm_X6_isOneWithin) (ci := 6) (a := 2) (av := [.int 0, .int 9]) (st := []) (r := some (.int (fi_one I 0 9))) (I' := I) (L' := L) (R' := zw_RC h sp la) rfl zc_5_146 gd_X6_isOneWithin rfl rfl rfl (Nat.le_of_ble_eq_true rfl) (ct_X6_isOneWithin (d := _)) ⟨Nat.le_refl _, Nat.le_refl _⟩ ?_
        refine zv_run 0 (pc' := 49) (lo' := [some (.ref 4), some (.ref 2), some (.int (fi_num I 0))]) (st' := [.int (fi_one I 0 9)]) (I' := I) (L' := L) (R' := zw_RC h sp la) rfl ?_
        refine zv_if_eq (tgt := 60) (zs_at rfl) (by decide) (fun c49 => ?_) (fun c49 => ?_)
        · have _c := c49
          refine zv_run 3 (pc' := 66) (lo' := [some (.ref 4), some (.ref 2), some (.int (fi_num I 0))]) (st' := [.int 110, .int (I 2 1)]) (I' := I) (L' := L) (R' := zw_RC h sp la) rfl ?_
          refine zv_icmp_ne (tgt := 87) (zs_at rfl) (by decide) (fun c66 => ?_) (fun c66 => ?_)
          · have _c := c66
            refine zv_run 1 (pc' := 88) (lo' := [some (.ref 4), some (.ref 2), some (.int (fi_num I 0))]) (st' := [.int 0]) (I' := I) (L' := L) (R' := zw_RC h sp la) rfl ?_
            exact zv_zret (zs_at rfl) rfl (Or.inl rfl) ⟨Nat.le_refl _, Nat.le_refl _⟩ (zw_to rfl rfl rfl rfl)
          · have _c := c66
            refine zv_run 3 (pc' := 73) (lo' := [some (.ref 4), some (.ref 2), some (.int (fi_num I 0))]) (st' := [.int 60, .int 1, .ref 2]) (I' := I) (L' := L) (R' := zw_RC h sp la) rfl ?_
            refine zv_cV (M' := mm_X6_isOneWithin) (ci := 6) (a := 2) (av := [.int 1, .int 60]) (st := []) (r := some (.int (fi_one I 1 60))) (I' := I) (L' := L) (R' := zw_RC h sp la) rfl zc_5_146 gd_X6_isOneWithin rfl rfl rfl (Nat.le_of_ble_eq_true rfl) (ct_X6_isOneWithin (d := _)) ⟨Nat.le_refl _, Nat.le_refl _⟩ ?_
            refine zv_run 0 (pc' := 76) (lo' := [some (.ref 4), some (.ref 2), some (.int (fi_num I 0))]) (st' := [.int (fi_one I 1 60)]) (I' := I) (L' := L) (R' := zw_RC h sp la) rfl ?_
            refine zv_if_eq (tgt := 87) (zs_at rfl) (by decide) (fun c76 => ?_) (fun c76 => ?_)
            · have _c := c76
              refine zv_run 1 (pc' := 88) (lo' := [some (.ref 4), some (.ref 2), some (.int (fi_num I 0))]) (st' := [.int 0]) (I' := I) (L' := L) (R' := zw_RC h sp la) rfl ?_
              exact zv_zret (zs_at rfl) rfl (Or.inl rfl) ⟨Nat.le_refl _, Nat.le_refl _⟩ (zw_to rfl rfl rfl rfl)
            · have _c := c76
              refine zv_run 4 (pc' := 89) (lo' := [some (.ref 4), some (.ref 2), some (.int (fi_num I 0))]) (st' := []) (I' := (zx_uI I 4 12 (fi_num I 0))) (L' := L) (R' := zw_RC h sp la) rfl ?_
              first | (exact absurd (c12.symm.trans c39) (by decide)) | (exact absurd (c12.symm.trans c66) (by decide)) | (exact absurd (c39.symm.trans c66) (by decide)) | (exact absurd hno (by simp [ti_num, *]; done))
        · have _c := c49
          refine zv_run 4 (pc' := 89) (lo' := [some (.ref 4), some (.ref 2), some (.int (fi_num I 0))]) (st' := []) (I' := (zx_uI I 4 11 (fi_num I 0))) (L' := L) (R' := zw_RC h sp la) rfl ?_
          first | (exact absurd (c12.symm.trans c39) (by decide)) | (exact absurd (c12.symm.trans c66) (by decide)) | (exact absurd (c39.symm.trans c66) (by decide)) | (exact absurd hno (by simp [ti_num, *]; done))
    · have _c := c12
      refine zv_run 3 (pc' := 19) (lo' := [some (.ref 4), some (.ref 2), some (.int (fi_num I 0))]) (st' := [.int 9, .int 0, .ref 2]) (I' := I) (L' := L) (R' := zw_RC h sp la) rfl ?_
      refine zv_cV (M' := mm_X6_isOneWithin) (ci := 6) (a := 2) (av := [.int 0, .int 9]) (st := []) (r := some (.int (fi_one I 0 9))) (I' := I) (L' := L) (R' := zw_RC h sp la) rfl zc_5_146 gd_X6_isOneWithin rfl rfl rfl (Nat.le_of_ble_eq_true rfl) (ct_X6_isOneWithin (d := _)) ⟨Nat.le_refl _, Nat.le_refl _⟩ ?_
      refine zv_run 0 (pc' := 22) (lo' := [some (.ref 4), some (.ref 2), some (.int (fi_num I 0))]) (st' := [.int (fi_one I 0 9)]) (I' := I) (L' := L) (R' := zw_RC h sp la) rfl ?_
      refine zv_if_eq (tgt := 33) (zs_at rfl) (by decide) (fun c22 => ?_) (fun c22 => ?_)
      · have _c := c22
        refine zv_run 3 (pc' := 39) (lo' := [some (.ref 4), some (.ref 2), some (.int (fi_num I 0))]) (st' := [.int 113, .int (I 2 1)]) (I' := I) (L' := L) (R' := zw_RC h sp la) rfl ?_
        refine zv_icmp_ne (tgt := 60) (zs_at rfl) (by decide) (fun c39 => ?_) (fun c39 => ?_)
        · have _c := c39
          refine zv_run 3 (pc' := 66) (lo' := [some (.ref 4), some (.ref 2), some (.int (fi_num I 0))]) (st' := [.int 110, .int (I 2 1)]) (I' := I) (L' := L) (R' := zw_RC h sp la) rfl ?_
          refine zv_icmp_ne (tgt := 87) (zs_at rfl) (by decide) (fun c66 => ?_) (fun c66 => ?_)
          · have _c := c66
            refine zv_run 1 (pc' := 88) (lo' := [some (.ref 4), some (.ref 2), some (.int (fi_num I 0))]) (st' := [.int 0]) (I' := I) (L' := L) (R' := zw_RC h sp la) rfl ?_
            exact zv_zret (zs_at rfl) rfl (Or.inl rfl) ⟨Nat.le_refl _, Nat.le_refl _⟩ (zw_to rfl rfl rfl rfl)
          · have _c := c66
            refine zv_run 3 (pc' := 73) (lo' := [some (.ref 4), some (.ref 2), some (.int (fi_num I 0))]) (st' := [.int 60, .int 1, .ref 2]) (I' := I) (L' := L) (R' := zw_RC h sp la) rfl ?_
            refine zv_cV (M' := mm_X6_isOneWithin) (ci := 6) (a := 2) (av := [.int 1, .int 60]) (st := []) (r := some (.int (fi_one I 1 60))) (I' := I) (L' := L) (R' := zw_RC h sp la) rfl zc_5_146 gd_X6_isOneWithin rfl rfl rfl (Nat.le_of_ble_eq_true rfl) (ct_X6_isOneWithin (d := _)) ⟨Nat.le_refl _, Nat.le_refl _⟩ ?_
            refine zv_run 0 (pc' := 76) (lo' := [some (.ref 4), some (.ref 2), some (.int (fi_num I 0))]) (st' := [.int (fi_one I 1 60)]) (I' := I) (L' := L) (R' := zw_RC h sp la) rfl ?_
            refine zv_if_eq (tgt := 87) (zs_at rfl) (by decide) (fun c76 => ?_) (fun c76 => ?_)
            · have _c := c76
              refine zv_run 1 (pc' := 88) (lo' := [some (.ref 4), some (.ref 2), some (.int (fi_num I 0))]) (st' := [.int 0]) (I' := I) (L' := L) (R' := zw_RC h sp la) rfl ?_
              exact zv_zret (zs_at rfl) rfl (Or.inl rfl) ⟨Nat.le_refl _, Nat.le_refl _⟩ (zw_to rfl rfl rfl rfl)
            · have _c := c76
              refine zv_run 4 (pc' := 89) (lo' := [some (.ref 4), some (.ref 2), some (.int (fi_num I 0))]) (st' := []) (I' := (zx_uI I 4 12 (fi_num I 0))) (L' := L) (R' := zw_RC h sp la) rfl ?_
              first | (exact absurd (c12.symm.trans c39) (by decide)) | (exact absurd (c12.symm.trans c66) (by decide)) | (exact absurd (c39.symm.trans c66) (by decide)) | (exact absurd hno (by simp [ti_num, *]; done))
        · have _c := c39
          refine zv_run 3 (pc' := 46) (lo' := [some (.ref 4), some (.ref 2), some (.int (fi_num I 0))]) (st' := [.int 9, .int 0, .ref 2]) (I' := I) (L' := L) (R' := zw_RC h sp la) rfl ?_
          refine zv_cV (M' := mm_X6_isOneWithin) (ci := 6) (a := 2) (av := [.int 0, .int 9]) (st := []) (r := some (.int (fi_one I 0 9))) (I' := I) (L' := L) (R' := zw_RC h sp la) rfl zc_5_146 gd_X6_isOneWithin rfl rfl rfl (Nat.le_of_ble_eq_true rfl) (ct_X6_isOneWithin (d := _)) ⟨Nat.le_refl _, Nat.le_refl _⟩ ?_
          refine zv_run 0 (pc' := 49) (lo' := [some (.ref 4), some (.ref 2), some (.int (fi_num I 0))]) (st' := [.int (fi_one I 0 9)]) (I' := I) (L' := L) (R' := zw_RC h sp la) rfl ?_
          refine zv_if_eq (tgt := 60) (zs_at rfl) (by decide) (fun c49 => ?_) (fun c49 => ?_)
          · have _c := c49
            refine zv_run 3 (pc' := 66) (lo' := [some (.ref 4), some (.ref 2), some (.int (fi_num I 0))]) (st' := [.int 110, .int (I 2 1)]) (I' := I) (L' := L) (R' := zw_RC h sp la) rfl ?_
            refine zv_icmp_ne (tgt := 87) (zs_at rfl) (by decide) (fun c66 => ?_) (fun c66 => ?_)
            · have _c := c66
              refine zv_run 1 (pc' := 88) (lo' := [some (.ref 4), some (.ref 2), some (.int (fi_num I 0))]) (st' := [.int 0]) (I' := I) (L' := L) (R' := zw_RC h sp la) rfl ?_
              exact zv_zret (zs_at rfl) rfl (Or.inl rfl) ⟨Nat.le_refl _, Nat.le_refl _⟩ (zw_to rfl rfl rfl rfl)
            · have _c := c66
              refine zv_run 3 (pc' := 73) (lo' := [some (.ref 4), some (.ref 2), some (.int (fi_num I 0))]) (st' := [.int 60, .int 1, .ref 2]) (I' := I) (L' := L) (R' := zw_RC h sp la) rfl ?_
              refine zv_cV (M' := mm_X6_isOneWithin) (ci := 6) (a := 2) (av := [.int 1, .int 60]) (st := []) (r := some (.int (fi_one I 1 60))) (I' := I) (L' := L) (R' := zw_RC h sp la) rfl zc_5_146 gd_X6_isOneWithin rfl rfl rfl (Nat.le_of_ble_eq_true rfl) (ct_X6_isOneWithin (d := _)) ⟨Nat.le_refl _, Nat.le_refl _⟩ ?_
              refine zv_run 0 (pc' := 76) (lo' := [some (.ref 4), some (.ref 2), some (.int (fi_num I 0))]) (st' := [.int (fi_one I 1 60)]) (I' := I) (L' := L) (R' := zw_RC h sp la) rfl ?_
              refine zv_if_eq (tgt := 87) (zs_at rfl) (by decide) (fun c76 => ?_) (fun c76 => ?_)
              · have _c := c76
                refine zv_run 1 (pc' := 88) (lo' := [some (.ref 4), some (.ref 2), some (.int (fi_num I 0))]) (st' := [.int 0]) (I' := I) (L' := L) (R' := zw_RC h sp la) rfl ?_
                exact zv_zret (zs_at rfl) rfl (Or.inl rfl) ⟨Nat.le_refl _, Nat.le_refl _⟩ (zw_to rfl rfl rfl rfl)
              · have _c := c76
                refine zv_run 4 (pc' := 89) (lo' := [some (.ref 4), some (.ref 2), some (.int (fi_num I 0))]) (st' := []) (I' := (zx_uI I 4 12 (fi_num I 0))) (L' := L) (R' := zw_RC h sp la) rfl ?_
                first | (exact absurd (c12.symm.trans c39) (by decide)) | (exact absurd (c12.symm.trans c66) (by decide)) | (exact absurd (c39.symm.trans c66) (by decide)) | (exact absurd hno (by simp [ti_num, *]; done))
          · have _c := c49
            refine zv_run 4 (pc' := 89) (lo' := [some (.ref 4), some (.ref 2), some (.int (fi_num I 0))]) (st' := []) (I' := (zx_uI I 4 11 (fi_num I 0))) (L' := L) (R' := zw_RC h sp la) rfl ?_
            first | (exact absurd (c12.symm.trans c39) (by decide)) | (exact absurd (c12.symm.trans c66) (by decide)) | (exact absurd (c39.symm.trans c66) (by decide)) | (exact absurd hno (by simp [ti_num, *]; done))
      · have _c := c22
        refine zv_run 4 (pc' := 89) (lo' := [some (.ref 4), some (.ref 2), some (.int (fi_num I 0))]) (st' := []) (I' := (zx_uI I 4 8 (fi_num I 0))) (L' := L) (R' := zw_RC h sp la) rfl ?_
        first | (exact absurd (c12.symm.trans c39) (by decide)) | (exact absurd (c12.symm.trans c66) (by decide)) | (exact absurd (c39.symm.trans c66) (by decide)) | (exact absurd hno (by simp [ti_num, *]; done))
  · refine zv_entry gd_X5_takesNumber (Nat.le_of_ble_eq_true rfl) ?_
    refine zv_run 2 (pc' := 2) (lo' := [some (.ref 14), some (.ref 2), none]) (st' := [.int 0, .ref 2]) (I' := I) (L' := L) (R' := zw_RC h sp la) rfl ?_
    refine zv_cV (M' := mm_X6_number) (ci := 6) (a := 2) (av := [.int 0]) (st := []) (r := some (.int (fi_num I 0))) (I' := I) (L' := L) (R' := zw_RC h sp la) rfl zc_5_121 gd_X6_number rfl rfl rfl (Nat.le_of_ble_eq_true rfl) (ct_X6_number (d := _) (I := I)) ⟨Nat.le_refl _, Nat.le_refl _⟩ ?_
    refine zv_run 0 (pc' := 5) (lo' := [some (.ref 14), some (.ref 2), none]) (st' := [.int (fi_num I 0)]) (I' := I) (L' := L) (R' := zw_RC h sp la) rfl ?_
    refine zv_run 4 (pc' := 12) (lo' := [some (.ref 14), some (.ref 2), some (.int (fi_num I 0))]) (st' := [.int 99, .int (I 2 1)]) (I' := I) (L' := L) (R' := zw_RC h sp la) rfl ?_
    refine zv_icmp_ne (tgt := 33) (zs_at rfl) (by decide) (fun c12 => ?_) (fun c12 => ?_)
    · have _c := c12
      refine zv_run 3 (pc' := 39) (lo' := [some (.ref 14), some (.ref 2), some (.int (fi_num I 0))]) (st' := [.int 113, .int (I 2 1)]) (I' := I) (L' := L) (R' := zw_RC h sp la) rfl ?_
      refine zv_icmp_ne (tgt := 60) (zs_at rfl) (by decide) (fun c39 => ?_) (fun c39 => ?_)
      · have _c := c39
        refine zv_run 3 (pc' := 66) (lo' := [some (.ref 14), some (.ref 2), some (.int (fi_num I 0))]) (st' := [.int 110, .int (I 2 1)]) (I' := I) (L' := L) (R' := zw_RC h sp la) rfl ?_
        refine zv_icmp_ne (tgt := 87) (zs_at rfl) (by decide) (fun c66 => ?_) (fun c66 => ?_)
        · have _c := c66
          refine zv_run 1 (pc' := 88) (lo' := [some (.ref 14), some (.ref 2), some (.int (fi_num I 0))]) (st' := [.int 0]) (I' := I) (L' := L) (R' := zw_RC h sp la) rfl ?_
          exact zv_zret (zs_at rfl) rfl (Or.inl rfl) ⟨Nat.le_refl _, Nat.le_refl _⟩ (zw_to rfl rfl rfl rfl)
        · have _c := c66
          refine zv_run 3 (pc' := 73) (lo' := [some (.ref 14), some (.ref 2), some (.int (fi_num I 0))]) (st' := [.int 60, .int 1, .ref 2]) (I' := I) (L' := L) (R' := zw_RC h sp la) rfl ?_
          refine zv_cV (M' := mm_X6_isOneWithin) (ci := 6) (a := 2) (av := [.int 1, .int 60]) (st := []) (r := some (.int (fi_one I 1 60))) (I' := I) (L' := L) (R' := zw_RC h sp la) rfl zc_5_146 gd_X6_isOneWithin rfl rfl rfl (Nat.le_of_ble_eq_true rfl) (ct_X6_isOneWithin (d := _)) ⟨Nat.le_refl _, Nat.le_refl _⟩ ?_
          refine zv_run 0 (pc' := 76) (lo' := [some (.ref 14), some (.ref 2), some (.int (fi_num I 0))]) (st' := [.int (fi_one I 1 60)]) (I' := I) (L' := L) (R' := zw_RC h sp la) rfl ?_
          refine zv_if_eq (tgt := 87) (zs_at rfl) (by decide) (fun c76 => ?_) (fun c76 => ?_)
          · have _c := c76
            refine zv_run 1 (pc' := 88) (lo' := [some (.ref 14), some (.ref 2), some (.int (fi_num I 0))]) (st' := [.int 0]) (I' := I) (L' := L) (R' := zw_RC h sp la) rfl ?_
            exact zv_zret (zs_at rfl) rfl (Or.inl rfl) ⟨Nat.le_refl _, Nat.le_refl _⟩ (zw_to rfl rfl rfl rfl)
          · have _c := c76
            refine zv_run 4 (pc' := 89) (lo' := [some (.ref 14), some (.ref 2), some (.int (fi_num I 0))]) (st' := []) (I' := (zx_uI I 14 12 (fi_num I 0))) (L' := L) (R' := zw_RC h sp la) rfl ?_
            first | (exact absurd (c12.symm.trans c39) (by decide)) | (exact absurd (c12.symm.trans c66) (by decide)) | (exact absurd (c39.symm.trans c66) (by decide)) | (exact absurd hno (by simp [ti_num, *]; done))
      · have _c := c39
        refine zv_run 3 (pc' := 46) (lo' := [some (.ref 14), some (.ref 2), some (.int (fi_num I 0))]) (st' := [.int 9, .int 0, .ref 2]) (I' := I) (L' := L) (R' := zw_RC h sp la) rfl ?_
        refine zv_cV (M' := mm_X6_isOneWithin) (ci := 6) (a := 2) (av := [.int 0, .int 9]) (st := []) (r := some (.int (fi_one I 0 9))) (I' := I) (L' := L) (R' := zw_RC h sp la) rfl zc_5_146 gd_X6_isOneWithin rfl rfl rfl (Nat.le_of_ble_eq_true rfl) (ct_X6_isOneWithin (d := _)) ⟨Nat.le_refl _, Nat.le_refl _⟩ ?_
        refine zv_run 0 (pc' := 49) (lo' := [some (.ref 14), some (.ref 2), some (.int (fi_num I 0))]) (st' := [.int (fi_one I 0 9)]) (I' := I) (L' := L) (R' := zw_RC h sp la) rfl ?_
        refine zv_if_eq (tgt := 60) (zs_at rfl) (by decide) (fun c49 => ?_) (fun c49 => ?_)
        · have _c := c49
          refine zv_run 3 (pc' := 66) (lo' := [some (.ref 14), some (.ref 2), some (.int (fi_num I 0))]) (st' := [.int 110, .int (I 2 1)]) (I' := I) (L' := L) (R' := zw_RC h sp la) rfl ?_
          refine zv_icmp_ne (tgt := 87) (zs_at rfl) (by decide) (fun c66 => ?_) (fun c66 => ?_)
          · have _c := c66
            refine zv_run 1 (pc' := 88) (lo' := [some (.ref 14), some (.ref 2), some (.int (fi_num I 0))]) (st' := [.int 0]) (I' := I) (L' := L) (R' := zw_RC h sp la) rfl ?_
            exact zv_zret (zs_at rfl) rfl (Or.inl rfl) ⟨Nat.le_refl _, Nat.le_refl _⟩ (zw_to rfl rfl rfl rfl)
          · have _c := c66
            refine zv_run 3 (pc' := 73) (lo' := [some (.ref 14), some (.ref 2), some (.int (fi_num I 0))]) (st' := [.int 60, .int 1, .ref 2]) (I' := I) (L' := L) (R' := zw_RC h sp la) rfl ?_
            refine zv_cV (M' := mm_X6_isOneWithin) (ci := 6) (a := 2) (av := [.int 1, .int 60]) (st := []) (r := some (.int (fi_one I 1 60))) (I' := I) (L' := L) (R' := zw_RC h sp la) rfl zc_5_146 gd_X6_isOneWithin rfl rfl rfl (Nat.le_of_ble_eq_true rfl) (ct_X6_isOneWithin (d := _)) ⟨Nat.le_refl _, Nat.le_refl _⟩ ?_
            refine zv_run 0 (pc' := 76) (lo' := [some (.ref 14), some (.ref 2), some (.int (fi_num I 0))]) (st' := [.int (fi_one I 1 60)]) (I' := I) (L' := L) (R' := zw_RC h sp la) rfl ?_
            refine zv_if_eq (tgt := 87) (zs_at rfl) (by decide) (fun c76 => ?_) (fun c76 => ?_)
            · have _c := c76
              refine zv_run 1 (pc' := 88) (lo' := [some (.ref 14), some (.ref 2), some (.int (fi_num I 0))]) (st' := [.int 0]) (I' := I) (L' := L) (R' := zw_RC h sp la) rfl ?_
              exact zv_zret (zs_at rfl) rfl (Or.inl rfl) ⟨Nat.le_refl _, Nat.le_refl _⟩ (zw_to rfl rfl rfl rfl)
            · have _c := c76
              refine zv_run 4 (pc' := 89) (lo' := [some (.ref 14), some (.ref 2), some (.int (fi_num I 0))]) (st' := []) (I' := (zx_uI I 14 12 (fi_num I 0))) (L' := L) (R' := zw_RC h sp la) rfl ?_
              first | (exact absurd (c12.symm.trans c39) (by decide)) | (exact absurd (c12.symm.trans c66) (by decide)) | (exact absurd (c39.symm.trans c66) (by decide)) | (exact absurd hno (by simp [ti_num, *]; done))
        · have _c := c49
          refine zv_run 4 (pc' := 89) (lo' := [some (.ref 14), some (.ref 2), some (.int (fi_num I 0))]) (st' := []) (I' := (zx_uI I 14 11 (fi_num I 0))) (L' := L) (R' := zw_RC h sp la) rfl ?_
          first | (exact absurd (c12.symm.trans c39) (by decide)) | (exact absurd (c12.symm.trans c66) (by decide)) | (exact absurd (c39.symm.trans c66) (by decide)) | (exact absurd hno (by simp [ti_num, *]; done))
    · have _c := c12
      refine zv_run 3 (pc' := 19) (lo' := [some (.ref 14), some (.ref 2), some (.int (fi_num I 0))]) (st' := [.int 9, .int 0, .ref 2]) (I' := I) (L' := L) (R' := zw_RC h sp la) rfl ?_
      refine zv_cV (M' := mm_X6_isOneWithin) (ci := 6) (a := 2) (av := [.int 0, .int 9]) (st := []) (r := some (.int (fi_one I 0 9))) (I' := I) (L' := L) (R' := zw_RC h sp la) rfl zc_5_146 gd_X6_isOneWithin rfl rfl rfl (Nat.le_of_ble_eq_true rfl) (ct_X6_isOneWithin (d := _)) ⟨Nat.le_refl _, Nat.le_refl _⟩ ?_
      refine zv_run 0 (pc' := 22) (lo' := [some (.ref 14), some (.ref 2), some (.int (fi_num I 0))]) (st' := [.int (fi_one I 0 9)]) (I' := I) (L' := L) (R' := zw_RC h sp la) rfl ?_
      refine zv_if_eq (tgt := 33) (zs_at rfl) (by decide) (fun c22 => ?_) (fun c22 => ?_)
      · have _c := c22
        refine zv_run 3 (pc' := 39) (lo' := [some (.ref 14), some (.ref 2), some (.int (fi_num I 0))]) (st' := [.int 113, .int (I 2 1)]) (I' := I) (L' := L) (R' := zw_RC h sp la) rfl ?_
        refine zv_icmp_ne (tgt := 60) (zs_at rfl) (by decide) (fun c39 => ?_) (fun c39 => ?_)
        · have _c := c39
          refine zv_run 3 (pc' := 66) (lo' := [some (.ref 14), some (.ref 2), some (.int (fi_num I 0))]) (st' := [.int 110, .int (I 2 1)]) (I' := I) (L' := L) (R' := zw_RC h sp la) rfl ?_
          refine zv_icmp_ne (tgt := 87) (zs_at rfl) (by decide) (fun c66 => ?_) (fun c66 => ?_)
          · have _c := c66
            refine zv_run 1 (pc' := 88) (lo' := [some (.ref 14), some (.ref 2), some (.int (fi_num I 0))]) (st' := [.int 0]) (I' := I) (L' := L) (R' := zw_RC h sp la) rfl ?_
            exact zv_zret (zs_at rfl) rfl (Or.inl rfl) ⟨Nat.le_refl _, Nat.le_refl _⟩ (zw_to rfl rfl rfl rfl)
          · have _c := c66
            refine zv_run 3 (pc' := 73) (lo' := [some (.ref 14), some (.ref 2), some (.int (fi_num I 0))]) (st' := [.int 60, .int 1, .ref 2]) (I' := I) (L' := L) (R' := zw_RC h sp la) rfl ?_
            refine zv_cV (M' := mm_X6_isOneWithin) (ci := 6) (a := 2) (av := [.int 1, .int 60]) (st := []) (r := some (.int (fi_one I 1 60))) (I' := I) (L' := L) (R' := zw_RC h sp la) rfl zc_5_146 gd_X6_isOneWithin rfl rfl rfl (Nat.le_of_ble_eq_true rfl) (ct_X6_isOneWithin (d := _)) ⟨Nat.le_refl _, Nat.le_refl _⟩ ?_
            refine zv_run 0 (pc' := 76) (lo' := [some (.ref 14), some (.ref 2), some (.int (fi_num I 0))]) (st' := [.int (fi_one I 1 60)]) (I' := I) (L' := L) (R' := zw_RC h sp la) rfl ?_
            refine zv_if_eq (tgt := 87) (zs_at rfl) (by decide) (fun c76 => ?_) (fun c76 => ?_)
            · have _c := c76
              refine zv_run 1 (pc' := 88) (lo' := [some (.ref 14), some (.ref 2), some (.int (fi_num I 0))]) (st' := [.int 0]) (I' := I) (L' := L) (R' := zw_RC h sp la) rfl ?_
              exact zv_zret (zs_at rfl) rfl (Or.inl rfl) ⟨Nat.le_refl _, Nat.le_refl _⟩ (zw_to rfl rfl rfl rfl)
            · have _c := c76
              refine zv_run 4 (pc' := 89) (lo' := [some (.ref 14), some (.ref 2), some (.int (fi_num I 0))]) (st' := []) (I' := (zx_uI I 14 12 (fi_num I 0))) (L' := L) (R' := zw_RC h sp la) rfl ?_
              first | (exact absurd (c12.symm.trans c39) (by decide)) | (exact absurd (c12.symm.trans c66) (by decide)) | (exact absurd (c39.symm.trans c66) (by decide)) | (exact absurd hno (by simp [ti_num, *]; done))
        · have _c := c39
          refine zv_run 3 (pc' := 46) (lo' := [some (.ref 14), some (.ref 2), some (.int (fi_num I 0))]) (st' := [.int 9, .int 0, .ref 2]) (I' := I) (L' := L) (R' := zw_RC h sp la) rfl ?_
          refine zv_cV (M' := mm_X6_isOneWithin) (ci := 6) (a := 2) (av := [.int 0, .int 9]) (st := []) (r := some (.int (fi_one I 0 9))) (I' := I) (L' := L) (R' := zw_RC h sp la) rfl zc_5_146 gd_X6_isOneWithin rfl rfl rfl (Nat.le_of_ble_eq_true rfl) (ct_X6_isOneWithin (d := _)) ⟨Nat.le_refl _, Nat.le_refl _⟩ ?_
          refine zv_run 0 (pc' := 49) (lo' := [some (.ref 14), some (.ref 2), some (.int (fi_num I 0))]) (st' := [.int (fi_one I 0 9)]) (I' := I) (L' := L) (R' := zw_RC h sp la) rfl ?_
          refine zv_if_eq (tgt := 60) (zs_at rfl) (by decide) (fun c49 => ?_) (fun c49 => ?_)
          · have _c := c49
            refine zv_run 3 (pc' := 66) (lo' := [some (.ref 14), some (.ref 2), some (.int (fi_num I 0))]) (st' := [.int 110, .int (I 2 1)]) (I' := I) (L' := L) (R' := zw_RC h sp la) rfl ?_
            refine zv_icmp_ne (tgt := 87) (zs_at rfl) (by decide) (fun c66 => ?_) (fun c66 => ?_)
            · have _c := c66
              refine zv_run 1 (pc' := 88) (lo' := [some (.ref 14), some (.ref 2), some (.int (fi_num I 0))]) (st' := [.int 0]) (I' := I) (L' := L) (R' := zw_RC h sp la) rfl ?_
              exact zv_zret (zs_at rfl) rfl (Or.inl rfl) ⟨Nat.le_refl _, Nat.le_refl _⟩ (zw_to rfl rfl rfl rfl)
            · have _c := c66
              refine zv_run 3 (pc' := 73) (lo' := [some (.ref 14), some (.ref 2), some (.int (fi_num I 0))]) (st' := [.int 60, .int 1, .ref 2]) (I' := I) (L' := L) (R' := zw_RC h sp la) rfl ?_
              refine zv_cV (M' := mm_X6_isOneWithin) (ci := 6) (a := 2) (av := [.int 1, .int 60]) (st := []) (r := some (.int (fi_one I 1 60))) (I' := I) (L' := L) (R' := zw_RC h sp la) rfl zc_5_146 gd_X6_isOneWithin rfl rfl rfl (Nat.le_of_ble_eq_true rfl) (ct_X6_isOneWithin (d := _)) ⟨Nat.le_refl _, Nat.le_refl _⟩ ?_
              refine zv_run 0 (pc' := 76) (lo' := [some (.ref 14), some (.ref 2), some (.int (fi_num I 0))]) (st' := [.int (fi_one I 1 60)]) (I' := I) (L' := L) (R' := zw_RC h sp la) rfl ?_
              refine zv_if_eq (tgt := 87) (zs_at rfl) (by decide) (fun c76 => ?_) (fun c76 => ?_)
              · have _c := c76
                refine zv_run 1 (pc' := 88) (lo' := [some (.ref 14), some (.ref 2), some (.int (fi_num I 0))]) (st' := [.int 0]) (I' := I) (L' := L) (R' := zw_RC h sp la) rfl ?_
                exact zv_zret (zs_at rfl) rfl (Or.inl rfl) ⟨Nat.le_refl _, Nat.le_refl _⟩ (zw_to rfl rfl rfl rfl)
              · have _c := c76
                refine zv_run 4 (pc' := 89) (lo' := [some (.ref 14), some (.ref 2), some (.int (fi_num I 0))]) (st' := []) (I' := (zx_uI I 14 12 (fi_num I 0))) (L' := L) (R' := zw_RC h sp la) rfl ?_
                first | (exact absurd (c12.symm.trans c39) (by decide)) | (exact absurd (c12.symm.trans c66) (by decide)) | (exact absurd (c39.symm.trans c66) (by decide)) | (exact absurd hno (by simp [ti_num, *]; done))
          · have _c := c49
            refine zv_run 4 (pc' := 89) (lo' := [some (.ref 14), some (.ref 2), some (.int (fi_num I 0))]) (st' := []) (I' := (zx_uI I 14 11 (fi_num I 0))) (L' := L) (R' := zw_RC h sp la) rfl ?_
            first | (exact absurd (c12.symm.trans c39) (by decide)) | (exact absurd (c12.symm.trans c66) (by decide)) | (exact absurd (c39.symm.trans c66) (by decide)) | (exact absurd hno (by simp [ti_num, *]; done))
      · have _c := c22
        refine zv_run 4 (pc' := 89) (lo' := [some (.ref 14), some (.ref 2), some (.int (fi_num I 0))]) (st' := []) (I' := (zx_uI I 14 8 (fi_num I 0))) (L' := L) (R' := zw_RC h sp la) rfl ?_
        first | (exact absurd (c12.symm.trans c39) (by decide)) | (exact absurd (c12.symm.trans c66) (by decide)) | (exact absurd (c39.symm.trans c66) (by decide)) | (exact absurd hno (by simp [ti_num, *]; done))
theorem ct_X5_takesNumber {d : Nat} {I : zx_I} {L : zx_L} {h sp : Nat} {la : Option Nat} {a : Nat}  (ha : a = 4 ∨ a = 14) (hok : ¬ ti_num I = 0) : zx_M0 mm_X5_takesNumber (d + 3) 0 0 [.ref a, .ref 2] zw_SC I L (zw_RC h sp la) (zw_ret (some (.int 1)) zw_SC (tm_num I a) L (zw_RC h sp la)) := by
  rcases ha with rfl | rfl
  · refine zv_entry gd_X5_takesNumber (Nat.le_of_ble_eq_true rfl) ?_
    refine zv_run 2 (pc' := 2) (lo' := [some (.ref 4), some (.ref 2), none]) (st' := [.int 0, .ref 2]) (I' := I) (L' := L) (R' := zw_RC h sp la) rfl ?_
    refine zv_cV (M' := mm_X6_number) (ci := 6) (a := 2) (av := [.int 0]) (st := []) (r := some (.int (fi_num I 0))) (I' := I) (L' := L) (R' := zw_RC h sp la) rfl zc_5_121 gd_X6_number rfl rfl rfl (Nat.le_of_ble_eq_true rfl) (ct_X6_number (d := _) (I := I)) ⟨Nat.le_refl _, Nat.le_refl _⟩ ?_
    refine zv_run 0 (pc' := 5) (lo' := [some (.ref 4), some (.ref 2), none]) (st' := [.int (fi_num I 0)]) (I' := I) (L' := L) (R' := zw_RC h sp la) rfl ?_
    refine zv_run 4 (pc' := 12) (lo' := [some (.ref 4), some (.ref 2), some (.int (fi_num I 0))]) (st' := [.int 99, .int (I 2 1)]) (I' := I) (L' := L) (R' := zw_RC h sp la) rfl ?_
    refine zv_icmp_ne (tgt := 33) (zs_at rfl) (by decide) (fun c12 => ?_) (fun c12 => ?_)
    · have _c := c12
      refine zv_run 3 (pc' := 39) (lo' := [some (.ref 4), some (.ref 2), some (.int (fi_num I 0))]) (st' := [.int 113, .int (I 2 1)]) (I' := I) (L' := L) (R' := zw_RC h sp la) rfl ?_
      refine zv_icmp_ne (tgt := 60) (zs_at rfl) (by decide) (fun c39 => ?_) (fun c39 => ?_)
      · have _c := c39
        refine zv_run 3 (pc' := 66) (lo' := [some (.ref 4), some (.ref 2), some (.int (fi_num I 0))]) (st' := [.int 110, .int (I 2 1)]) (I' := I) (L' := L) (R' := zw_RC h sp la) rfl ?_
        refine zv_icmp_ne (tgt := 87) (zs_at rfl) (by decide) (fun c66 => ?_) (fun c66 => ?_)
        · have _c := c66
          refine zv_run 1 (pc' := 88) (lo' := [some (.ref 4), some (.ref 2), some (.int (fi_num I 0))]) (st' := [.int 0]) (I' := I) (L' := L) (R' := zw_RC h sp la) rfl ?_
          exact zv_zret (zs_at rfl) rfl (Or.inl rfl) ⟨Nat.le_refl _, Nat.le_refl _⟩ (by first | (exact absurd (c12.symm.trans c39) (by decide)) | (exact absurd (c12.symm.trans c66) (by decide)) | (exact absurd (c39.symm.trans c66) (by decide)) | (exact absurd (show ti_num I = 0 from by simp [ti_num, *]; done) hok))
        · have _c := c66
          refine zv_run 3 (pc' := 73) (lo' := [some (.ref 4), some (.ref 2), some (.int (fi_num I 0))]) (st' := [.int 60, .int 1, .ref 2]) (I' := I) (L' := L) (R' := zw_RC h sp la) rfl ?_
          refine zv_cV (M' := mm_X6_isOneWithin) (ci := 6) (a := 2) (av := [.int 1, .int 60]) (st := []) (r := some (.int (fi_one I 1 60))) (I' := I) (L' := L) (R' := zw_RC h sp la) rfl zc_5_146 gd_X6_isOneWithin rfl rfl rfl (Nat.le_of_ble_eq_true rfl) (ct_X6_isOneWithin (d := _)) ⟨Nat.le_refl _, Nat.le_refl _⟩ ?_
          refine zv_run 0 (pc' := 76) (lo' := [some (.ref 4), some (.ref 2), some (.int (fi_num I 0))]) (st' := [.int (fi_one I 1 60)]) (I' := I) (L' := L) (R' := zw_RC h sp la) rfl ?_
          refine zv_if_eq (tgt := 87) (zs_at rfl) (by decide) (fun c76 => ?_) (fun c76 => ?_)
          · have _c := c76
            refine zv_run 1 (pc' := 88) (lo' := [some (.ref 4), some (.ref 2), some (.int (fi_num I 0))]) (st' := [.int 0]) (I' := I) (L' := L) (R' := zw_RC h sp la) rfl ?_
            exact zv_zret (zs_at rfl) rfl (Or.inl rfl) ⟨Nat.le_refl _, Nat.le_refl _⟩ (by first | (exact absurd (c12.symm.trans c39) (by decide)) | (exact absurd (c12.symm.trans c66) (by decide)) | (exact absurd (c39.symm.trans c66) (by decide)) | (exact absurd (show ti_num I = 0 from by simp [ti_num, *]; done) hok))
          · have _c := c76
            refine zv_run 4 (pc' := 89) (lo' := [some (.ref 4), some (.ref 2), some (.int (fi_num I 0))]) (st' := []) (I' := (zx_uI I 4 12 (fi_num I 0))) (L' := L) (R' := zw_RC h sp la) rfl ?_
            refine zv_run 1 (pc' := 90) (lo' := [some (.ref 4), some (.ref 2), some (.int (fi_num I 0))]) (st' := [.int 1]) (I' := (zx_uI I 4 12 (fi_num I 0))) (L' := L) (R' := zw_RC h sp la) rfl ?_
            exact zv_zret (zs_at rfl) rfl (Or.inr rfl) ⟨Nat.le_refl _, Nat.le_refl _⟩ (zw_to rfl (by first | (exact absurd (c12.symm.trans c39) (by decide)) | (exact absurd (c12.symm.trans c66) (by decide)) | (exact absurd (c39.symm.trans c66) (by decide)) | (simp [tm_num, *]; done)) rfl rfl)
      · have _c := c39
        refine zv_run 3 (pc' := 46) (lo' := [some (.ref 4), some (.ref 2), some (.int (fi_num I 0))]) (st' := [.int 9, .int 0, .ref 2]) (I' := I) (L' := L) (R' := zw_RC h sp la) rfl ?_
        refine zv_cV (M' := mm_X6_isOneWithin) (ci := 6) (a := 2) (av := [.int 0, .int 9]) (st := []) (r := some (.int (fi_one I 0 9))) (I' := I) (L' := L) (R' := zw_RC h sp la) rfl zc_5_146 gd_X6_isOneWithin rfl rfl rfl (Nat.le_of_ble_eq_true rfl) (ct_X6_isOneWithin (d := _)) ⟨Nat.le_refl _, Nat.le_refl _⟩ ?_
        refine zv_run 0 (pc' := 49) (lo' := [some (.ref 4), some (.ref 2), some (.int (fi_num I 0))]) (st' := [.int (fi_one I 0 9)]) (I' := I) (L' := L) (R' := zw_RC h sp la) rfl ?_
        refine zv_if_eq (tgt := 60) (zs_at rfl) (by decide) (fun c49 => ?_) (fun c49 => ?_)
        · have _c := c49
          refine zv_run 3 (pc' := 66) (lo' := [some (.ref 4), some (.ref 2), some (.int (fi_num I 0))]) (st' := [.int 110, .int (I 2 1)]) (I' := I) (L' := L) (R' := zw_RC h sp la) rfl ?_
          refine zv_icmp_ne (tgt := 87) (zs_at rfl) (by decide) (fun c66 => ?_) (fun c66 => ?_)
          · have _c := c66
            refine zv_run 1 (pc' := 88) (lo' := [some (.ref 4), some (.ref 2), some (.int (fi_num I 0))]) (st' := [.int 0]) (I' := I) (L' := L) (R' := zw_RC h sp la) rfl ?_
            exact zv_zret (zs_at rfl) rfl (Or.inl rfl) ⟨Nat.le_refl _, Nat.le_refl _⟩ (by first | (exact absurd (c12.symm.trans c39) (by decide)) | (exact absurd (c12.symm.trans c66) (by decide)) | (exact absurd (c39.symm.trans c66) (by decide)) | (exact absurd (show ti_num I = 0 from by simp [ti_num, *]; done) hok))
          · have _c := c66
            refine zv_run 3 (pc' := 73) (lo' := [some (.ref 4), some (.ref 2), some (.int (fi_num I 0))]) (st' := [.int 60, .int 1, .ref 2]) (I' := I) (L' := L) (R' := zw_RC h sp la) rfl ?_
            refine zv_cV (M' := mm_X6_isOneWithin) (ci := 6) (a := 2) (av := [.int 1, .int 60]) (st := []) (r := some (.int (fi_one I 1 60))) (I' := I) (L' := L) (R' := zw_RC h sp la) rfl zc_5_146 gd_X6_isOneWithin rfl rfl rfl (Nat.le_of_ble_eq_true rfl) (ct_X6_isOneWithin (d := _)) ⟨Nat.le_refl _, Nat.le_refl _⟩ ?_
            refine zv_run 0 (pc' := 76) (lo' := [some (.ref 4), some (.ref 2), some (.int (fi_num I 0))]) (st' := [.int (fi_one I 1 60)]) (I' := I) (L' := L) (R' := zw_RC h sp la) rfl ?_
            refine zv_if_eq (tgt := 87) (zs_at rfl) (by decide) (fun c76 => ?_) (fun c76 => ?_)
            · have _c := c76
              refine zv_run 1 (pc' := 88) (lo' := [some (.ref 4), some (.ref 2), some (.int (fi_num I 0))]) (st' := [.int 0]) (I' := I) (L' := L) (R' := zw_RC h sp la) rfl ?_
              exact zv_zret (zs_at rfl) rfl (Or.inl rfl) ⟨Nat.le_refl _, Nat.le_refl _⟩ (by first | (exact absurd (c12.symm.trans c39) (by decide)) | (exact absurd (c12.symm.trans c66) (by decide)) | (exact absurd (c39.symm.trans c66) (by decide)) | (exact absurd (show ti_num I = 0 from by simp [ti_num, *]; done) hok))
            · have _c := c76
              refine zv_run 4 (pc' := 89) (lo' := [some (.ref 4), some (.ref 2), some (.int (fi_num I 0))]) (st' := []) (I' := (zx_uI I 4 12 (fi_num I 0))) (L' := L) (R' := zw_RC h sp la) rfl ?_
              refine zv_run 1 (pc' := 90) (lo' := [some (.ref 4), some (.ref 2), some (.int (fi_num I 0))]) (st' := [.int 1]) (I' := (zx_uI I 4 12 (fi_num I 0))) (L' := L) (R' := zw_RC h sp la) rfl ?_
              exact zv_zret (zs_at rfl) rfl (Or.inr rfl) ⟨Nat.le_refl _, Nat.le_refl _⟩ (zw_to rfl (by first | (exact absurd (c12.symm.trans c39) (by decide)) | (exact absurd (c12.symm.trans c66) (by decide)) | (exact absurd (c39.symm.trans c66) (by decide)) | (simp [tm_num, *]; done)) rfl rfl)
        · have _c := c49
          refine zv_run 4 (pc' := 89) (lo' := [some (.ref 4), some (.ref 2), some (.int (fi_num I 0))]) (st' := []) (I' := (zx_uI I 4 11 (fi_num I 0))) (L' := L) (R' := zw_RC h sp la) rfl ?_
          refine zv_run 1 (pc' := 90) (lo' := [some (.ref 4), some (.ref 2), some (.int (fi_num I 0))]) (st' := [.int 1]) (I' := (zx_uI I 4 11 (fi_num I 0))) (L' := L) (R' := zw_RC h sp la) rfl ?_
          exact zv_zret (zs_at rfl) rfl (Or.inr rfl) ⟨Nat.le_refl _, Nat.le_refl _⟩ (zw_to rfl (by first | (exact absurd (c12.symm.trans c39) (by decide)) | (exact absurd (c12.symm.trans c66) (by decide)) | (exact absurd (c39.symm.trans c66) (by decide)) | (simp [tm_num, *]; done)) rfl rfl)
    · have _c := c12
      refine zv_run 3 (pc' := 19) (lo' := [some (.ref 4), some (.ref 2), some (.int (fi_num I 0))]) (st' := [.int 9, .int 0, .ref 2]) (I' := I) (L' := L) (R' := zw_RC h sp la) rfl ?_
      refine zv_cV (M' := mm_X6_isOneWithin) (ci := 6) (a := 2) (av := [.int 0, .int 9]) (st := []) (r := some (.int (fi_one I 0 9))) (I' := I) (L' := L) (R' := zw_RC h sp la) rfl zc_5_146 gd_X6_isOneWithin rfl rfl rfl (Nat.le_of_ble_eq_true rfl) (ct_X6_isOneWithin (d := _)) ⟨Nat.le_refl _, Nat.le_refl _⟩ ?_
      refine zv_run 0 (pc' := 22) (lo' := [some (.ref 4), some (.ref 2), some (.int (fi_num I 0))]) (st' := [.int (fi_one I 0 9)]) (I' := I) (L' := L) (R' := zw_RC h sp la) rfl ?_
      refine zv_if_eq (tgt := 33) (zs_at rfl) (by decide) (fun c22 => ?_) (fun c22 => ?_)
      · have _c := c22
        refine zv_run 3 (pc' := 39) (lo' := [some (.ref 4), some (.ref 2), some (.int (fi_num I 0))]) (st' := [.int 113, .int (I 2 1)]) (I' := I) (L' := L) (R' := zw_RC h sp la) rfl ?_
        refine zv_icmp_ne (tgt := 60) (zs_at rfl) (by decide) (fun c39 => ?_) (fun c39 => ?_)
        · have _c := c39
          refine zv_run 3 (pc' := 66) (lo' := [some (.ref 4), some (.ref 2), some (.int (fi_num I 0))]) (st' := [.int 110, .int (I 2 1)]) (I' := I) (L' := L) (R' := zw_RC h sp la) rfl ?_
          refine zv_icmp_ne (tgt := 87) (zs_at rfl) (by decide) (fun c66 => ?_) (fun c66 => ?_)
          · have _c := c66
            refine zv_run 1 (pc' := 88) (lo' := [some (.ref 4), some (.ref 2), some (.int (fi_num I 0))]) (st' := [.int 0]) (I' := I) (L' := L) (R' := zw_RC h sp la) rfl ?_
            exact zv_zret (zs_at rfl) rfl (Or.inl rfl) ⟨Nat.le_refl _, Nat.le_refl _⟩ (by first | (exact absurd (c12.symm.trans c39) (by decide)) | (exact absurd (c12.symm.trans c66) (by decide)) | (exact absurd (c39.symm.trans c66) (by decide)) | (exact absurd (show ti_num I = 0 from by simp [ti_num, *]; done) hok))
          · have _c := c66
            refine zv_run 3 (pc' := 73) (lo' := [some (.ref 4), some (.ref 2), some (.int (fi_num I 0))]) (st' := [.int 60, .int 1, .ref 2]) (I' := I) (L' := L) (R' := zw_RC h sp la) rfl ?_
            refine zv_cV (M' := mm_X6_isOneWithin) (ci := 6) (a := 2) (av := [.int 1, .int 60]) (st := []) (r := some (.int (fi_one I 1 60))) (I' := I) (L' := L) (R' := zw_RC h sp la) rfl zc_5_146 gd_X6_isOneWithin rfl rfl rfl (Nat.le_of_ble_eq_true rfl) (ct_X6_isOneWithin (d := _)) ⟨Nat.le_refl _, Nat.le_refl _⟩ ?_
            refine zv_run 0 (pc' := 76) (lo' := [some (.ref 4), some (.ref 2), some (.int (fi_num I 0))]) (st' := [.int (fi_one I 1 60)]) (I' := I) (L' := L) (R' := zw_RC h sp la) rfl ?_
            refine zv_if_eq (tgt := 87) (zs_at rfl) (by decide) (fun c76 => ?_) (fun c76 => ?_)
            · have _c := c76
              refine zv_run 1 (pc' := 88) (lo' := [some (.ref 4), some (.ref 2), some (.int (fi_num I 0))]) (st' := [.int 0]) (I' := I) (L' := L) (R' := zw_RC h sp la) rfl ?_
              exact zv_zret (zs_at rfl) rfl (Or.inl rfl) ⟨Nat.le_refl _, Nat.le_refl _⟩ (by first | (exact absurd (c12.symm.trans c39) (by decide)) | (exact absurd (c12.symm.trans c66) (by decide)) | (exact absurd (c39.symm.trans c66) (by decide)) | (exact absurd (show ti_num I = 0 from by simp [ti_num, *]; done) hok))
            · have _c := c76
              refine zv_run 4 (pc' := 89) (lo' := [some (.ref 4), some (.ref 2), some (.int (fi_num I 0))]) (st' := []) (I' := (zx_uI I 4 12 (fi_num I 0))) (L' := L) (R' := zw_RC h sp la) rfl ?_
              refine zv_run 1 (pc' := 90) (lo' := [some (.ref 4), some (.ref 2), some (.int (fi_num I 0))]) (st' := [.int 1]) (I' := (zx_uI I 4 12 (fi_num I 0))) (L' := L) (R' := zw_RC h sp la) rfl ?_
              exact zv_zret (zs_at rfl) rfl (Or.inr rfl) ⟨Nat.le_refl _, Nat.le_refl _⟩ (zw_to rfl (by first | (exact absurd (c12.symm.trans c39) (by decide)) | (exact absurd (c12.symm.trans c66) (by decide)) | (exact absurd (c39.symm.trans c66) (by decide)) | (simp [tm_num, *]; done)) rfl rfl)
        · have _c := c39
          refine zv_run 3 (pc' := 46) (lo' := [some (.ref 4), some (.ref 2), some (.int (fi_num I 0))]) (st' := [.int 9, .int 0, .ref 2]) (I' := I) (L' := L) (R' := zw_RC h sp la) rfl ?_
          refine zv_cV (M' := mm_X6_isOneWithin) (ci := 6) (a := 2) (av := [.int 0, .int 9]) (st := []) (r := some (.int (fi_one I 0 9))) (I' := I) (L' := L) (R' := zw_RC h sp la) rfl zc_5_146 gd_X6_isOneWithin rfl rfl rfl (Nat.le_of_ble_eq_true rfl) (ct_X6_isOneWithin (d := _)) ⟨Nat.le_refl _, Nat.le_refl _⟩ ?_
          refine zv_run 0 (pc' := 49) (lo' := [some (.ref 4), some (.ref 2), some (.int (fi_num I 0))]) (st' := [.int (fi_one I 0 9)]) (I' := I) (L' := L) (R' := zw_RC h sp la) rfl ?_
          refine zv_if_eq (tgt := 60) (zs_at rfl) (by decide) (fun c49 => ?_) (fun c49 => ?_)
          · have _c := c49
            refine zv_run 3 (pc' := 66) (lo' := [some (.ref 4), some (.ref 2), some (.int (fi_num I 0))]) (st' := [.int 110, .int (I 2 1)]) (I' := I) (L' := L) (R' := zw_RC h sp la) rfl ?_
            refine zv_icmp_ne (tgt := 87) (zs_at rfl) (by decide) (fun c66 => ?_) (fun c66 => ?_)
            · have _c := c66
              refine zv_run 1 (pc' := 88) (lo' := [some (.ref 4), some (.ref 2), some (.int (fi_num I 0))]) (st' := [.int 0]) (I' := I) (L' := L) (R' := zw_RC h sp la) rfl ?_
              exact zv_zret (zs_at rfl) rfl (Or.inl rfl) ⟨Nat.le_refl _, Nat.le_refl _⟩ (by first | (exact absurd (c12.symm.trans c39) (by decide)) | (exact absurd (c12.symm.trans c66) (by decide)) | (exact absurd (c39.symm.trans c66) (by decide)) | (exact absurd (show ti_num I = 0 from by simp [ti_num, *]; done) hok))
            · have _c := c66
              refine zv_run 3 (pc' := 73) (lo' := [some (.ref 4), some (.ref 2), some (.int (fi_num I 0))]) (st' := [.int 60, .int 1, .ref 2]) (I' := I) (L' := L) (R' := zw_RC h sp la) rfl ?_
              refine zv_cV (M' := mm_X6_isOneWithin) (ci := 6) (a := 2) (av := [.int 1, .int 60]) (st := []) (r := some (.int (fi_one I 1 60))) (I' := I) (L' := L) (R' := zw_RC h sp la) rfl zc_5_146 gd_X6_isOneWithin rfl rfl rfl (Nat.le_of_ble_eq_true rfl) (ct_X6_isOneWithin (d := _)) ⟨Nat.le_refl _, Nat.le_refl _⟩ ?_
              refine zv_run 0 (pc' := 76) (lo' := [some (.ref 4), some (.ref 2), some (.int (fi_num I 0))]) (st' := [.int (fi_one I 1 60)]) (I' := I) (L' := L) (R' := zw_RC h sp la) rfl ?_
              refine zv_if_eq (tgt := 87) (zs_at rfl) (by decide) (fun c76 => ?_) (fun c76 => ?_)
              · have _c := c76
                refine zv_run 1 (pc' := 88) (lo' := [some (.ref 4), some (.ref 2), some (.int (fi_num I 0))]) (st' := [.int 0]) (I' := I) (L' := L) (R' := zw_RC h sp la) rfl ?_
                exact zv_zret (zs_at rfl) rfl (Or.inl rfl) ⟨Nat.le_refl _, Nat.le_refl _⟩ (by first | (exact absurd (c12.symm.trans c39) (by decide)) | (exact absurd (c12.symm.trans c66) (by decide)) | (exact absurd (c39.symm.trans c66) (by decide)) | (exact absurd (show ti_num I = 0 from by simp [ti_num, *]; done) hok))
              · have _c := c76
                refine zv_run 4 (pc' := 89) (lo' := [some (.ref 4), some (.ref 2), some (.int (fi_num I 0))]) (st' := []) (I' := (zx_uI I 4 12 (fi_num I 0))) (L' := L) (R' := zw_RC h sp la) rfl ?_
                refine zv_run 1 (pc' := 90) (lo' := [some (.ref 4), some (.ref 2), some (.int (fi_num I 0))]) (st' := [.int 1]) (I' := (zx_uI I 4 12 (fi_num I 0))) (L' := L) (R' := zw_RC h sp la) rfl ?_
                exact zv_zret (zs_at rfl) rfl (Or.inr rfl) ⟨Nat.le_refl _, Nat.le_refl _⟩ (zw_to rfl (by first | (exact absurd (c12.symm.trans c39) (by decide)) | (exact absurd (c12.symm.trans c66) (by decide)) | (exact absurd (c39.symm.trans c66) (by decide)) | (simp [tm_num, *]; done)) rfl rfl)
          · have _c := c49
            refine zv_run 4 (pc' := 89) (lo' := [some (.ref 4), some (.ref 2), some (.int (fi_num I 0))]) (st' := []) (I' := (zx_uI I 4 11 (fi_num I 0))) (L' := L) (R' := zw_RC h sp la) rfl ?_
            refine zv_run 1 (pc' := 90) (lo' := [some (.ref 4), some (.ref 2), some (.int (fi_num I 0))]) (st' := [.int 1]) (I' := (zx_uI I 4 11 (fi_num I 0))) (L' := L) (R' := zw_RC h sp la) rfl ?_
            exact zv_zret (zs_at rfl) rfl (Or.inr rfl) ⟨Nat.le_refl _, Nat.le_refl _⟩ (zw_to rfl (by first | (exact absurd (c12.symm.trans c39) (by decide)) | (exact absurd (c12.symm.trans c66) (by decide)) | (exact absurd (c39.symm.trans c66) (by decide)) | (simp [tm_num, *]; done)) rfl rfl)
      · have _c := c22
        refine zv_run 4 (pc' := 89) (lo' := [some (.ref 4), some (.ref 2), some (.int (fi_num I 0))]) (st' := []) (I' := (zx_uI I 4 8 (fi_num I 0))) (L' := L) (R' := zw_RC h sp la) rfl ?_
        refine zv_run 1 (pc' := 90) (lo' := [some (.ref 4), some (.ref 2), some (.int (fi_num I 0))]) (st' := [.int 1]) (I' := (zx_uI I 4 8 (fi_num I 0))) (L' := L) (R' := zw_RC h sp la) rfl ?_
        exact zv_zret (zs_at rfl) rfl (Or.inr rfl) ⟨Nat.le_refl _, Nat.le_refl _⟩ (zw_to rfl (by first | (exact absurd (c12.symm.trans c39) (by decide)) | (exact absurd (c12.symm.trans c66) (by decide)) | (exact absurd (c39.symm.trans c66) (by decide)) | (simp [tm_num, *]; done)) rfl rfl)
  · refine zv_entry gd_X5_takesNumber (Nat.le_of_ble_eq_true rfl) ?_
    refine zv_run 2 (pc' := 2) (lo' := [some (.ref 14), some (.ref 2), none]) (st' := [.int 0, .ref 2]) (I' := I) (L' := L) (R' := zw_RC h sp la) rfl ?_
    refine zv_cV (M' := mm_X6_number) (ci := 6) (a := 2) (av := [.int 0]) (st := []) (r := some (.int (fi_num I 0))) (I' := I) (L' := L) (R' := zw_RC h sp la) rfl zc_5_121 gd_X6_number rfl rfl rfl (Nat.le_of_ble_eq_true rfl) (ct_X6_number (d := _) (I := I)) ⟨Nat.le_refl _, Nat.le_refl _⟩ ?_
    refine zv_run 0 (pc' := 5) (lo' := [some (.ref 14), some (.ref 2), none]) (st' := [.int (fi_num I 0)]) (I' := I) (L' := L) (R' := zw_RC h sp la) rfl ?_
    refine zv_run 4 (pc' := 12) (lo' := [some (.ref 14), some (.ref 2), some (.int (fi_num I 0))]) (st' := [.int 99, .int (I 2 1)]) (I' := I) (L' := L) (R' := zw_RC h sp la) rfl ?_
    refine zv_icmp_ne (tgt := 33) (zs_at rfl) (by decide) (fun c12 => ?_) (fun c12 => ?_)
    · have _c := c12
      refine zv_run 3 (pc' := 39) (lo' := [some (.ref 14), some (.ref 2), some (.int (fi_num I 0))]) (st' := [.int 113, .int (I 2 1)]) (I' := I) (L' := L) (R' := zw_RC h sp la) rfl ?_
      refine zv_icmp_ne (tgt := 60) (zs_at rfl) (by decide) (fun c39 => ?_) (fun c39 => ?_)
      · have _c := c39
        refine zv_run 3 (pc' := 66) (lo' := [some (.ref 14), some (.ref 2), some (.int (fi_num I 0))]) (st' := [.int 110, .int (I 2 1)]) (I' := I) (L' := L) (R' := zw_RC h sp la) rfl ?_
        refine zv_icmp_ne (tgt := 87) (zs_at rfl) (by decide) (fun c66 => ?_) (fun c66 => ?_)
        · have _c := c66
          refine zv_run 1 (pc' := 88) (lo' := [some (.ref 14), some (.ref 2), some (.int (fi_num I 0))]) (st' := [.int 0]) (I' := I) (L' := L) (R' := zw_RC h sp la) rfl ?_
          exact zv_zret (zs_at rfl) rfl (Or.inl rfl) ⟨Nat.le_refl _, Nat.le_refl _⟩ (by first | (exact absurd (c12.symm.trans c39) (by decide)) | (exact absurd (c12.symm.trans c66) (by decide)) | (exact absurd (c39.symm.trans c66) (by decide)) | (exact absurd (show ti_num I = 0 from by simp [ti_num, *]; done) hok))
        · have _c := c66
          refine zv_run 3 (pc' := 73) (lo' := [some (.ref 14), some (.ref 2), some (.int (fi_num I 0))]) (st' := [.int 60, .int 1, .ref 2]) (I' := I) (L' := L) (R' := zw_RC h sp la) rfl ?_
          refine zv_cV (M' := mm_X6_isOneWithin) (ci := 6) (a := 2) (av := [.int 1, .int 60]) (st := []) (r := some (.int (fi_one I 1 60))) (I' := I) (L' := L) (R' := zw_RC h sp la) rfl zc_5_146 gd_X6_isOneWithin rfl rfl rfl (Nat.le_of_ble_eq_true rfl) (ct_X6_isOneWithin (d := _)) ⟨Nat.le_refl _, Nat.le_refl _⟩ ?_
          refine zv_run 0 (pc' := 76) (lo' := [some (.ref 14), some (.ref 2), some (.int (fi_num I 0))]) (st' := [.int (fi_one I 1 60)]) (I' := I) (L' := L) (R' := zw_RC h sp la) rfl ?_
          refine zv_if_eq (tgt := 87) (zs_at rfl) (by decide) (fun c76 => ?_) (fun c76 => ?_)
          · have _c := c76
            refine zv_run 1 (pc' := 88) (lo' := [some (.ref 14), some (.ref 2), some (.int (fi_num I 0))]) (st' := [.int 0]) (I' := I) (L' := L) (R' := zw_RC h sp la) rfl ?_
            exact zv_zret (zs_at rfl) rfl (Or.inl rfl) ⟨Nat.le_refl _, Nat.le_refl _⟩ (by first | (exact absurd (c12.symm.trans c39) (by decide)) | (exact absurd (c12.symm.trans c66) (by decide)) | (exact absurd (c39.symm.trans c66) (by decide)) | (exact absurd (show ti_num I = 0 from by simp [ti_num, *]; done) hok))
          · have _c := c76
            refine zv_run 4 (pc' := 89) (lo' := [some (.ref 14), some (.ref 2), some (.int (fi_num I 0))]) (st' := []) (I' := (zx_uI I 14 12 (fi_num I 0))) (L' := L) (R' := zw_RC h sp la) rfl ?_
            refine zv_run 1 (pc' := 90) (lo' := [some (.ref 14), some (.ref 2), some (.int (fi_num I 0))]) (st' := [.int 1]) (I' := (zx_uI I 14 12 (fi_num I 0))) (L' := L) (R' := zw_RC h sp la) rfl ?_
            exact zv_zret (zs_at rfl) rfl (Or.inr rfl) ⟨Nat.le_refl _, Nat.le_refl _⟩ (zw_to rfl (by first | (exact absurd (c12.symm.trans c39) (by decide)) | (exact absurd (c12.symm.trans c66) (by decide)) | (exact absurd (c39.symm.trans c66) (by decide)) | (simp [tm_num, *]; done)) rfl rfl)
      · have _c := c39
        refine zv_run 3 (pc' := 46) (lo' := [some (.ref 14), some (.ref 2), some (.int (fi_num I 0))]) (st' := [.int 9, .int 0, .ref 2]) (I' := I) (L' := L) (R' := zw_RC h sp la) rfl ?_
        refine zv_cV (M' := mm_X6_isOneWithin) (ci := 6) (a := 2) (av := [.int 0, .int 9]) (st := []) (r := some (.int (fi_one I 0 9))) (I' := I) (L' := L) (R' := zw_RC h sp la) rfl zc_5_146 gd_X6_isOneWithin rfl rfl rfl (Nat.le_of_ble_eq_true rfl) (ct_X6_isOneWithin (d := _)) ⟨Nat.le_refl _, Nat.le_refl _⟩ ?_
        refine zv_run 0 (pc' := 49) (lo' := [some (.ref 14), some (.ref 2), some (.int (fi_num I 0))]) (st' := [.int (fi_one I 0 9)]) (I' := I) (L' := L) (R' := zw_RC h sp la) rfl ?_
        refine zv_if_eq (tgt := 60) (zs_at rfl) (by decide) (fun c49 => ?_) (fun c49 => ?_)
        · have _c := c49
          refine zv_run 3 (pc' := 66) (lo' := [some (.ref 14), some (.ref 2), some (.int (fi_num I 0))]) (st' := [.int 110, .int (I 2 1)]) (I' := I) (L' := L) (R' := zw_RC h sp la) rfl ?_
          refine zv_icmp_ne (tgt := 87) (zs_at rfl) (by decide) (fun c66 => ?_) (fun c66 => ?_)
          · have _c := c66
            refine zv_run 1 (pc' := 88) (lo' := [some (.ref 14), some (.ref 2), some (.int (fi_num I 0))]) (st' := [.int 0]) (I' := I) (L' := L) (R' := zw_RC h sp la) rfl ?_
            exact zv_zret (zs_at rfl) rfl (Or.inl rfl) ⟨Nat.le_refl _, Nat.le_refl _⟩ (by first | (exact absurd (c12.symm.trans c39) (by decide)) | (exact absurd (c12.symm.trans c66) (by decide)) | (exact absurd (c39.symm.trans c66) (by decide)) | (exact absurd (show ti_num I = 0 from by simp [ti_num, *]; done) hok))
          · have _c := c66
            refine zv_run 3 (pc' := 73) (lo' := [some (.ref 14), some (.ref 2), some (.int (fi_num I 0))]) (st' := [.int 60, .int 1, .ref 2]) (I' := I) (L' := L) (R' := zw_RC h sp la) rfl ?_
            refine zv_cV (M' := mm_X6_isOneWithin) (ci := 6) (a := 2) (av := [.int 1, .int 60]) (st := []) (r := some (.int (fi_one I 1 60))) (I' := I) (L' := L) (R' := zw_RC h sp la) rfl zc_5_146 gd_X6_isOneWithin rfl rfl rfl (Nat.le_of_ble_eq_true rfl) (ct_X6_isOneWithin (d := _)) ⟨Nat.le_refl _, Nat.le_refl _⟩ ?_
            refine zv_run 0 (pc' := 76) (lo' := [some (.ref 14), some (.ref 2), some (.int (fi_num I 0))]) (st' := [.int (fi_one I 1 60)]) (I' := I) (L' := L) (R' := zw_RC h sp la) rfl ?_
            refine zv_if_eq (tgt := 87) (zs_at rfl) (by decide) (fun c76 => ?_) (fun c76 => ?_)
            · have _c := c76
              refine zv_run 1 (pc' := 88) (lo' := [some (.ref 14), some (.ref 2), some (.int (fi_num I 0))]) (st' := [.int 0]) (I' := I) (L' := L) (R' := zw_RC h sp la) rfl ?_
              exact zv_zret (zs_at rfl) rfl (Or.inl rfl) ⟨Nat.le_refl _, Nat.le_refl _⟩ (by first | (exact absurd (c12.symm.trans c39) (by decide)) | (exact absurd (c12.symm.trans c66) (by decide)) | (exact absurd (c39.symm.trans c66) (by decide)) | (exact absurd (show ti_num I = 0 from by simp [ti_num, *]; done) hok))
            · have _c := c76
              refine zv_run 4 (pc' := 89) (lo' := [some (.ref 14), some (.ref 2), some (.int (fi_num I 0))]) (st' := []) (I' := (zx_uI I 14 12 (fi_num I 0))) (L' := L) (R' := zw_RC h sp la) rfl ?_
              refine zv_run 1 (pc' := 90) (lo' := [some (.ref 14), some (.ref 2), some (.int (fi_num I 0))]) (st' := [.int 1]) (I' := (zx_uI I 14 12 (fi_num I 0))) (L' := L) (R' := zw_RC h sp la) rfl ?_
              exact zv_zret (zs_at rfl) rfl (Or.inr rfl) ⟨Nat.le_refl _, Nat.le_refl _⟩ (zw_to rfl (by first | (exact absurd (c12.symm.trans c39) (by decide)) | (exact absurd (c12.symm.trans c66) (by decide)) | (exact absurd (c39.symm.trans c66) (by decide)) | (simp [tm_num, *]; done)) rfl rfl)
        · have _c := c49
          refine zv_run 4 (pc' := 89) (lo' := [some (.ref 14), some (.ref 2), some (.int (fi_num I 0))]) (st' := []) (I' := (zx_uI I 14 11 (fi_num I 0))) (L' := L) (R' := zw_RC h sp la) rfl ?_
          refine zv_run 1 (pc' := 90) (lo' := [some (.ref 14), some (.ref 2), some (.int (fi_num I 0))]) (st' := [.int 1]) (I' := (zx_uI I 14 11 (fi_num I 0))) (L' := L) (R' := zw_RC h sp la) rfl ?_
          exact zv_zret (zs_at rfl) rfl (Or.inr rfl) ⟨Nat.le_refl _, Nat.le_refl _⟩ (zw_to rfl (by first | (exact absurd (c12.symm.trans c39) (by decide)) | (exact absurd (c12.symm.trans c66) (by decide)) | (exact absurd (c39.symm.trans c66) (by decide)) | (simp [tm_num, *]; done)) rfl rfl)
    · have _c := c12
      refine zv_run 3 (pc' := 19) (lo' := [some (.ref 14), some (.ref 2), some (.int (fi_num I 0))]) (st' := [.int 9, .int 0, .ref 2]) (I' := I) (L' := L) (R' := zw_RC h sp la) rfl ?_
      refine zv_cV (M' := mm_X6_isOneWithin) (ci := 6) (a := 2) (av := [.int 0, .int 9]) (st := []) (r := some (.int (fi_one I 0 9))) (I' := I) (L' := L) (R' := zw_RC h sp la) rfl zc_5_146 gd_X6_isOneWithin rfl rfl rfl (Nat.le_of_ble_eq_true rfl) (ct_X6_isOneWithin (d := _)) ⟨Nat.le_refl _, Nat.le_refl _⟩ ?_
      refine zv_run 0 (pc' := 22) (lo' := [some (.ref 14), some (.ref 2), some (.int (fi_num I 0))]) (st' := [.int (fi_one I 0 9)]) (I' := I) (L' := L) (R' := zw_RC h sp la) rfl ?_
      refine zv_if_eq (tgt := 33) (zs_at rfl) (by decide) (fun c22 => ?_) (fun c22 => ?_)
      · have _c := c22
        refine zv_run 3 (pc' := 39) (lo' := [some (.ref 14), some (.ref 2), some (.int (fi_num I 0))]) (st' := [.int 113, .int (I 2 1)]) (I' := I) (L' := L) (R' := zw_RC h sp la) rfl ?_
        refine zv_icmp_ne (tgt := 60) (zs_at rfl) (by decide) (fun c39 => ?_) (fun c39 => ?_)
        · have _c := c39
          refine zv_run 3 (pc' := 66) (lo' := [some (.ref 14), some (.ref 2), some (.int (fi_num I 0))]) (st' := [.int 110, .int (I 2 1)]) (I' := I) (L' := L) (R' := zw_RC h sp la) rfl ?_
          refine zv_icmp_ne (tgt := 87) (zs_at rfl) (by decide) (fun c66 => ?_) (fun c66 => ?_)
          · have _c := c66
            refine zv_run 1 (pc' := 88) (lo' := [some (.ref 14), some (.ref 2), some (.int (fi_num I 0))]) (st' := [.int 0]) (I' := I) (L' := L) (R' := zw_RC h sp la) rfl ?_
            exact zv_zret (zs_at rfl) rfl (Or.inl rfl) ⟨Nat.le_refl _, Nat.le_refl _⟩ (by first | (exact absurd (c12.symm.trans c39) (by decide)) | (exact absurd (c12.symm.trans c66) (by decide)) | (exact absurd (c39.symm.trans c66) (by decide)) | (exact absurd (show ti_num I = 0 from by simp [ti_num, *]; done) hok))
          · have _c := c66
            refine zv_run 3 (pc' := 73) (lo' := [some (.ref 14), some (.ref 2), some (.int (fi_num I 0))]) (st' := [.int 60, .int 1, .ref 2]) (I' := I) (L' := L) (R' := zw_RC h sp la) rfl ?_
            refine zv_cV (M' := mm_X6_isOneWithin) (ci := 6) (a := 2) (av := [.int 1, .int 60]) (st := []) (r := some (.int (fi_one I 1 60))) (I' := I) (L' := L) (R' := zw_RC h sp la) rfl zc_5_146 gd_X6_isOneWithin rfl rfl rfl (Nat.le_of_ble_eq_true rfl) (ct_X6_isOneWithin (d := _)) ⟨Nat.le_refl _, Nat.le_refl _⟩ ?_
            refine zv_run 0 (pc' := 76) (lo' := [some (.ref 14), some (.ref 2), some (.int (fi_num I 0))]) (st' := [.int (fi_one I 1 60)]) (I' := I) (L' := L) (R' := zw_RC h sp la) rfl ?_
            refine zv_if_eq (tgt := 87) (zs_at rfl) (by decide) (fun c76 => ?_) (fun c76 => ?_)
            · have _c := c76
              refine zv_run 1 (pc' := 88) (lo' := [some (.ref 14), some (.ref 2), some (.int (fi_num I 0))]) (st' := [.int 0]) (I' := I) (L' := L) (R' := zw_RC h sp la) rfl ?_
              exact zv_zret (zs_at rfl) rfl (Or.inl rfl) ⟨Nat.le_refl _, Nat.le_refl _⟩ (by first | (exact absurd (c12.symm.trans c39) (by decide)) | (exact absurd (c12.symm.trans c66) (by decide)) | (exact absurd (c39.symm.trans c66) (by decide)) | (exact absurd (show ti_num I = 0 from by simp [ti_num, *]; done) hok))
            · have _c := c76
              refine zv_run 4 (pc' := 89) (lo' := [some (.ref 14), some (.ref 2), some (.int (fi_num I 0))]) (st' := []) (I' := (zx_uI I 14 12 (fi_num I 0))) (L' := L) (R' := zw_RC h sp la) rfl ?_
              refine zv_run 1 (pc' := 90) (lo' := [some (.ref 14), some (.ref 2), some (.int (fi_num I 0))]) (st' := [.int 1]) (I' := (zx_uI I 14 12 (fi_num I 0))) (L' := L) (R' := zw_RC h sp la) rfl ?_
              exact zv_zret (zs_at rfl) rfl (Or.inr rfl) ⟨Nat.le_refl _, Nat.le_refl _⟩ (zw_to rfl (by first | (exact absurd (c12.symm.trans c39) (by decide)) | (exact absurd (c12.symm.trans c66) (by decide)) | (exact absurd (c39.symm.trans c66) (by decide)) | (simp [tm_num, *]; done)) rfl rfl)
        · have _c := c39
          refine zv_run 3 (pc' := 46) (lo' := [some (.ref 14), some (.ref 2), some (.int (fi_num I 0))]) (st' := [.int 9, .int 0, .ref 2]) (I' := I) (L' := L) (R' := zw_RC h sp la) rfl ?_
          refine zv_cV (M' := mm_X6_isOneWithin) (ci := 6) (a := 2) (av := [.int 0, .int 9]) (st := []) (r := some (.int (fi_one I 0 9))) (I' := I) (L' := L) (R' := zw_RC h sp la) rfl zc_5_146 gd_X6_isOneWithin rfl rfl rfl (Nat.le_of_ble_eq_true rfl) (ct_X6_isOneWithin (d := _)) ⟨Nat.le_refl _, Nat.le_refl _⟩ ?_
          refine zv_run 0 (pc' := 49) (lo' := [some (.ref 14), some (.ref 2), some (.int (fi_num I 0))]) (st' := [.int (fi_one I 0 9)]) (I' := I) (L' := L) (R' := zw_RC h sp la) rfl ?_
          refine zv_if_eq (tgt := 60) (zs_at rfl) (by decide) (fun c49 => ?_) (fun c49 => ?_)
          · have _c := c49
            refine zv_run 3 (pc' := 66) (lo' := [some (.ref 14), some (.ref 2), some (.int (fi_num I 0))]) (st' := [.int 110, .int (I 2 1)]) (I' := I) (L' := L) (R' := zw_RC h sp la) rfl ?_
            refine zv_icmp_ne (tgt := 87) (zs_at rfl) (by decide) (fun c66 => ?_) (fun c66 => ?_)
            · have _c := c66
              refine zv_run 1 (pc' := 88) (lo' := [some (.ref 14), some (.ref 2), some (.int (fi_num I 0))]) (st' := [.int 0]) (I' := I) (L' := L) (R' := zw_RC h sp la) rfl ?_
              exact zv_zret (zs_at rfl) rfl (Or.inl rfl) ⟨Nat.le_refl _, Nat.le_refl _⟩ (by first | (exact absurd (c12.symm.trans c39) (by decide)) | (exact absurd (c12.symm.trans c66) (by decide)) | (exact absurd (c39.symm.trans c66) (by decide)) | (exact absurd (show ti_num I = 0 from by simp [ti_num, *]; done) hok))
            · have _c := c66
              refine zv_run 3 (pc' := 73) (lo' := [some (.ref 14), some (.ref 2), some (.int (fi_num I 0))]) (st' := [.int 60, .int 1, .ref 2]) (I' := I) (L' := L) (R' := zw_RC h sp la) rfl ?_
              refine zv_cV (M' := mm_X6_isOneWithin) (ci := 6) (a := 2) (av := [.int 1, .int 60]) (st := []) (r := some (.int (fi_one I 1 60))) (I' := I) (L' := L) (R' := zw_RC h sp la) rfl zc_5_146 gd_X6_isOneWithin rfl rfl rfl (Nat.le_of_ble_eq_true rfl) (ct_X6_isOneWithin (d := _)) ⟨Nat.le_refl _, Nat.le_refl _⟩ ?_
              refine zv_run 0 (pc' := 76) (lo' := [some (.ref 14), some (.ref 2), some (.int (fi_num I 0))]) (st' := [.int (fi_one I 1 60)]) (I' := I) (L' := L) (R' := zw_RC h sp la) rfl ?_
              refine zv_if_eq (tgt := 87) (zs_at rfl) (by decide) (fun c76 => ?_) (fun c76 => ?_)
              · have _c := c76
                refine zv_run 1 (pc' := 88) (lo' := [some (.ref 14), some (.ref 2), some (.int (fi_num I 0))]) (st' := [.int 0]) (I' := I) (L' := L) (R' := zw_RC h sp la) rfl ?_
                exact zv_zret (zs_at rfl) rfl (Or.inl rfl) ⟨Nat.le_refl _, Nat.le_refl _⟩ (by first | (exact absurd (c12.symm.trans c39) (by decide)) | (exact absurd (c12.symm.trans c66) (by decide)) | (exact absurd (c39.symm.trans c66) (by decide)) | (exact absurd (show ti_num I = 0 from by simp [ti_num, *]; done) hok))
              · have _c := c76
                refine zv_run 4 (pc' := 89) (lo' := [some (.ref 14), some (.ref 2), some (.int (fi_num I 0))]) (st' := []) (I' := (zx_uI I 14 12 (fi_num I 0))) (L' := L) (R' := zw_RC h sp la) rfl ?_
                refine zv_run 1 (pc' := 90) (lo' := [some (.ref 14), some (.ref 2), some (.int (fi_num I 0))]) (st' := [.int 1]) (I' := (zx_uI I 14 12 (fi_num I 0))) (L' := L) (R' := zw_RC h sp la) rfl ?_
                exact zv_zret (zs_at rfl) rfl (Or.inr rfl) ⟨Nat.le_refl _, Nat.le_refl _⟩ (zw_to rfl (by first | (exact absurd (c12.symm.trans c39) (by decide)) | (exact absurd (c12.symm.trans c66) (by decide)) | (exact absurd (c39.symm.trans c66) (by decide)) | (simp [tm_num, *]; done)) rfl rfl)
          · have _c := c49
            refine zv_run 4 (pc' := 89) (lo' := [some (.ref 14), some (.ref 2), some (.int (fi_num I 0))]) (st' := []) (I' := (zx_uI I 14 11 (fi_num I 0))) (L' := L) (R' := zw_RC h sp la) rfl ?_
            refine zv_run 1 (pc' := 90) (lo' := [some (.ref 14), some (.ref 2), some (.int (fi_num I 0))]) (st' := [.int 1]) (I' := (zx_uI I 14 11 (fi_num I 0))) (L' := L) (R' := zw_RC h sp la) rfl ?_
            exact zv_zret (zs_at rfl) rfl (Or.inr rfl) ⟨Nat.le_refl _, Nat.le_refl _⟩ (zw_to rfl (by first | (exact absurd (c12.symm.trans c39) (by decide)) | (exact absurd (c12.symm.trans c66) (by decide)) | (exact absurd (c39.symm.trans c66) (by decide)) | (simp [tm_num, *]; done)) rfl rfl)
      · have _c := c22
        refine zv_run 4 (pc' := 89) (lo' := [some (.ref 14), some (.ref 2), some (.int (fi_num I 0))]) (st' := []) (I' := (zx_uI I 14 8 (fi_num I 0))) (L' := L) (R' := zw_RC h sp la) rfl ?_
        refine zv_run 1 (pc' := 90) (lo' := [some (.ref 14), some (.ref 2), some (.int (fi_num I 0))]) (st' := [.int 1]) (I' := (zx_uI I 14 8 (fi_num I 0))) (L' := L) (R' := zw_RC h sp la) rfl ?_
        exact zv_zret (zs_at rfl) rfl (Or.inr rfl) ⟨Nat.le_refl _, Nat.le_refl _⟩ (zw_to rfl (by first | (exact absurd (c12.symm.trans c39) (by decide)) | (exact absurd (c12.symm.trans c66) (by decide)) | (exact absurd (c39.symm.trans c66) (by decide)) | (simp [tm_num, *]; done)) rfl rfl)
def ti_pair (I : zx_I) (a : Nat) : Prop := fh_who I a (fi_num I 0) ≠ none ∧ fh_who I a (fi_num I 1) ≠ none ∧ ¬ fi_pair I (I a 13) = 0
def tm_pair (I : zx_I) (w v : Nat) : zx_I := if I 2 1 = 97 then zx_uI I w 7 (I w 7 ||| I v 0) else zx_uI I w 8 (I w 8 ||| I v 0)
theorem ct_X5_takesPair_no_4 {d : Nat} {I : zx_I} {L : zx_L} {h sp : Nat} {la : Option Nat} (hno : ¬ ti_pair I 4) : zx_M0 mm_X5_takesPair (d + 3) 0 0 [.ref 4, .ref 2] zw_SC I L (zw_RC h sp la) (zw_ret (some (.int 0)) zw_SC I L (zw_RC h sp la)) := by
  refine zv_entry gd_X5_takesPair (Nat.le_of_ble_eq_true rfl) ?_
  refine zv_run 3 (pc' := 3) (lo' := [some (.ref 4), some (.ref 2), none, none]) (st' := [.int 0, .ref 2, .ref 4]) (I' := I) (L' := L) (R' := zw_RC h sp la) rfl ?_
  refine zv_cV (M' := mm_X6_number) (ci := 6) (a := 2) (av := [.int 0]) (st := [.ref 4]) (r := some (.int (fi_num I 0))) (I' := I) (L' := L) (R' := zw_RC h sp la) rfl zc_5_121 gd_X6_number rfl rfl rfl (Nat.le_of_ble_eq_true rfl) (ct_X6_number (d := _) (I := I)) ⟨Nat.le_refl _, Nat.le_refl _⟩ ?_
  refine zv_run 0 (pc' := 6) (lo' := [some (.ref 4), some (.ref 2), none, none]) (st' := [.int (fi_num I 0), .ref 4]) (I' := I) (L' := L) (R' := zw_RC h sp la) rfl ?_
  refine zv_cV (M' := mm_X5_who) (ci := 5) (a := 4) (av := [.int (fi_num I 0)]) (st := []) (r := some (va_rf (fh_who I 4 (fi_num I 0)))) (I' := I) (L' := L) (R' := zw_RC h sp la) rfl zc_5_129 gd_X5_who rfl rfl rfl (Nat.le_of_ble_eq_true rfl) (ct_X5_who (d := _) (Or.inl rfl)) ⟨Nat.le_refl _, Nat.le_refl _⟩ ?_
  rcases hw9 : fh_who I 4 (fi_num I 0) with _ | w1
  · refine zv_run 0 (pc' := 9) (lo' := [some (.ref 4), some (.ref 2), none, none]) (st' := [.null]) (I' := I) (L' := L) (R' := zw_RC h sp la) rfl ?_
    refine zv_run 4 (pc' := 13) (lo' := [some (.ref 4), some (.ref 2), some (.null), none]) (st' := [.int 1, .ref 2, .ref 4]) (I' := I) (L' := L) (R' := zw_RC h sp la) rfl ?_
    refine zv_cV (M' := mm_X6_number) (ci := 6) (a := 2) (av := [.int 1]) (st := [.ref 4]) (r := some (.int (fi_num I 1))) (I' := I) (L' := L) (R' := zw_RC h sp la) rfl zc_5_121 gd_X6_number rfl rfl rfl (Nat.le_of_ble_eq_true rfl) (ct_X6_number (d := _) (I := I)) ⟨Nat.le_refl _, Nat.le_refl _⟩ ?_
    refine zv_run 0 (pc' := 16) (lo' := [some (.ref 4), some (.ref 2), some (.null), none]) (st' := [.int (fi_num I 1), .ref 4]) (I' := I) (L' := L) (R' := zw_RC h sp la) rfl ?_
    refine zv_cV (M' := mm_X5_who) (ci := 5) (a := 4) (av := [.int (fi_num I 1)]) (st := []) (r := some (va_rf (fh_who I 4 (fi_num I 1)))) (I' := I) (L' := L) (R' := zw_RC h sp la) rfl zc_5_129 gd_X5_who rfl rfl rfl (Nat.le_of_ble_eq_true rfl) (ct_X5_who (d := _) (Or.inl rfl)) ⟨Nat.le_refl _, Nat.le_refl _⟩ ?_
    rcases hw19 : fh_who I 4 (fi_num I 1) with _ | w2
    · refine zv_run 0 (pc' := 19) (lo' := [some (.ref 4), some (.ref 2), some (.null), none]) (st' := [.null]) (I' := I) (L' := L) (R' := zw_RC h sp la) rfl ?_
      refine zv_run 4 (pc' := 25) (lo' := [some (.ref 4), some (.ref 2), some (.null), some (.null)]) (st' := [.int (I 4 13), .ref 2]) (I' := I) (L' := L) (R' := zw_RC h sp la) rfl ?_
      refine zv_cV (M' := mm_X6_isPairOf) (ci := 6) (a := 2) (av := [.int (I 4 13)]) (st := []) (r := some (.int (fi_pair I (I 4 13)))) (I' := I) (L' := L) (R' := zw_RC h sp la) rfl zc_5_133 gd_X6_isPairOf rfl rfl rfl (Nat.le_of_ble_eq_true rfl) (ct_X6_isPairOf (d := _)) ⟨Nat.le_refl _, Nat.le_refl _⟩ ?_
      refine zv_run 0 (pc' := 28) (lo' := [some (.ref 4), some (.ref 2), some (.null), some (.null)]) (st' := [.int (fi_pair I (I 4 13))]) (I' := I) (L' := L) (R' := zw_RC h sp la) rfl ?_
      refine zv_if_eq (tgt := 39) (zs_at rfl) (by decide) (fun c28 => ?_) (fun c28 => ?_)
      · have _c := c28
        refine zv_run 1 (pc' := 40) (lo' := [some (.ref 4), some (.ref 2), some (.null), some (.null)]) (st' := [.int 0]) (I' := I) (L' := L) (R' := zw_RC h sp la) rfl ?_
        exact zv_zret (zs_at rfl) rfl (Or.inl rfl) ⟨Nat.le_refl _, Nat.le_refl _⟩ (zw_to rfl rfl rfl rfl)
      · have _c := c28
        refine zv_run 1 (pc' := 32) (lo' := [some (.ref 4), some (.ref 2), some (.null), some (.null)]) (st' := [.null]) (I' := I) (L' := L) (R' := zw_RC h sp la) rfl ?_
        refine zv_ifnullN (tgt := 39) (zs_at rfl) (by decide) ?_
        refine zv_run 1 (pc' := 40) (lo' := [some (.ref 4), some (.ref 2), some (.null), some (.null)]) (st' := [.int 0]) (I' := I) (L' := L) (R' := zw_RC h sp la) rfl ?_
        exact zv_zret (zs_at rfl) rfl (Or.inl rfl) ⟨Nat.le_refl _, Nat.le_refl _⟩ (zw_to rfl rfl rfl rfl)
    · refine zv_run 0 (pc' := 19) (lo' := [some (.ref 4), some (.ref 2), some (.null), none]) (st' := [.ref w2]) (I' := I) (L' := L) (R' := zw_RC h sp la) rfl ?_
      have hp2 := fh_who_bt (Or.inl rfl) hw19
      refine zv_run 4 (pc' := 25) (lo' := [some (.ref 4), some (.ref 2), some (.null), some (.ref w2)]) (st' := [.int (I 4 13), .ref 2]) (I' := I) (L' := L) (R' := zw_RC h sp la) rfl ?_
      refine zv_cV (M' := mm_X6_isPairOf) (ci := 6) (a := 2) (av := [.int (I 4 13)]) (st := []) (r := some (.int (fi_pair I (I 4 13)))) (I' := I) (L' := L) (R' := zw_RC h sp la) rfl zc_5_133 gd_X6_isPairOf rfl rfl rfl (Nat.le_of_ble_eq_true rfl) (ct_X6_isPairOf (d := _)) ⟨Nat.le_refl _, Nat.le_refl _⟩ ?_
      refine zv_run 0 (pc' := 28) (lo' := [some (.ref 4), some (.ref 2), some (.null), some (.ref w2)]) (st' := [.int (fi_pair I (I 4 13))]) (I' := I) (L' := L) (R' := zw_RC h sp la) rfl ?_
      refine zv_if_eq (tgt := 39) (zs_at rfl) (by decide) (fun c28 => ?_) (fun c28 => ?_)
      · have _c := c28
        refine zv_run 1 (pc' := 40) (lo' := [some (.ref 4), some (.ref 2), some (.null), some (.ref w2)]) (st' := [.int 0]) (I' := I) (L' := L) (R' := zw_RC h sp la) rfl ?_
        exact zv_zret (zs_at rfl) rfl (Or.inl rfl) ⟨Nat.le_refl _, Nat.le_refl _⟩ (zw_to rfl rfl rfl rfl)
      · have _c := c28
        refine zv_run 1 (pc' := 32) (lo' := [some (.ref 4), some (.ref 2), some (.null), some (.ref w2)]) (st' := [.null]) (I' := I) (L' := L) (R' := zw_RC h sp la) rfl ?_
        refine zv_ifnullN (tgt := 39) (zs_at rfl) (by decide) ?_
        refine zv_run 1 (pc' := 40) (lo' := [some (.ref 4), some (.ref 2), some (.null), some (.ref w2)]) (st' := [.int 0]) (I' := I) (L' := L) (R' := zw_RC h sp la) rfl ?_
        exact zv_zret (zs_at rfl) rfl (Or.inl rfl) ⟨Nat.le_refl _, Nat.le_refl _⟩ (zw_to rfl rfl rfl rfl)
  · refine zv_run 0 (pc' := 9) (lo' := [some (.ref 4), some (.ref 2), none, none]) (st' := [.ref w1]) (I' := I) (L' := L) (R' := zw_RC h sp la) rfl ?_
    have hp1 := fh_who_bt (Or.inl rfl) hw9
    refine zv_run 4 (pc' := 13) (lo' := [some (.ref 4), some (.ref 2), some (.ref w1), none]) (st' := [.int 1, .ref 2, .ref 4]) (I' := I) (L' := L) (R' := zw_RC h sp la) rfl ?_
    refine zv_cV (M' := mm_X6_number) (ci := 6) (a := 2) (av := [.int 1]) (st := [.ref 4]) (r := some (.int (fi_num I 1))) (I' := I) (L' := L) (R' := zw_RC h sp la) rfl zc_5_121 gd_X6_number rfl rfl rfl (Nat.le_of_ble_eq_true rfl) (ct_X6_number (d := _) (I := I)) ⟨Nat.le_refl _, Nat.le_refl _⟩ ?_
    refine zv_run 0 (pc' := 16) (lo' := [some (.ref 4), some (.ref 2), some (.ref w1), none]) (st' := [.int (fi_num I 1), .ref 4]) (I' := I) (L' := L) (R' := zw_RC h sp la) rfl ?_
    refine zv_cV (M' := mm_X5_who) (ci := 5) (a := 4) (av := [.int (fi_num I 1)]) (st := []) (r := some (va_rf (fh_who I 4 (fi_num I 1)))) (I' := I) (L' := L) (R' := zw_RC h sp la) rfl zc_5_129 gd_X5_who rfl rfl rfl (Nat.le_of_ble_eq_true rfl) (ct_X5_who (d := _) (Or.inl rfl)) ⟨Nat.le_refl _, Nat.le_refl _⟩ ?_
    rcases hw19 : fh_who I 4 (fi_num I 1) with _ | w2
    · refine zv_run 0 (pc' := 19) (lo' := [some (.ref 4), some (.ref 2), some (.ref w1), none]) (st' := [.null]) (I' := I) (L' := L) (R' := zw_RC h sp la) rfl ?_
      refine zv_run 4 (pc' := 25) (lo' := [some (.ref 4), some (.ref 2), some (.ref w1), some (.null)]) (st' := [.int (I 4 13), .ref 2]) (I' := I) (L' := L) (R' := zw_RC h sp la) rfl ?_
      refine zv_cV (M' := mm_X6_isPairOf) (ci := 6) (a := 2) (av := [.int (I 4 13)]) (st := []) (r := some (.int (fi_pair I (I 4 13)))) (I' := I) (L' := L) (R' := zw_RC h sp la) rfl zc_5_133 gd_X6_isPairOf rfl rfl rfl (Nat.le_of_ble_eq_true rfl) (ct_X6_isPairOf (d := _)) ⟨Nat.le_refl _, Nat.le_refl _⟩ ?_
      refine zv_run 0 (pc' := 28) (lo' := [some (.ref 4), some (.ref 2), some (.ref w1), some (.null)]) (st' := [.int (fi_pair I (I 4 13))]) (I' := I) (L' := L) (R' := zw_RC h sp la) rfl ?_
      refine zv_if_eq (tgt := 39) (zs_at rfl) (by decide) (fun c28 => ?_) (fun c28 => ?_)
      · have _c := c28
        refine zv_run 1 (pc' := 40) (lo' := [some (.ref 4), some (.ref 2), some (.ref w1), some (.null)]) (st' := [.int 0]) (I' := I) (L' := L) (R' := zw_RC h sp la) rfl ?_
        exact zv_zret (zs_at rfl) rfl (Or.inl rfl) ⟨Nat.le_refl _, Nat.le_refl _⟩ (zw_to rfl rfl rfl rfl)
      · have _c := c28
        refine zv_run 1 (pc' := 32) (lo' := [some (.ref 4), some (.ref 2), some (.ref w1), some (.null)]) (st' := [.ref w1]) (I' := I) (L' := L) (R' := zw_RC h sp la) rfl ?_
        refine zv_ifnull (zs_at rfl) ?_
        refine zv_run 1 (pc' := 36) (lo' := [some (.ref 4), some (.ref 2), some (.ref w1), some (.null)]) (st' := [.null]) (I' := I) (L' := L) (R' := zw_RC h sp la) rfl ?_
        refine zv_ifnonnullN (zs_at rfl) ?_
        refine zv_run 1 (pc' := 40) (lo' := [some (.ref 4), some (.ref 2), some (.ref w1), some (.null)]) (st' := [.int 0]) (I' := I) (L' := L) (R' := zw_RC h sp la) rfl ?_
        exact zv_zret (zs_at rfl) rfl (Or.inl rfl) ⟨Nat.le_refl _, Nat.le_refl _⟩ (zw_to rfl rfl rfl rfl)
    · refine zv_run 0 (pc' := 19) (lo' := [some (.ref 4), some (.ref 2), some (.ref w1), none]) (st' := [.ref w2]) (I' := I) (L' := L) (R' := zw_RC h sp la) rfl ?_
      have hp2 := fh_who_bt (Or.inl rfl) hw19
      refine zv_run 4 (pc' := 25) (lo' := [some (.ref 4), some (.ref 2), some (.ref w1), some (.ref w2)]) (st' := [.int (I 4 13), .ref 2]) (I' := I) (L' := L) (R' := zw_RC h sp la) rfl ?_
      refine zv_cV (M' := mm_X6_isPairOf) (ci := 6) (a := 2) (av := [.int (I 4 13)]) (st := []) (r := some (.int (fi_pair I (I 4 13)))) (I' := I) (L' := L) (R' := zw_RC h sp la) rfl zc_5_133 gd_X6_isPairOf rfl rfl rfl (Nat.le_of_ble_eq_true rfl) (ct_X6_isPairOf (d := _)) ⟨Nat.le_refl _, Nat.le_refl _⟩ ?_
      refine zv_run 0 (pc' := 28) (lo' := [some (.ref 4), some (.ref 2), some (.ref w1), some (.ref w2)]) (st' := [.int (fi_pair I (I 4 13))]) (I' := I) (L' := L) (R' := zw_RC h sp la) rfl ?_
      refine zv_if_eq (tgt := 39) (zs_at rfl) (by decide) (fun c28 => ?_) (fun c28 => ?_)
      · have _c := c28
        refine zv_run 1 (pc' := 40) (lo' := [some (.ref 4), some (.ref 2), some (.ref w1), some (.ref w2)]) (st' := [.int 0]) (I' := I) (L' := L) (R' := zw_RC h sp la) rfl ?_
        exact zv_zret (zs_at rfl) rfl (Or.inl rfl) ⟨Nat.le_refl _, Nat.le_refl _⟩ (zw_to rfl rfl rfl rfl)
      · have _c := c28
        refine zv_run 1 (pc' := 32) (lo' := [some (.ref 4), some (.ref 2), some (.ref w1), some (.ref w2)]) (st' := [.ref w1]) (I' := I) (L' := L) (R' := zw_RC h sp la) rfl ?_
        refine zv_ifnull (zs_at rfl) ?_
        refine zv_run 1 (pc' := 36) (lo' := [some (.ref 4), some (.ref 2), some (.ref w1), some (.ref w2)]) (st' := [.ref w2]) (I' := I) (L' := L) (R' := zw_RC h sp la) rfl ?_
        refine zv_ifnonnull (tgt := 41) (zs_at rfl) (by decide) ?_
        exact absurd ⟨(by rw [hw9]; exact fun q => by cases q), (by rw [hw19]; exact fun q => by cases q), c28⟩ hno
theorem ct_X5_takesPair_4 {d : Nat} {I : zx_I} {L : zx_L} {h sp : Nat} {la : Option Nat} {w v : Nat} (h1 : fh_who I 4 (fi_num I 0) = some w) (h2 : fh_who I 4 (fi_num I 1) = some v) (hok : ¬ fi_pair I (I 4 13) = 0) : zx_M0 mm_X5_takesPair (d + 3) 0 0 [.ref 4, .ref 2] zw_SC I L (zw_RC h sp la) (zw_ret (some (.int 1)) zw_SC (tm_pair I w v) L (zw_RC h sp la)) := by
  refine zv_entry gd_X5_takesPair (Nat.le_of_ble_eq_true rfl) ?_
  refine zv_run 3 (pc' := 3) (lo' := [some (.ref 4), some (.ref 2), none, none]) (st' := [.int 0, .ref 2, .ref 4]) (I' := I) (L' := L) (R' := zw_RC h sp la) rfl ?_
  refine zv_cV (M' := mm_X6_number) (ci := 6) (a := 2) (av := [.int 0]) (st := [.ref 4]) (r := some (.int (fi_num I 0))) (I' := I) (L' := L) (R' := zw_RC h sp la) rfl zc_5_121 gd_X6_number rfl rfl rfl (Nat.le_of_ble_eq_true rfl) (ct_X6_number (d := _) (I := I)) ⟨Nat.le_refl _, Nat.le_refl _⟩ ?_
  refine zv_run 0 (pc' := 6) (lo' := [some (.ref 4), some (.ref 2), none, none]) (st' := [.int (fi_num I 0), .ref 4]) (I' := I) (L' := L) (R' := zw_RC h sp la) rfl ?_
  refine zv_cV (M' := mm_X5_who) (ci := 5) (a := 4) (av := [.int (fi_num I 0)]) (st := []) (r := some (va_rf (fh_who I 4 (fi_num I 0)))) (I' := I) (L' := L) (R' := zw_RC h sp la) rfl zc_5_129 gd_X5_who rfl rfl rfl (Nat.le_of_ble_eq_true rfl) (ct_X5_who (d := _) (Or.inl rfl)) ⟨Nat.le_refl _, Nat.le_refl _⟩ ?_
  rcases hw9 : fh_who I 4 (fi_num I 0) with _ | w1
  · refine zv_run 0 (pc' := 9) (lo' := [some (.ref 4), some (.ref 2), none, none]) (st' := [.null]) (I' := I) (L' := L) (R' := zw_RC h sp la) rfl ?_
    refine zv_run 4 (pc' := 13) (lo' := [some (.ref 4), some (.ref 2), some (.null), none]) (st' := [.int 1, .ref 2, .ref 4]) (I' := I) (L' := L) (R' := zw_RC h sp la) rfl ?_
    refine zv_cV (M' := mm_X6_number) (ci := 6) (a := 2) (av := [.int 1]) (st := [.ref 4]) (r := some (.int (fi_num I 1))) (I' := I) (L' := L) (R' := zw_RC h sp la) rfl zc_5_121 gd_X6_number rfl rfl rfl (Nat.le_of_ble_eq_true rfl) (ct_X6_number (d := _) (I := I)) ⟨Nat.le_refl _, Nat.le_refl _⟩ ?_
    refine zv_run 0 (pc' := 16) (lo' := [some (.ref 4), some (.ref 2), some (.null), none]) (st' := [.int (fi_num I 1), .ref 4]) (I' := I) (L' := L) (R' := zw_RC h sp la) rfl ?_
    refine zv_cV (M' := mm_X5_who) (ci := 5) (a := 4) (av := [.int (fi_num I 1)]) (st := []) (r := some (va_rf (fh_who I 4 (fi_num I 1)))) (I' := I) (L' := L) (R' := zw_RC h sp la) rfl zc_5_129 gd_X5_who rfl rfl rfl (Nat.le_of_ble_eq_true rfl) (ct_X5_who (d := _) (Or.inl rfl)) ⟨Nat.le_refl _, Nat.le_refl _⟩ ?_
    rcases hw19 : fh_who I 4 (fi_num I 1) with _ | w2
    · refine zv_run 0 (pc' := 19) (lo' := [some (.ref 4), some (.ref 2), some (.null), none]) (st' := [.null]) (I' := I) (L' := L) (R' := zw_RC h sp la) rfl ?_
      refine zv_run 4 (pc' := 25) (lo' := [some (.ref 4), some (.ref 2), some (.null), some (.null)]) (st' := [.int (I 4 13), .ref 2]) (I' := I) (L' := L) (R' := zw_RC h sp la) rfl ?_
      refine zv_cV (M' := mm_X6_isPairOf) (ci := 6) (a := 2) (av := [.int (I 4 13)]) (st := []) (r := some (.int (fi_pair I (I 4 13)))) (I' := I) (L' := L) (R' := zw_RC h sp la) rfl zc_5_133 gd_X6_isPairOf rfl rfl rfl (Nat.le_of_ble_eq_true rfl) (ct_X6_isPairOf (d := _)) ⟨Nat.le_refl _, Nat.le_refl _⟩ ?_
      refine zv_run 0 (pc' := 28) (lo' := [some (.ref 4), some (.ref 2), some (.null), some (.null)]) (st' := [.int (fi_pair I (I 4 13))]) (I' := I) (L' := L) (R' := zw_RC h sp la) rfl ?_
      refine zv_if_eq (tgt := 39) (zs_at rfl) (by decide) (fun c28 => ?_) (fun c28 => ?_)
      · have _c := c28
        refine zv_run 1 (pc' := 40) (lo' := [some (.ref 4), some (.ref 2), some (.null), some (.null)]) (st' := [.int 0]) (I' := I) (L' := L) (R' := zw_RC h sp la) rfl ?_
        exact zv_zret (zs_at rfl) rfl (Or.inl rfl) ⟨Nat.le_refl _, Nat.le_refl _⟩ (by rw [h1] at hw9; cases hw9; done)
      · have _c := c28
        refine zv_run 1 (pc' := 32) (lo' := [some (.ref 4), some (.ref 2), some (.null), some (.null)]) (st' := [.null]) (I' := I) (L' := L) (R' := zw_RC h sp la) rfl ?_
        refine zv_ifnullN (tgt := 39) (zs_at rfl) (by decide) ?_
        refine zv_run 1 (pc' := 40) (lo' := [some (.ref 4), some (.ref 2), some (.null), some (.null)]) (st' := [.int 0]) (I' := I) (L' := L) (R' := zw_RC h sp la) rfl ?_
        exact zv_zret (zs_at rfl) rfl (Or.inl rfl) ⟨Nat.le_refl _, Nat.le_refl _⟩ (by rw [h1] at hw9; cases hw9; done)
    · refine zv_run 0 (pc' := 19) (lo' := [some (.ref 4), some (.ref 2), some (.null), none]) (st' := [.ref w2]) (I' := I) (L' := L) (R' := zw_RC h sp la) rfl ?_
      have hp2 := fh_who_bt (Or.inl rfl) hw19
      refine zv_run 4 (pc' := 25) (lo' := [some (.ref 4), some (.ref 2), some (.null), some (.ref w2)]) (st' := [.int (I 4 13), .ref 2]) (I' := I) (L' := L) (R' := zw_RC h sp la) rfl ?_
      refine zv_cV (M' := mm_X6_isPairOf) (ci := 6) (a := 2) (av := [.int (I 4 13)]) (st := []) (r := some (.int (fi_pair I (I 4 13)))) (I' := I) (L' := L) (R' := zw_RC h sp la) rfl zc_5_133 gd_X6_isPairOf rfl rfl rfl (Nat.le_of_ble_eq_true rfl) (ct_X6_isPairOf (d := _)) ⟨Nat.le_refl _, Nat.le_refl _⟩ ?_
      refine zv_run 0 (pc' := 28) (lo' := [some (.ref 4), some (.ref 2), some (.null), some (.ref w2)]) (st' := [.int (fi_pair I (I 4 13))]) (I' := I) (L' := L) (R' := zw_RC h sp la) rfl ?_
      refine zv_if_eq (tgt := 39) (zs_at rfl) (by decide) (fun c28 => ?_) (fun c28 => ?_)
      · have _c := c28
        refine zv_run 1 (pc' := 40) (lo' := [some (.ref 4), some (.ref 2), some (.null), some (.ref w2)]) (st' := [.int 0]) (I' := I) (L' := L) (R' := zw_RC h sp la) rfl ?_
        exact zv_zret (zs_at rfl) rfl (Or.inl rfl) ⟨Nat.le_refl _, Nat.le_refl _⟩ (by rw [h1] at hw9; cases hw9; done)
      · have _c := c28
        refine zv_run 1 (pc' := 32) (lo' := [some (.ref 4), some (.ref 2), some (.null), some (.ref w2)]) (st' := [.null]) (I' := I) (L' := L) (R' := zw_RC h sp la) rfl ?_
        refine zv_ifnullN (tgt := 39) (zs_at rfl) (by decide) ?_
        refine zv_run 1 (pc' := 40) (lo' := [some (.ref 4), some (.ref 2), some (.null), some (.ref w2)]) (st' := [.int 0]) (I' := I) (L' := L) (R' := zw_RC h sp la) rfl ?_
        exact zv_zret (zs_at rfl) rfl (Or.inl rfl) ⟨Nat.le_refl _, Nat.le_refl _⟩ (by rw [h1] at hw9; cases hw9; done)
  · refine zv_run 0 (pc' := 9) (lo' := [some (.ref 4), some (.ref 2), none, none]) (st' := [.ref w1]) (I' := I) (L' := L) (R' := zw_RC h sp la) rfl ?_
    have hp1 := fh_who_bt (Or.inl rfl) hw9
    refine zv_run 4 (pc' := 13) (lo' := [some (.ref 4), some (.ref 2), some (.ref w1), none]) (st' := [.int 1, .ref 2, .ref 4]) (I' := I) (L' := L) (R' := zw_RC h sp la) rfl ?_
    refine zv_cV (M' := mm_X6_number) (ci := 6) (a := 2) (av := [.int 1]) (st := [.ref 4]) (r := some (.int (fi_num I 1))) (I' := I) (L' := L) (R' := zw_RC h sp la) rfl zc_5_121 gd_X6_number rfl rfl rfl (Nat.le_of_ble_eq_true rfl) (ct_X6_number (d := _) (I := I)) ⟨Nat.le_refl _, Nat.le_refl _⟩ ?_
    refine zv_run 0 (pc' := 16) (lo' := [some (.ref 4), some (.ref 2), some (.ref w1), none]) (st' := [.int (fi_num I 1), .ref 4]) (I' := I) (L' := L) (R' := zw_RC h sp la) rfl ?_
    refine zv_cV (M' := mm_X5_who) (ci := 5) (a := 4) (av := [.int (fi_num I 1)]) (st := []) (r := some (va_rf (fh_who I 4 (fi_num I 1)))) (I' := I) (L' := L) (R' := zw_RC h sp la) rfl zc_5_129 gd_X5_who rfl rfl rfl (Nat.le_of_ble_eq_true rfl) (ct_X5_who (d := _) (Or.inl rfl)) ⟨Nat.le_refl _, Nat.le_refl _⟩ ?_
    rcases hw19 : fh_who I 4 (fi_num I 1) with _ | w2
    · refine zv_run 0 (pc' := 19) (lo' := [some (.ref 4), some (.ref 2), some (.ref w1), none]) (st' := [.null]) (I' := I) (L' := L) (R' := zw_RC h sp la) rfl ?_
      refine zv_run 4 (pc' := 25) (lo' := [some (.ref 4), some (.ref 2), some (.ref w1), some (.null)]) (st' := [.int (I 4 13), .ref 2]) (I' := I) (L' := L) (R' := zw_RC h sp la) rfl ?_
      refine zv_cV (M' := mm_X6_isPairOf) (ci := 6) (a := 2) (av := [.int (I 4 13)]) (st := []) (r := some (.int (fi_pair I (I 4 13)))) (I' := I) (L' := L) (R' := zw_RC h sp la) rfl zc_5_133 gd_X6_isPairOf rfl rfl rfl (Nat.le_of_ble_eq_true rfl) (ct_X6_isPairOf (d := _)) ⟨Nat.le_refl _, Nat.le_refl _⟩ ?_
      refine zv_run 0 (pc' := 28) (lo' := [some (.ref 4), some (.ref 2), some (.ref w1), some (.null)]) (st' := [.int (fi_pair I (I 4 13))]) (I' := I) (L' := L) (R' := zw_RC h sp la) rfl ?_
      refine zv_if_eq (tgt := 39) (zs_at rfl) (by decide) (fun c28 => ?_) (fun c28 => ?_)
      · have _c := c28
        refine zv_run 1 (pc' := 40) (lo' := [some (.ref 4), some (.ref 2), some (.ref w1), some (.null)]) (st' := [.int 0]) (I' := I) (L' := L) (R' := zw_RC h sp la) rfl ?_
        exact zv_zret (zs_at rfl) rfl (Or.inl rfl) ⟨Nat.le_refl _, Nat.le_refl _⟩ (by rw [h2] at hw19; cases hw19; done)
      · have _c := c28
        refine zv_run 1 (pc' := 32) (lo' := [some (.ref 4), some (.ref 2), some (.ref w1), some (.null)]) (st' := [.ref w1]) (I' := I) (L' := L) (R' := zw_RC h sp la) rfl ?_
        refine zv_ifnull (zs_at rfl) ?_
        refine zv_run 1 (pc' := 36) (lo' := [some (.ref 4), some (.ref 2), some (.ref w1), some (.null)]) (st' := [.null]) (I' := I) (L' := L) (R' := zw_RC h sp la) rfl ?_
        refine zv_ifnonnullN (zs_at rfl) ?_
        refine zv_run 1 (pc' := 40) (lo' := [some (.ref 4), some (.ref 2), some (.ref w1), some (.null)]) (st' := [.int 0]) (I' := I) (L' := L) (R' := zw_RC h sp la) rfl ?_
        exact zv_zret (zs_at rfl) rfl (Or.inl rfl) ⟨Nat.le_refl _, Nat.le_refl _⟩ (by rw [h2] at hw19; cases hw19; done)
    · refine zv_run 0 (pc' := 19) (lo' := [some (.ref 4), some (.ref 2), some (.ref w1), none]) (st' := [.ref w2]) (I' := I) (L' := L) (R' := zw_RC h sp la) rfl ?_
      have hp2 := fh_who_bt (Or.inl rfl) hw19
      refine zv_run 4 (pc' := 25) (lo' := [some (.ref 4), some (.ref 2), some (.ref w1), some (.ref w2)]) (st' := [.int (I 4 13), .ref 2]) (I' := I) (L' := L) (R' := zw_RC h sp la) rfl ?_
      refine zv_cV (M' := mm_X6_isPairOf) (ci := 6) (a := 2) (av := [.int (I 4 13)]) (st := []) (r := some (.int (fi_pair I (I 4 13)))) (I' := I) (L' := L) (R' := zw_RC h sp la) rfl zc_5_133 gd_X6_isPairOf rfl rfl rfl (Nat.le_of_ble_eq_true rfl) (ct_X6_isPairOf (d := _)) ⟨Nat.le_refl _, Nat.le_refl _⟩ ?_
      refine zv_run 0 (pc' := 28) (lo' := [some (.ref 4), some (.ref 2), some (.ref w1), some (.ref w2)]) (st' := [.int (fi_pair I (I 4 13))]) (I' := I) (L' := L) (R' := zw_RC h sp la) rfl ?_
      refine zv_if_eq (tgt := 39) (zs_at rfl) (by decide) (fun c28 => ?_) (fun c28 => ?_)
      · have _c := c28
        refine zv_run 1 (pc' := 40) (lo' := [some (.ref 4), some (.ref 2), some (.ref w1), some (.ref w2)]) (st' := [.int 0]) (I' := I) (L' := L) (R' := zw_RC h sp la) rfl ?_
        exact zv_zret (zs_at rfl) rfl (Or.inl rfl) ⟨Nat.le_refl _, Nat.le_refl _⟩ (absurd hok (fun q => q c28))
      · have _c := c28
        refine zv_run 1 (pc' := 32) (lo' := [some (.ref 4), some (.ref 2), some (.ref w1), some (.ref w2)]) (st' := [.ref w1]) (I' := I) (L' := L) (R' := zw_RC h sp la) rfl ?_
        refine zv_ifnull (zs_at rfl) ?_
        refine zv_run 1 (pc' := 36) (lo' := [some (.ref 4), some (.ref 2), some (.ref w1), some (.ref w2)]) (st' := [.ref w2]) (I' := I) (L' := L) (R' := zw_RC h sp la) rfl ?_
        refine zv_ifnonnull (tgt := 41) (zs_at rfl) (by decide) ?_
        refine zv_run 3 (pc' := 47) (lo' := [some (.ref 4), some (.ref 2), some (.ref w1), some (.ref w2)]) (st' := [.int 97, .int (I 2 1)]) (I' := I) (L' := L) (R' := zw_RC h sp la) rfl ?_
        refine zv_icmp_ne (tgt := 66) (zs_at rfl) (by decide) (fun c47 => ?_) (fun c47 => ?_)
        · have _c := c47
          refine zv_run 2 (pc' := 68) (lo' := [some (.ref 4), some (.ref 2), some (.ref w1), some (.ref w2)]) (st' := [.ref w1, .ref w1]) (I' := I) (L' := L) (R' := zw_RC h sp la) rfl ?_
          refine zv_get (ci := 2) (k := 8) (t := 0) (zs_at rfl) (zf_ok rfl) (bt_S hp1.1) rfl ?_
          refine zv_run 0 (pc' := 71) (lo' := [some (.ref 4), some (.ref 2), some (.ref w1), some (.ref w2)]) (st' := [.int (I w1 8), .ref w1]) (I' := I) (L' := L) (R' := zw_RC h sp la) rfl ?_
          refine zv_run 1 (pc' := 72) (lo' := [some (.ref 4), some (.ref 2), some (.ref w1), some (.ref w2)]) (st' := [.ref w2, .int (I w1 8), .ref w1]) (I' := I) (L' := L) (R' := zw_RC h sp la) rfl ?_
          refine zv_get (ci := 2) (k := 0) (t := 0) (zs_at rfl) (zf_ok rfl) (bt_S hp2.1) rfl ?_
          refine zv_run 0 (pc' := 75) (lo' := [some (.ref 4), some (.ref 2), some (.ref w1), some (.ref w2)]) (st' := [.int (I w2 0), .int (I w1 8), .ref w1]) (I' := I) (L' := L) (R' := zw_RC h sp la) rfl ?_
          refine zv_run 1 (pc' := 76) (lo' := [some (.ref 4), some (.ref 2), some (.ref w1), some (.ref w2)]) (st' := [.int ((I w1 8) ||| (I w2 0)), .ref w1]) (I' := I) (L' := L) (R' := zw_RC h sp la) rfl ?_
          refine zs_putI (ci := 2) (k := 8) (zs_at rfl) (zf_ok rfl) (bt_S hp1.1) (Or.inl rfl) rfl (fun q => absurd q (by decide)) ?_
          refine zv_run 1 (pc' := 80) (lo' := [some (.ref 4), some (.ref 2), some (.ref w1), some (.ref w2)]) (st' := [.int 1]) (I' := (zx_uI I w1 8 ((I w1 8) ||| (I w2 0)))) (L' := L) (R' := zw_RC h sp la) rfl ?_
          exact zv_zret (zs_at rfl) rfl (Or.inr rfl) ⟨Nat.le_refl _, Nat.le_refl _⟩ (zw_to rfl (by rw [h1] at hw9; rw [h2] at hw19; cases hw9; cases hw19; unfold tm_pair; first | (rw [if_neg c47]; done) | (rw [if_pos c47]; done)) rfl rfl)
        · have _c := c47
          refine zv_run 2 (pc' := 52) (lo' := [some (.ref 4), some (.ref 2), some (.ref w1), some (.ref w2)]) (st' := [.ref w1, .ref w1]) (I' := I) (L' := L) (R' := zw_RC h sp la) rfl ?_
          refine zv_get (ci := 2) (k := 7) (t := 0) (zs_at rfl) (zf_ok rfl) (bt_S hp1.1) rfl ?_
          refine zv_run 0 (pc' := 55) (lo' := [some (.ref 4), some (.ref 2), some (.ref w1), some (.ref w2)]) (st' := [.int (I w1 7), .ref w1]) (I' := I) (L' := L) (R' := zw_RC h sp la) rfl ?_
          refine zv_run 1 (pc' := 56) (lo' := [some (.ref 4), some (.ref 2), some (.ref w1), some (.ref w2)]) (st' := [.ref w2, .int (I w1 7), .ref w1]) (I' := I) (L' := L) (R' := zw_RC h sp la) rfl ?_
          refine zv_get (ci := 2) (k := 0) (t := 0) (zs_at rfl) (zf_ok rfl) (bt_S hp2.1) rfl ?_
          refine zv_run 0 (pc' := 59) (lo' := [some (.ref 4), some (.ref 2), some (.ref w1), some (.ref w2)]) (st' := [.int (I w2 0), .int (I w1 7), .ref w1]) (I' := I) (L' := L) (R' := zw_RC h sp la) rfl ?_
          refine zv_run 1 (pc' := 60) (lo' := [some (.ref 4), some (.ref 2), some (.ref w1), some (.ref w2)]) (st' := [.int ((I w1 7) ||| (I w2 0)), .ref w1]) (I' := I) (L' := L) (R' := zw_RC h sp la) rfl ?_
          refine zs_putI (ci := 2) (k := 7) (zs_at rfl) (zf_ok rfl) (bt_S hp1.1) (Or.inl rfl) rfl (fun q => absurd q (by decide)) ?_
          refine zv_run 1 (pc' := 79) (lo' := [some (.ref 4), some (.ref 2), some (.ref w1), some (.ref w2)]) (st' := []) (I' := (zx_uI I w1 7 ((I w1 7) ||| (I w2 0)))) (L' := L) (R' := zw_RC h sp la) rfl ?_
          refine zv_run 1 (pc' := 80) (lo' := [some (.ref 4), some (.ref 2), some (.ref w1), some (.ref w2)]) (st' := [.int 1]) (I' := (zx_uI I w1 7 ((I w1 7) ||| (I w2 0)))) (L' := L) (R' := zw_RC h sp la) rfl ?_
          exact zv_zret (zs_at rfl) rfl (Or.inr rfl) ⟨Nat.le_refl _, Nat.le_refl _⟩ (zw_to rfl (by rw [h1] at hw9; rw [h2] at hw19; cases hw9; cases hw19; unfold tm_pair; first | (rw [if_neg c47]; done) | (rw [if_pos c47]; done)) rfl rfl)
theorem ct_X5_takesPair_no_14 {d : Nat} {I : zx_I} {L : zx_L} {h sp : Nat} {la : Option Nat} (hno : ¬ ti_pair I 14) : zx_M0 mm_X5_takesPair (d + 3) 0 0 [.ref 14, .ref 2] zw_SC I L (zw_RC h sp la) (zw_ret (some (.int 0)) zw_SC I L (zw_RC h sp la)) := by
  refine zv_entry gd_X5_takesPair (Nat.le_of_ble_eq_true rfl) ?_
  refine zv_run 3 (pc' := 3) (lo' := [some (.ref 14), some (.ref 2), none, none]) (st' := [.int 0, .ref 2, .ref 14]) (I' := I) (L' := L) (R' := zw_RC h sp la) rfl ?_
  refine zv_cV (M' := mm_X6_number) (ci := 6) (a := 2) (av := [.int 0]) (st := [.ref 14]) (r := some (.int (fi_num I 0))) (I' := I) (L' := L) (R' := zw_RC h sp la) rfl zc_5_121 gd_X6_number rfl rfl rfl (Nat.le_of_ble_eq_true rfl) (ct_X6_number (d := _) (I := I)) ⟨Nat.le_refl _, Nat.le_refl _⟩ ?_
  refine zv_run 0 (pc' := 6) (lo' := [some (.ref 14), some (.ref 2), none, none]) (st' := [.int (fi_num I 0), .ref 14]) (I' := I) (L' := L) (R' := zw_RC h sp la) rfl ?_
  refine zv_cV (M' := mm_X5_who) (ci := 5) (a := 14) (av := [.int (fi_num I 0)]) (st := []) (r := some (va_rf (fh_who I 14 (fi_num I 0)))) (I' := I) (L' := L) (R' := zw_RC h sp la) rfl zc_5_129 gd_X5_who rfl rfl rfl (Nat.le_of_ble_eq_true rfl) (ct_X5_who (d := _) (Or.inr rfl)) ⟨Nat.le_refl _, Nat.le_refl _⟩ ?_
  rcases hw9 : fh_who I 14 (fi_num I 0) with _ | w1
  · refine zv_run 0 (pc' := 9) (lo' := [some (.ref 14), some (.ref 2), none, none]) (st' := [.null]) (I' := I) (L' := L) (R' := zw_RC h sp la) rfl ?_
    refine zv_run 4 (pc' := 13) (lo' := [some (.ref 14), some (.ref 2), some (.null), none]) (st' := [.int 1, .ref 2, .ref 14]) (I' := I) (L' := L) (R' := zw_RC h sp la) rfl ?_
    refine zv_cV (M' := mm_X6_number) (ci := 6) (a := 2) (av := [.int 1]) (st := [.ref 14]) (r := some (.int (fi_num I 1))) (I' := I) (L' := L) (R' := zw_RC h sp la) rfl zc_5_121 gd_X6_number rfl rfl rfl (Nat.le_of_ble_eq_true rfl) (ct_X6_number (d := _) (I := I)) ⟨Nat.le_refl _, Nat.le_refl _⟩ ?_
    refine zv_run 0 (pc' := 16) (lo' := [some (.ref 14), some (.ref 2), some (.null), none]) (st' := [.int (fi_num I 1), .ref 14]) (I' := I) (L' := L) (R' := zw_RC h sp la) rfl ?_
    refine zv_cV (M' := mm_X5_who) (ci := 5) (a := 14) (av := [.int (fi_num I 1)]) (st := []) (r := some (va_rf (fh_who I 14 (fi_num I 1)))) (I' := I) (L' := L) (R' := zw_RC h sp la) rfl zc_5_129 gd_X5_who rfl rfl rfl (Nat.le_of_ble_eq_true rfl) (ct_X5_who (d := _) (Or.inr rfl)) ⟨Nat.le_refl _, Nat.le_refl _⟩ ?_
    rcases hw19 : fh_who I 14 (fi_num I 1) with _ | w2
    · refine zv_run 0 (pc' := 19) (lo' := [some (.ref 14), some (.ref 2), some (.null), none]) (st' := [.null]) (I' := I) (L' := L) (R' := zw_RC h sp la) rfl ?_
      refine zv_run 4 (pc' := 25) (lo' := [some (.ref 14), some (.ref 2), some (.null), some (.null)]) (st' := [.int (I 14 13), .ref 2]) (I' := I) (L' := L) (R' := zw_RC h sp la) rfl ?_
      refine zv_cV (M' := mm_X6_isPairOf) (ci := 6) (a := 2) (av := [.int (I 14 13)]) (st := []) (r := some (.int (fi_pair I (I 14 13)))) (I' := I) (L' := L) (R' := zw_RC h sp la) rfl zc_5_133 gd_X6_isPairOf rfl rfl rfl (Nat.le_of_ble_eq_true rfl) (ct_X6_isPairOf (d := _)) ⟨Nat.le_refl _, Nat.le_refl _⟩ ?_
      refine zv_run 0 (pc' := 28) (lo' := [some (.ref 14), some (.ref 2), some (.null), some (.null)]) (st' := [.int (fi_pair I (I 14 13))]) (I' := I) (L' := L) (R' := zw_RC h sp la) rfl ?_
      refine zv_if_eq (tgt := 39) (zs_at rfl) (by decide) (fun c28 => ?_) (fun c28 => ?_)
      · have _c := c28
        refine zv_run 1 (pc' := 40) (lo' := [some (.ref 14), some (.ref 2), some (.null), some (.null)]) (st' := [.int 0]) (I' := I) (L' := L) (R' := zw_RC h sp la) rfl ?_
        exact zv_zret (zs_at rfl) rfl (Or.inl rfl) ⟨Nat.le_refl _, Nat.le_refl _⟩ (zw_to rfl rfl rfl rfl)
      · have _c := c28
        refine zv_run 1 (pc' := 32) (lo' := [some (.ref 14), some (.ref 2), some (.null), some (.null)]) (st' := [.null]) (I' := I) (L' := L) (R' := zw_RC h sp la) rfl ?_
        refine zv_ifnullN (tgt := 39) (zs_at rfl) (by decide) ?_
        refine zv_run 1 (pc' := 40) (lo' := [some (.ref 14), some (.ref 2), some (.null), some (.null)]) (st' := [.int 0]) (I' := I) (L' := L) (R' := zw_RC h sp la) rfl ?_
        exact zv_zret (zs_at rfl) rfl (Or.inl rfl) ⟨Nat.le_refl _, Nat.le_refl _⟩ (zw_to rfl rfl rfl rfl)
    · refine zv_run 0 (pc' := 19) (lo' := [some (.ref 14), some (.ref 2), some (.null), none]) (st' := [.ref w2]) (I' := I) (L' := L) (R' := zw_RC h sp la) rfl ?_
      have hp2 := fh_who_bt (Or.inr rfl) hw19
      refine zv_run 4 (pc' := 25) (lo' := [some (.ref 14), some (.ref 2), some (.null), some (.ref w2)]) (st' := [.int (I 14 13), .ref 2]) (I' := I) (L' := L) (R' := zw_RC h sp la) rfl ?_
      refine zv_cV (M' := mm_X6_isPairOf) (ci := 6) (a := 2) (av := [.int (I 14 13)]) (st := []) (r := some (.int (fi_pair I (I 14 13)))) (I' := I) (L' := L) (R' := zw_RC h sp la) rfl zc_5_133 gd_X6_isPairOf rfl rfl rfl (Nat.le_of_ble_eq_true rfl) (ct_X6_isPairOf (d := _)) ⟨Nat.le_refl _, Nat.le_refl _⟩ ?_
      refine zv_run 0 (pc' := 28) (lo' := [some (.ref 14), some (.ref 2), some (.null), some (.ref w2)]) (st' := [.int (fi_pair I (I 14 13))]) (I' := I) (L' := L) (R' := zw_RC h sp la) rfl ?_
      refine zv_if_eq (tgt := 39) (zs_at rfl) (by decide) (fun c28 => ?_) (fun c28 => ?_)
      · have _c := c28
        refine zv_run 1 (pc' := 40) (lo' := [some (.ref 14), some (.ref 2), some (.null), some (.ref w2)]) (st' := [.int 0]) (I' := I) (L' := L) (R' := zw_RC h sp la) rfl ?_
        exact zv_zret (zs_at rfl) rfl (Or.inl rfl) ⟨Nat.le_refl _, Nat.le_refl _⟩ (zw_to rfl rfl rfl rfl)
      · have _c := c28
        refine zv_run 1 (pc' := 32) (lo' := [some (.ref 14), some (.ref 2), some (.null), some (.ref w2)]) (st' := [.null]) (I' := I) (L' := L) (R' := zw_RC h sp la) rfl ?_
        refine zv_ifnullN (tgt := 39) (zs_at rfl) (by decide) ?_
        refine zv_run 1 (pc' := 40) (lo' := [some (.ref 14), some (.ref 2), some (.null), some (.ref w2)]) (st' := [.int 0]) (I' := I) (L' := L) (R' := zw_RC h sp la) rfl ?_
        exact zv_zret (zs_at rfl) rfl (Or.inl rfl) ⟨Nat.le_refl _, Nat.le_refl _⟩ (zw_to rfl rfl rfl rfl)
  · refine zv_run 0 (pc' := 9) (lo' := [some (.ref 14), some (.ref 2), none, none]) (st' := [.ref w1]) (I' := I) (L' := L) (R' := zw_RC h sp la) rfl ?_
    have hp1 := fh_who_bt (Or.inr rfl) hw9
    refine zv_run 4 (pc' := 13) (lo' := [some (.ref 14), some (.ref 2), some (.ref w1), none]) (st' := [.int 1, .ref 2, .ref 14]) (I' := I) (L' := L) (R' := zw_RC h sp la) rfl ?_
    refine zv_cV (M' := mm_X6_number) (ci := 6) (a := 2) (av := [.int 1]) (st := [.ref 14]) (r := some (.int (fi_num I 1))) (I' := I) (L' := L) (R' := zw_RC h sp la) rfl zc_5_121 gd_X6_number rfl rfl rfl (Nat.le_of_ble_eq_true rfl) (ct_X6_number (d := _) (I := I)) ⟨Nat.le_refl _, Nat.le_refl _⟩ ?_
    refine zv_run 0 (pc' := 16) (lo' := [some (.ref 14), some (.ref 2), some (.ref w1), none]) (st' := [.int (fi_num I 1), .ref 14]) (I' := I) (L' := L) (R' := zw_RC h sp la) rfl ?_
    refine zv_cV (M' := mm_X5_who) (ci := 5) (a := 14) (av := [.int (fi_num I 1)]) (st := []) (r := some (va_rf (fh_who I 14 (fi_num I 1)))) (I' := I) (L' := L) (R' := zw_RC h sp la) rfl zc_5_129 gd_X5_who rfl rfl rfl (Nat.le_of_ble_eq_true rfl) (ct_X5_who (d := _) (Or.inr rfl)) ⟨Nat.le_refl _, Nat.le_refl _⟩ ?_
    rcases hw19 : fh_who I 14 (fi_num I 1) with _ | w2
    · refine zv_run 0 (pc' := 19) (lo' := [some (.ref 14), some (.ref 2), some (.ref w1), none]) (st' := [.null]) (I' := I) (L' := L) (R' := zw_RC h sp la) rfl ?_
      refine zv_run 4 (pc' := 25) (lo' := [some (.ref 14), some (.ref 2), some (.ref w1), some (.null)]) (st' := [.int (I 14 13), .ref 2]) (I' := I) (L' := L) (R' := zw_RC h sp la) rfl ?_
      refine zv_cV (M' := mm_X6_isPairOf) (ci := 6) (a := 2) (av := [.int (I 14 13)]) (st := []) (r := some (.int (fi_pair I (I 14 13)))) (I' := I) (L' := L) (R' := zw_RC h sp la) rfl zc_5_133 gd_X6_isPairOf rfl rfl rfl (Nat.le_of_ble_eq_true rfl) (ct_X6_isPairOf (d := _)) ⟨Nat.le_refl _, Nat.le_refl _⟩ ?_
      refine zv_run 0 (pc' := 28) (lo' := [some (.ref 14), some (.ref 2), some (.ref w1), some (.null)]) (st' := [.int (fi_pair I (I 14 13))]) (I' := I) (L' := L) (R' := zw_RC h sp la) rfl ?_
      refine zv_if_eq (tgt := 39) (zs_at rfl) (by decide) (fun c28 => ?_) (fun c28 => ?_)
      · have _c := c28
        refine zv_run 1 (pc' := 40) (lo' := [some (.ref 14), some (.ref 2), some (.ref w1), some (.null)]) (st' := [.int 0]) (I' := I) (L' := L) (R' := zw_RC h sp la) rfl ?_
        exact zv_zret (zs_at rfl) rfl (Or.inl rfl) ⟨Nat.le_refl _, Nat.le_refl _⟩ (zw_to rfl rfl rfl rfl)
      · have _c := c28
        refine zv_run 1 (pc' := 32) (lo' := [some (.ref 14), some (.ref 2), some (.ref w1), some (.null)]) (st' := [.ref w1]) (I' := I) (L' := L) (R' := zw_RC h sp la) rfl ?_
        refine zv_ifnull (zs_at rfl) ?_
        refine zv_run 1 (pc' := 36) (lo' := [some (.ref 14), some (.ref 2), some (.ref w1), some (.null)]) (st' := [.null]) (I' := I) (L' := L) (R' := zw_RC h sp la) rfl ?_
        refine zv_ifnonnullN (zs_at rfl) ?_
        refine zv_run 1 (pc' := 40) (lo' := [some (.ref 14), some (.ref 2), some (.ref w1), some (.null)]) (st' := [.int 0]) (I' := I) (L' := L) (R' := zw_RC h sp la) rfl ?_
        exact zv_zret (zs_at rfl) rfl (Or.inl rfl) ⟨Nat.le_refl _, Nat.le_refl _⟩ (zw_to rfl rfl rfl rfl)
    · refine zv_run 0 (pc' := 19) (lo' := [some (.ref 14), some (.ref 2), some (.ref w1), none]) (st' := [.ref w2]) (I' := I) (L' := L) (R' := zw_RC h sp la) rfl ?_
      have hp2 := fh_who_bt (Or.inr rfl) hw19
      refine zv_run 4 (pc' := 25) (lo' := [some (.ref 14), some (.ref 2), some (.ref w1), some (.ref w2)]) (st' := [.int (I 14 13), .ref 2]) (I' := I) (L' := L) (R' := zw_RC h sp la) rfl ?_
      refine zv_cV (M' := mm_X6_isPairOf) (ci := 6) (a := 2) (av := [.int (I 14 13)]) (st := []) (r := some (.int (fi_pair I (I 14 13)))) (I' := I) (L' := L) (R' := zw_RC h sp la) rfl zc_5_133 gd_X6_isPairOf rfl rfl rfl (Nat.le_of_ble_eq_true rfl) (ct_X6_isPairOf (d := _)) ⟨Nat.le_refl _, Nat.le_refl _⟩ ?_
      refine zv_run 0 (pc' := 28) (lo' := [some (.ref 14), some (.ref 2), some (.ref w1), some (.ref w2)]) (st' := [.int (fi_pair I (I 14 13))]) (I' := I) (L' := L) (R' := zw_RC h sp la) rfl ?_
      refine zv_if_eq (tgt := 39) (zs_at rfl) (by decide) (fun c28 => ?_) (fun c28 => ?_)
      · have _c := c28
        refine zv_run 1 (pc' := 40) (lo' := [some (.ref 14), some (.ref 2), some (.ref w1), some (.ref w2)]) (st' := [.int 0]) (I' := I) (L' := L) (R' := zw_RC h sp la) rfl ?_
        exact zv_zret (zs_at rfl) rfl (Or.inl rfl) ⟨Nat.le_refl _, Nat.le_refl _⟩ (zw_to rfl rfl rfl rfl)
      · have _c := c28
        refine zv_run 1 (pc' := 32) (lo' := [some (.ref 14), some (.ref 2), some (.ref w1), some (.ref w2)]) (st' := [.ref w1]) (I' := I) (L' := L) (R' := zw_RC h sp la) rfl ?_
        refine zv_ifnull (zs_at rfl) ?_
        refine zv_run 1 (pc' := 36) (lo' := [some (.ref 14), some (.ref 2), some (.ref w1), some (.ref w2)]) (st' := [.ref w2]) (I' := I) (L' := L) (R' := zw_RC h sp la) rfl ?_
        refine zv_ifnonnull (tgt := 41) (zs_at rfl) (by decide) ?_
        exact absurd ⟨(by rw [hw9]; exact fun q => by cases q), (by rw [hw19]; exact fun q => by cases q), c28⟩ hno
theorem ct_X5_takesPair_14 {d : Nat} {I : zx_I} {L : zx_L} {h sp : Nat} {la : Option Nat} {w v : Nat} (h1 : fh_who I 14 (fi_num I 0) = some w) (h2 : fh_who I 14 (fi_num I 1) = some v) (hok : ¬ fi_pair I (I 14 13) = 0) : zx_M0 mm_X5_takesPair (d + 3) 0 0 [.ref 14, .ref 2] zw_SC I L (zw_RC h sp la) (zw_ret (some (.int 1)) zw_SC (tm_pair I w v) L (zw_RC h sp la)) := by
  refine zv_entry gd_X5_takesPair (Nat.le_of_ble_eq_true rfl) ?_
  refine zv_run 3 (pc' := 3) (lo' := [some (.ref 14), some (.ref 2), none, none]) (st' := [.int 0, .ref 2, .ref 14]) (I' := I) (L' := L) (R' := zw_RC h sp la) rfl ?_
  refine zv_cV (M' := mm_X6_number) (ci := 6) (a := 2) (av := [.int 0]) (st := [.ref 14]) (r := some (.int (fi_num I 0))) (I' := I) (L' := L) (R' := zw_RC h sp la) rfl zc_5_121 gd_X6_number rfl rfl rfl (Nat.le_of_ble_eq_true rfl) (ct_X6_number (d := _) (I := I)) ⟨Nat.le_refl _, Nat.le_refl _⟩ ?_
  refine zv_run 0 (pc' := 6) (lo' := [some (.ref 14), some (.ref 2), none, none]) (st' := [.int (fi_num I 0), .ref 14]) (I' := I) (L' := L) (R' := zw_RC h sp la) rfl ?_
  refine zv_cV (M' := mm_X5_who) (ci := 5) (a := 14) (av := [.int (fi_num I 0)]) (st := []) (r := some (va_rf (fh_who I 14 (fi_num I 0)))) (I' := I) (L' := L) (R' := zw_RC h sp la) rfl zc_5_129 gd_X5_who rfl rfl rfl (Nat.le_of_ble_eq_true rfl) (ct_X5_who (d := _) (Or.inr rfl)) ⟨Nat.le_refl _, Nat.le_refl _⟩ ?_
  rcases hw9 : fh_who I 14 (fi_num I 0) with _ | w1
  · refine zv_run 0 (pc' := 9) (lo' := [some (.ref 14), some (.ref 2), none, none]) (st' := [.null]) (I' := I) (L' := L) (R' := zw_RC h sp la) rfl ?_
    refine zv_run 4 (pc' := 13) (lo' := [some (.ref 14), some (.ref 2), some (.null), none]) (st' := [.int 1, .ref 2, .ref 14]) (I' := I) (L' := L) (R' := zw_RC h sp la) rfl ?_
    refine zv_cV (M' := mm_X6_number) (ci := 6) (a := 2) (av := [.int 1]) (st := [.ref 14]) (r := some (.int (fi_num I 1))) (I' := I) (L' := L) (R' := zw_RC h sp la) rfl zc_5_121 gd_X6_number rfl rfl rfl (Nat.le_of_ble_eq_true rfl) (ct_X6_number (d := _) (I := I)) ⟨Nat.le_refl _, Nat.le_refl _⟩ ?_
    refine zv_run 0 (pc' := 16) (lo' := [some (.ref 14), some (.ref 2), some (.null), none]) (st' := [.int (fi_num I 1), .ref 14]) (I' := I) (L' := L) (R' := zw_RC h sp la) rfl ?_
    refine zv_cV (M' := mm_X5_who) (ci := 5) (a := 14) (av := [.int (fi_num I 1)]) (st := []) (r := some (va_rf (fh_who I 14 (fi_num I 1)))) (I' := I) (L' := L) (R' := zw_RC h sp la) rfl zc_5_129 gd_X5_who rfl rfl rfl (Nat.le_of_ble_eq_true rfl) (ct_X5_who (d := _) (Or.inr rfl)) ⟨Nat.le_refl _, Nat.le_refl _⟩ ?_
    rcases hw19 : fh_who I 14 (fi_num I 1) with _ | w2
    · refine zv_run 0 (pc' := 19) (lo' := [some (.ref 14), some (.ref 2), some (.null), none]) (st' := [.null]) (I' := I) (L' := L) (R' := zw_RC h sp la) rfl ?_
      refine zv_run 4 (pc' := 25) (lo' := [some (.ref 14), some (.ref 2), some (.null), some (.null)]) (st' := [.int (I 14 13), .ref 2]) (I' := I) (L' := L) (R' := zw_RC h sp la) rfl ?_
      refine zv_cV (M' := mm_X6_isPairOf) (ci := 6) (a := 2) (av := [.int (I 14 13)]) (st := []) (r := some (.int (fi_pair I (I 14 13)))) (I' := I) (L' := L) (R' := zw_RC h sp la) rfl zc_5_133 gd_X6_isPairOf rfl rfl rfl (Nat.le_of_ble_eq_true rfl) (ct_X6_isPairOf (d := _)) ⟨Nat.le_refl _, Nat.le_refl _⟩ ?_
      refine zv_run 0 (pc' := 28) (lo' := [some (.ref 14), some (.ref 2), some (.null), some (.null)]) (st' := [.int (fi_pair I (I 14 13))]) (I' := I) (L' := L) (R' := zw_RC h sp la) rfl ?_
      refine zv_if_eq (tgt := 39) (zs_at rfl) (by decide) (fun c28 => ?_) (fun c28 => ?_)
      · have _c := c28
        refine zv_run 1 (pc' := 40) (lo' := [some (.ref 14), some (.ref 2), some (.null), some (.null)]) (st' := [.int 0]) (I' := I) (L' := L) (R' := zw_RC h sp la) rfl ?_
        exact zv_zret (zs_at rfl) rfl (Or.inl rfl) ⟨Nat.le_refl _, Nat.le_refl _⟩ (by rw [h1] at hw9; cases hw9; done)
      · have _c := c28
        refine zv_run 1 (pc' := 32) (lo' := [some (.ref 14), some (.ref 2), some (.null), some (.null)]) (st' := [.null]) (I' := I) (L' := L) (R' := zw_RC h sp la) rfl ?_
        refine zv_ifnullN (tgt := 39) (zs_at rfl) (by decide) ?_
        refine zv_run 1 (pc' := 40) (lo' := [some (.ref 14), some (.ref 2), some (.null), some (.null)]) (st' := [.int 0]) (I' := I) (L' := L) (R' := zw_RC h sp la) rfl ?_
        exact zv_zret (zs_at rfl) rfl (Or.inl rfl) ⟨Nat.le_refl _, Nat.le_refl _⟩ (by rw [h1] at hw9; cases hw9; done)
    · refine zv_run 0 (pc' := 19) (lo' := [some (.ref 14), some (.ref 2), some (.null), none]) (st' := [.ref w2]) (I' := I) (L' := L) (R' := zw_RC h sp la) rfl ?_
      have hp2 := fh_who_bt (Or.inr rfl) hw19
      refine zv_run 4 (pc' := 25) (lo' := [some (.ref 14), some (.ref 2), some (.null), some (.ref w2)]) (st' := [.int (I 14 13), .ref 2]) (I' := I) (L' := L) (R' := zw_RC h sp la) rfl ?_
      refine zv_cV (M' := mm_X6_isPairOf) (ci := 6) (a := 2) (av := [.int (I 14 13)]) (st := []) (r := some (.int (fi_pair I (I 14 13)))) (I' := I) (L' := L) (R' := zw_RC h sp la) rfl zc_5_133 gd_X6_isPairOf rfl rfl rfl (Nat.le_of_ble_eq_true rfl) (ct_X6_isPairOf (d := _)) ⟨Nat.le_refl _, Nat.le_refl _⟩ ?_
      refine zv_run 0 (pc' := 28) (lo' := [some (.ref 14), some (.ref 2), some (.null), some (.ref w2)]) (st' := [.int (fi_pair I (I 14 13))]) (I' := I) (L' := L) (R' := zw_RC h sp la) rfl ?_
      refine zv_if_eq (tgt := 39) (zs_at rfl) (by decide) (fun c28 => ?_) (fun c28 => ?_)
      · have _c := c28
        refine zv_run 1 (pc' := 40) (lo' := [some (.ref 14), some (.ref 2), some (.null), some (.ref w2)]) (st' := [.int 0]) (I' := I) (L' := L) (R' := zw_RC h sp la) rfl ?_
        exact zv_zret (zs_at rfl) rfl (Or.inl rfl) ⟨Nat.le_refl _, Nat.le_refl _⟩ (by rw [h1] at hw9; cases hw9; done)
      · have _c := c28
        refine zv_run 1 (pc' := 32) (lo' := [some (.ref 14), some (.ref 2), some (.null), some (.ref w2)]) (st' := [.null]) (I' := I) (L' := L) (R' := zw_RC h sp la) rfl ?_
        refine zv_ifnullN (tgt := 39) (zs_at rfl) (by decide) ?_
        refine zv_run 1 (pc' := 40) (lo' := [some (.ref 14), some (.ref 2), some (.null), some (.ref w2)]) (st' := [.int 0]) (I' := I) (L' := L) (R' := zw_RC h sp la) rfl ?_
        exact zv_zret (zs_at rfl) rfl (Or.inl rfl) ⟨Nat.le_refl _, Nat.le_refl _⟩ (by rw [h1] at hw9; cases hw9; done)
  · refine zv_run 0 (pc' := 9) (lo' := [some (.ref 14), some (.ref 2), none, none]) (st' := [.ref w1]) (I' := I) (L' := L) (R' := zw_RC h sp la) rfl ?_
    have hp1 := fh_who_bt (Or.inr rfl) hw9
    refine zv_run 4 (pc' := 13) (lo' := [some (.ref 14), some (.ref 2), some (.ref w1), none]) (st' := [.int 1, .ref 2, .ref 14]) (I' := I) (L' := L) (R' := zw_RC h sp la) rfl ?_
    refine zv_cV (M' := mm_X6_number) (ci := 6) (a := 2) (av := [.int 1]) (st := [.ref 14]) (r := some (.int (fi_num I 1))) (I' := I) (L' := L) (R' := zw_RC h sp la) rfl zc_5_121 gd_X6_number rfl rfl rfl (Nat.le_of_ble_eq_true rfl) (ct_X6_number (d := _) (I := I)) ⟨Nat.le_refl _, Nat.le_refl _⟩ ?_
    refine zv_run 0 (pc' := 16) (lo' := [some (.ref 14), some (.ref 2), some (.ref w1), none]) (st' := [.int (fi_num I 1), .ref 14]) (I' := I) (L' := L) (R' := zw_RC h sp la) rfl ?_
    refine zv_cV (M' := mm_X5_who) (ci := 5) (a := 14) (av := [.int (fi_num I 1)]) (st := []) (r := some (va_rf (fh_who I 14 (fi_num I 1)))) (I' := I) (L' := L) (R' := zw_RC h sp la) rfl zc_5_129 gd_X5_who rfl rfl rfl (Nat.le_of_ble_eq_true rfl) (ct_X5_who (d := _) (Or.inr rfl)) ⟨Nat.le_refl _, Nat.le_refl _⟩ ?_
    rcases hw19 : fh_who I 14 (fi_num I 1) with _ | w2
    · refine zv_run 0 (pc' := 19) (lo' := [some (.ref 14), some (.ref 2), some (.ref w1), none]) (st' := [.null]) (I' := I) (L' := L) (R' := zw_RC h sp la) rfl ?_
      refine zv_run 4 (pc' := 25) (lo' := [some (.ref 14), some (.ref 2), some (.ref w1), some (.null)]) (st' := [.int (I 14 13), .ref 2]) (I' := I) (L' := L) (R' := zw_RC h sp la) rfl ?_
      refine zv_cV (M' := mm_X6_isPairOf) (ci := 6) (a := 2) (av := [.int (I 14 13)]) (st := []) (r := some (.int (fi_pair I (I 14 13)))) (I' := I) (L' := L) (R' := zw_RC h sp la) rfl zc_5_133 gd_X6_isPairOf rfl rfl rfl (Nat.le_of_ble_eq_true rfl) (ct_X6_isPairOf (d := _)) ⟨Nat.le_refl _, Nat.le_refl _⟩ ?_
      refine zv_run 0 (pc' := 28) (lo' := [some (.ref 14), some (.ref 2), some (.ref w1), some (.null)]) (st' := [.int (fi_pair I (I 14 13))]) (I' := I) (L' := L) (R' := zw_RC h sp la) rfl ?_
      refine zv_if_eq (tgt := 39) (zs_at rfl) (by decide) (fun c28 => ?_) (fun c28 => ?_)
      · have _c := c28
        refine zv_run 1 (pc' := 40) (lo' := [some (.ref 14), some (.ref 2), some (.ref w1), some (.null)]) (st' := [.int 0]) (I' := I) (L' := L) (R' := zw_RC h sp la) rfl ?_
        exact zv_zret (zs_at rfl) rfl (Or.inl rfl) ⟨Nat.le_refl _, Nat.le_refl _⟩ (by rw [h2] at hw19; cases hw19; done)
      · have _c := c28
        refine zv_run 1 (pc' := 32) (lo' := [some (.ref 14), some (.ref 2), some (.ref w1), some (.null)]) (st' := [.ref w1]) (I' := I) (L' := L) (R' := zw_RC h sp la) rfl ?_
        refine zv_ifnull (zs_at rfl) ?_
        refine zv_run 1 (pc' := 36) (lo' := [some (.ref 14), some (.ref 2), some (.ref w1), some (.null)]) (st' := [.null]) (I' := I) (L' := L) (R' := zw_RC h sp la) rfl ?_
        refine zv_ifnonnullN (zs_at rfl) ?_
        refine zv_run 1 (pc' := 40) (lo' := [some (.ref 14), some (.ref 2), some (.ref w1), some (.null)]) (st' := [.int 0]) (I' := I) (L' := L) (R' := zw_RC h sp la) rfl ?_
        exact zv_zret (zs_at rfl) rfl (Or.inl rfl) ⟨Nat.le_refl _, Nat.le_refl _⟩ (by rw [h2] at hw19; cases hw19; done)
    · refine zv_run 0 (pc' := 19) (lo' := [some (.ref 14), some (.ref 2), some (.ref w1), none]) (st' := [.ref w2]) (I' := I) (L' := L) (R' := zw_RC h sp la) rfl ?_
      have hp2 := fh_who_bt (Or.inr rfl) hw19
      refine zv_run 4 (pc' := 25) (lo' := [some (.ref 14), some (.ref 2), some (.ref w1), some (.ref w2)]) (st' := [.int (I 14 13), .ref 2]) (I' := I) (L' := L) (R' := zw_RC h sp la) rfl ?_
      refine zv_cV (M' := mm_X6_isPairOf) (ci := 6) (a := 2) (av := [.int (I 14 13)]) (st := []) (r := some (.int (fi_pair I (I 14 13)))) (I' := I) (L' := L) (R' := zw_RC h sp la) rfl zc_5_133 gd_X6_isPairOf rfl rfl rfl (Nat.le_of_ble_eq_true rfl) (ct_X6_isPairOf (d := _)) ⟨Nat.le_refl _, Nat.le_refl _⟩ ?_
      refine zv_run 0 (pc' := 28) (lo' := [some (.ref 14), some (.ref 2), some (.ref w1), some (.ref w2)]) (st' := [.int (fi_pair I (I 14 13))]) (I' := I) (L' := L) (R' := zw_RC h sp la) rfl ?_
      refine zv_if_eq (tgt := 39) (zs_at rfl) (by decide) (fun c28 => ?_) (fun c28 => ?_)
      · have _c := c28
        refine zv_run 1 (pc' := 40) (lo' := [some (.ref 14), some (.ref 2), some (.ref w1), some (.ref w2)]) (st' := [.int 0]) (I' := I) (L' := L) (R' := zw_RC h sp la) rfl ?_
        exact zv_zret (zs_at rfl) rfl (Or.inl rfl) ⟨Nat.le_refl _, Nat.le_refl _⟩ (absurd hok (fun q => q c28))
      · have _c := c28
        refine zv_run 1 (pc' := 32) (lo' := [some (.ref 14), some (.ref 2), some (.ref w1), some (.ref w2)]) (st' := [.ref w1]) (I' := I) (L' := L) (R' := zw_RC h sp la) rfl ?_
        refine zv_ifnull (zs_at rfl) ?_
        refine zv_run 1 (pc' := 36) (lo' := [some (.ref 14), some (.ref 2), some (.ref w1), some (.ref w2)]) (st' := [.ref w2]) (I' := I) (L' := L) (R' := zw_RC h sp la) rfl ?_
        refine zv_ifnonnull (tgt := 41) (zs_at rfl) (by decide) ?_
        refine zv_run 3 (pc' := 47) (lo' := [some (.ref 14), some (.ref 2), some (.ref w1), some (.ref w2)]) (st' := [.int 97, .int (I 2 1)]) (I' := I) (L' := L) (R' := zw_RC h sp la) rfl ?_
        refine zv_icmp_ne (tgt := 66) (zs_at rfl) (by decide) (fun c47 => ?_) (fun c47 => ?_)
        · have _c := c47
          refine zv_run 2 (pc' := 68) (lo' := [some (.ref 14), some (.ref 2), some (.ref w1), some (.ref w2)]) (st' := [.ref w1, .ref w1]) (I' := I) (L' := L) (R' := zw_RC h sp la) rfl ?_
          refine zv_get (ci := 2) (k := 8) (t := 0) (zs_at rfl) (zf_ok rfl) (bt_S hp1.1) rfl ?_
          refine zv_run 0 (pc' := 71) (lo' := [some (.ref 14), some (.ref 2), some (.ref w1), some (.ref w2)]) (st' := [.int (I w1 8), .ref w1]) (I' := I) (L' := L) (R' := zw_RC h sp la) rfl ?_
          refine zv_run 1 (pc' := 72) (lo' := [some (.ref 14), some (.ref 2), some (.ref w1), some (.ref w2)]) (st' := [.ref w2, .int (I w1 8), .ref w1]) (I' := I) (L' := L) (R' := zw_RC h sp la) rfl ?_
          refine zv_get (ci := 2) (k := 0) (t := 0) (zs_at rfl) (zf_ok rfl) (bt_S hp2.1) rfl ?_
          refine zv_run 0 (pc' := 75) (lo' := [some (.ref 14), some (.ref 2), some (.ref w1), some (.ref w2)]) (st' := [.int (I w2 0), .int (I w1 8), .ref w1]) (I' := I) (L' := L) (R' := zw_RC h sp la) rfl ?_
          refine zv_run 1 (pc' := 76) (lo' := [some (.ref 14), some (.ref 2), some (.ref w1), some (.ref w2)]) (st' := [.int ((I w1 8) ||| (I w2 0)), .ref w1]) (I' := I) (L' := L) (R' := zw_RC h sp la) rfl ?_
          refine zs_putI (ci := 2) (k := 8) (zs_at rfl) (zf_ok rfl) (bt_S hp1.1) (Or.inl rfl) rfl (fun q => absurd q (by decide)) ?_
          refine zv_run 1 (pc' := 80) (lo' := [some (.ref 14), some (.ref 2), some (.ref w1), some (.ref w2)]) (st' := [.int 1]) (I' := (zx_uI I w1 8 ((I w1 8) ||| (I w2 0)))) (L' := L) (R' := zw_RC h sp la) rfl ?_
          exact zv_zret (zs_at rfl) rfl (Or.inr rfl) ⟨Nat.le_refl _, Nat.le_refl _⟩ (zw_to rfl (by rw [h1] at hw9; rw [h2] at hw19; cases hw9; cases hw19; unfold tm_pair; first | (rw [if_neg c47]; done) | (rw [if_pos c47]; done)) rfl rfl)
        · have _c := c47
          refine zv_run 2 (pc' := 52) (lo' := [some (.ref 14), some (.ref 2), some (.ref w1), some (.ref w2)]) (st' := [.ref w1, .ref w1]) (I' := I) (L' := L) (R' := zw_RC h sp la) rfl ?_
          refine zv_get (ci := 2) (k := 7) (t := 0) (zs_at rfl) (zf_ok rfl) (bt_S hp1.1) rfl ?_
          refine zv_run 0 (pc' := 55) (lo' := [some (.ref 14), some (.ref 2), some (.ref w1), some (.ref w2)]) (st' := [.int (I w1 7), .ref w1]) (I' := I) (L' := L) (R' := zw_RC h sp la) rfl ?_
          refine zv_run 1 (pc' := 56) (lo' := [some (.ref 14), some (.ref 2), some (.ref w1), some (.ref w2)]) (st' := [.ref w2, .int (I w1 7), .ref w1]) (I' := I) (L' := L) (R' := zw_RC h sp la) rfl ?_
          refine zv_get (ci := 2) (k := 0) (t := 0) (zs_at rfl) (zf_ok rfl) (bt_S hp2.1) rfl ?_
          refine zv_run 0 (pc' := 59) (lo' := [some (.ref 14), some (.ref 2), some (.ref w1), some (.ref w2)]) (st' := [.int (I w2 0), .int (I w1 7), .ref w1]) (I' := I) (L' := L) (R' := zw_RC h sp la) rfl ?_
          refine zv_run 1 (pc' := 60) (lo' := [some (.ref 14), some (.ref 2), some (.ref w1), some (.ref w2)]) (st' := [.int ((I w1 7) ||| (I w2 0)), .ref w1]) (I' := I) (L' := L) (R' := zw_RC h sp la) rfl ?_
          refine zs_putI (ci := 2) (k := 7) (zs_at rfl) (zf_ok rfl) (bt_S hp1.1) (Or.inl rfl) rfl (fun q => absurd q (by decide)) ?_
          refine zv_run 1 (pc' := 79) (lo' := [some (.ref 14), some (.ref 2), some (.ref w1), some (.ref w2)]) (st' := []) (I' := (zx_uI I w1 7 ((I w1 7) ||| (I w2 0)))) (L' := L) (R' := zw_RC h sp la) rfl ?_
          refine zv_run 1 (pc' := 80) (lo' := [some (.ref 14), some (.ref 2), some (.ref w1), some (.ref w2)]) (st' := [.int 1]) (I' := (zx_uI I w1 7 ((I w1 7) ||| (I w2 0)))) (L' := L) (R' := zw_RC h sp la) rfl ?_
          exact zv_zret (zs_at rfl) rfl (Or.inr rfl) ⟨Nat.le_refl _, Nat.le_refl _⟩ (zw_to rfl (by rw [h1] at hw9; rw [h2] at hw19; cases hw9; cases hw19; unfold tm_pair; first | (rw [if_neg c47]; done) | (rw [if_pos c47]; done)) rfl rfl)
