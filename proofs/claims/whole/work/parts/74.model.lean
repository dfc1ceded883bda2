/-! the constructor of the model -/
theorem km_R {M : zx_M} {d : Nat} {b : zx_B} {Q : zx_Qt} {S : zx_S} {pc : Nat} {lo : List (Option Value)} {st : List Value} {I : zx_I} {L : zx_L} (h : zx_V M d b Q S pc lo st I L zw_RM) : zx_V M d b Q S pc lo st I L kmr_19 := by
  rw [kmr_RM]
  exact h
theorem kmc_init {d : Nat} {J1 J : zx_I} {M : zx_L} (e1 : mf_firstHouse 1000 kmi_0 = some J1) (e2 : mf_layDown 1000 J1 kml_0 = some (J, M)) : zx_M0 mm_X10_init (d + 1) 19 630 [.ref 0] (kT 1) kmi_0 kml_0 kmr_0 (zw_ret none zw_SM J M zw_RM) := by
  refine zv_entry gd_X10_init (Nat.le_of_ble_eq_true rfl) ?_
  refine zv_run 1 (pc' := 1) (lo' := [some (.ref 0)]) (st' := [.ref 0]) (I' := kmi_0) (L' := kml_0) (R' := kmr_0) rfl ?_
  refine zv_objInit (zs_at rfl) zm_10_1 (Nat.le_of_ble_eq_true rfl) ?_ zq_oi1 zq_oi2
  refine zv_run 2 (pc' := 8) (lo' := [some (.ref 0)]) (st' := [.int 400, .ref 0]) (I' := kmi_0) (L' := kml_0) (R' := kmr_0) rfl ?_
  refine zn_newarr (n := 1) (S' := kT 2) (kd := 100) (N := 400) (ty := .int) (zs_at rfl) rfl zq_int (Or.inl ⟨rfl, rfl, rfl⟩) rfl rfl (fun _ => ⟨rfl, rfl, rfl⟩) (by decide) (by decide) (Nat.le_of_ble_eq_true rfl) ⟨Nat.le_of_ble_eq_true rfl, Nat.le_of_ble_eq_true rfl⟩ ?_
  refine zv_run 3 (pc' := 16) (lo' := [some (.ref 0)]) (st' := [.int 65, .ref 0]) (I' := kmi_0) (L' := kml_0) (R' := kmr_1) rfl ?_
  refine zn_newarr (n := 2) (S' := kT 3) (kd := 100) (N := 65) (ty := .int) (zs_at rfl) rfl zq_int (Or.inl ⟨rfl, rfl, rfl⟩) rfl rfl (fun _ => ⟨rfl, rfl, rfl⟩) (by decide) (by decide) (Nat.le_of_ble_eq_true rfl) ⟨Nat.le_of_ble_eq_true rfl, Nat.le_of_ble_eq_true rfl⟩ ?_
  refine zv_run 3 (pc' := 24) (lo' := [some (.ref 0)]) (st' := [.int 65, .ref 0]) (I' := kmi_0) (L' := kml_0) (R' := kmr_2) rfl ?_
  refine zn_newarr (n := 3) (S' := kT 4) (kd := 100) (N := 65) (ty := .int) (zs_at rfl) rfl zq_int (Or.inl ⟨rfl, rfl, rfl⟩) rfl rfl (fun _ => ⟨rfl, rfl, rfl⟩) (by decide) (by decide) (Nat.le_of_ble_eq_true rfl) ⟨Nat.le_of_ble_eq_true rfl, Nat.le_of_ble_eq_true rfl⟩ ?_
  refine zv_run 3 (pc' := 32) (lo' := [some (.ref 0)]) (st' := [.int 6, .ref 0]) (I' := kmi_0) (L' := kml_0) (R' := kmr_3) rfl ?_
  refine zn_newarr (n := 4) (S' := kT 5) (kd := 100) (N := 6) (ty := .int) (zs_at rfl) rfl zq_int (Or.inl ⟨rfl, rfl, rfl⟩) rfl rfl (fun _ => ⟨rfl, rfl, rfl⟩) (by decide) (by decide) (Nat.le_of_ble_eq_true rfl) ⟨Nat.le_of_ble_eq_true rfl, Nat.le_of_ble_eq_true rfl⟩ ?_
  refine zv_run 3 (pc' := 40) (lo' := [some (.ref 0)]) (st' := [.int 6, .ref 0]) (I' := kmi_0) (L' := kml_0) (R' := kmr_4) rfl ?_
  refine zn_newarr (n := 5) (S' := kT 6) (kd := 100) (N := 6) (ty := .int) (zs_at rfl) rfl zq_int (Or.inl ⟨rfl, rfl, rfl⟩) rfl rfl (fun _ => ⟨rfl, rfl, rfl⟩) (by decide) (by decide) (Nat.le_of_ble_eq_true rfl) ⟨Nat.le_of_ble_eq_true rfl, Nat.le_of_ble_eq_true rfl⟩ ?_
  refine zv_run 3 (pc' := 48) (lo' := [some (.ref 0)]) (st' := [.int 12, .ref 0]) (I' := kmi_0) (L' := kml_0) (R' := kmr_5) rfl ?_
  refine zn_newarr (n := 6) (S' := kT 7) (kd := 100) (N := 12) (ty := .int) (zs_at rfl) rfl zq_int (Or.inl ⟨rfl, rfl, rfl⟩) rfl rfl (fun _ => ⟨rfl, rfl, rfl⟩) (by decide) (by decide) (Nat.le_of_ble_eq_true rfl) ⟨Nat.le_of_ble_eq_true rfl, Nat.le_of_ble_eq_true rfl⟩ ?_
  refine zv_run 3 (pc' := 55) (lo' := [some (.ref 0)]) (st' := [.int 2, .ref 0]) (I' := kmi_0) (L' := kml_0) (R' := kmr_6) rfl ?_
  refine zn_newarr (n := 7) (S' := kT 8) (kd := 100) (N := 2) (ty := .int) (zs_at rfl) rfl zq_int (Or.inl ⟨rfl, rfl, rfl⟩) rfl rfl (fun _ => ⟨rfl, rfl, rfl⟩) (by decide) (by decide) (Nat.le_of_ble_eq_true rfl) ⟨Nat.le_of_ble_eq_true rfl, Nat.le_of_ble_eq_true rfl⟩ ?_
  refine zv_run 3 (pc' := 62) (lo' := [some (.ref 0)]) (st' := [.int 2, .ref 0]) (I' := kmi_0) (L' := kml_0) (R' := kmr_7) rfl ?_
  refine zn_newarr (n := 8) (S' := kT 9) (kd := 102) (N := 2) (ty := .long) (zs_at rfl) rfl zq_long (Or.inr (Or.inr ⟨rfl, rfl, rfl⟩)) rfl rfl (fun _ => ⟨rfl, rfl, rfl⟩) (by decide) (by decide) (Nat.le_of_ble_eq_true rfl) ⟨Nat.le_of_ble_eq_true rfl, Nat.le_of_ble_eq_true rfl⟩ ?_
  refine zv_run 3 (pc' := 70) (lo' := [some (.ref 0)]) (st' := [.int 12, .ref 0]) (I' := kmi_0) (L' := kml_0) (R' := kmr_8) rfl ?_
  refine zn_newarr (n := 9) (S' := kT 10) (kd := 100) (N := 12) (ty := .int) (zs_at rfl) rfl zq_int (Or.inl ⟨rfl, rfl, rfl⟩) rfl rfl (fun _ => ⟨rfl, rfl, rfl⟩) (by decide) (by decide) (Nat.le_of_ble_eq_true rfl) ⟨Nat.le_of_ble_eq_true rfl, Nat.le_of_ble_eq_true rfl⟩ ?_
  refine zv_run 3 (pc' := 78) (lo' := [some (.ref 0)]) (st' := [.int 6, .ref 0]) (I' := kmi_0) (L' := kml_0) (R' := kmr_9) rfl ?_
  refine zn_newarr (n := 10) (S' := kT 11) (kd := 100) (N := 6) (ty := .int) (zs_at rfl) rfl zq_int (Or.inl ⟨rfl, rfl, rfl⟩) rfl rfl (fun _ => ⟨rfl, rfl, rfl⟩) (by decide) (by decide) (Nat.le_of_ble_eq_true rfl) ⟨Nat.le_of_ble_eq_true rfl, Nat.le_of_ble_eq_true rfl⟩ ?_
  refine zv_run 3 (pc' := 86) (lo' := [some (.ref 0)]) (st' := [.int 6, .ref 0]) (I' := kmi_0) (L' := kml_0) (R' := kmr_10) rfl ?_
  refine zn_newarr (n := 11) (S' := kT 12) (kd := 100) (N := 6) (ty := .int) (zs_at rfl) rfl zq_int (Or.inl ⟨rfl, rfl, rfl⟩) rfl rfl (fun _ => ⟨rfl, rfl, rfl⟩) (by decide) (by decide) (Nat.le_of_ble_eq_true rfl) ⟨Nat.le_of_ble_eq_true rfl, Nat.le_of_ble_eq_true rfl⟩ ?_
  refine zv_run 3 (pc' := 94) (lo' := [some (.ref 0)]) (st' := [.int 6, .ref 0]) (I' := kmi_0) (L' := kml_0) (R' := kmr_11) rfl ?_
  refine zn_newarr (n := 12) (S' := kT 13) (kd := 100) (N := 6) (ty := .int) (zs_at rfl) rfl zq_int (Or.inl ⟨rfl, rfl, rfl⟩) rfl rfl (fun _ => ⟨rfl, rfl, rfl⟩) (by decide) (by decide) (Nat.le_of_ble_eq_true rfl) ⟨Nat.le_of_ble_eq_true rfl, Nat.le_of_ble_eq_true rfl⟩ ?_
  refine zv_run 3 (pc' := 102) (lo' := [some (.ref 0)]) (st' := [.int 6, .ref 0]) (I' := kmi_0) (L' := kml_0) (R' := kmr_12) rfl ?_
  refine zn_newarr (n := 13) (S' := kT 14) (kd := 100) (N := 6) (ty := .int) (zs_at rfl) rfl zq_int (Or.inl ⟨rfl, rfl, rfl⟩) rfl rfl (fun _ => ⟨rfl, rfl, rfl⟩) (by decide) (by decide) (Nat.le_of_ble_eq_true rfl) ⟨Nat.le_of_ble_eq_true rfl, Nat.le_of_ble_eq_true rfl⟩ ?_
  refine zv_run 3 (pc' := 110) (lo' := [some (.ref 0)]) (st' := [.int 6, .ref 0]) (I' := kmi_0) (L' := kml_0) (R' := kmr_13) rfl ?_
  refine zn_newarr (n := 14) (S' := kT 15) (kd := 100) (N := 6) (ty := .int) (zs_at rfl) rfl zq_int (Or.inl ⟨rfl, rfl, rfl⟩) rfl rfl (fun _ => ⟨rfl, rfl, rfl⟩) (by decide) (by decide) (Nat.le_of_ble_eq_true rfl) ⟨Nat.le_of_ble_eq_true rfl, Nat.le_of_ble_eq_true rfl⟩ ?_
  refine zv_run 3 (pc' := 118) (lo' := [some (.ref 0)]) (st' := [.int 6, .ref 0]) (I' := kmi_0) (L' := kml_0) (R' := kmr_14) rfl ?_
  refine zn_newarr (n := 15) (S' := kT 16) (kd := 100) (N := 6) (ty := .int) (zs_at rfl) rfl zq_int (Or.inl ⟨rfl, rfl, rfl⟩) rfl rfl (fun _ => ⟨rfl, rfl, rfl⟩) (by decide) (by decide) (Nat.le_of_ble_eq_true rfl) ⟨Nat.le_of_ble_eq_true rfl, Nat.le_of_ble_eq_true rfl⟩ ?_
  refine zv_run 3 (pc' := 126) (lo' := [some (.ref 0)]) (st' := [.int 6, .ref 0]) (I' := kmi_0) (L' := kml_0) (R' := kmr_15) rfl ?_
  refine zn_newarr (n := 16) (S' := kT 17) (kd := 100) (N := 6) (ty := .int) (zs_at rfl) rfl zq_int (Or.inl ⟨rfl, rfl, rfl⟩) rfl rfl (fun _ => ⟨rfl, rfl, rfl⟩) (by decide) (by decide) (Nat.le_of_ble_eq_true rfl) ⟨Nat.le_of_ble_eq_true rfl, Nat.le_of_ble_eq_true rfl⟩ ?_
  refine zv_run 3 (pc' := 134) (lo' := [some (.ref 0)]) (st' := [.int 6, .ref 0]) (I' := kmi_0) (L' := kml_0) (R' := kmr_16) rfl ?_
  refine zn_newarr (n := 17) (S' := kT 18) (kd := 100) (N := 6) (ty := .int) (zs_at rfl) rfl zq_int (Or.inl ⟨rfl, rfl, rfl⟩) rfl rfl (fun _ => ⟨rfl, rfl, rfl⟩) (by decide) (by decide) (Nat.le_of_ble_eq_true rfl) ⟨Nat.le_of_ble_eq_true rfl, Nat.le_of_ble_eq_true rfl⟩ ?_
  refine zv_run 3 (pc' := 142) (lo' := [some (.ref 0)]) (st' := [.int 6, .ref 0]) (I' := kmi_0) (L' := kml_0) (R' := kmr_17) rfl ?_
  refine zn_newarr (n := 18) (S' := kT 19) (kd := 100) (N := 6) (ty := .int) (zs_at rfl) rfl zq_int (Or.inl ⟨rfl, rfl, rfl⟩) rfl rfl (fun _ => ⟨rfl, rfl, rfl⟩) (by decide) (by decide) (Nat.le_of_ble_eq_true rfl) ⟨Nat.le_of_ble_eq_true rfl, Nat.le_of_ble_eq_true rfl⟩ ?_
  refine zv_run 3 (pc' := 150) (lo' := [some (.ref 0)]) (st' := [.int 6, .ref 0]) (I' := kmi_0) (L' := kml_0) (R' := kmr_18) rfl ?_
  refine zn_newarr (n := 19) (S' := zw_SM) (kd := 100) (N := 6) (ty := .int) (zs_at rfl) rfl zq_int (Or.inl ⟨rfl, rfl, rfl⟩) rfl rfl (fun _ => ⟨rfl, rfl, rfl⟩) (by decide) (by decide) (Nat.le_of_ble_eq_true rfl) ⟨Nat.le_of_ble_eq_true rfl, Nat.le_of_ble_eq_true rfl⟩ ?_
  refine zv_run 1 (pc' := 155) (lo' := [some (.ref 0)]) (st' := []) (I' := kmi_0) (L' := kml_0) (R' := kmr_19) rfl ?_
  refine km_R ?_
  refine zv_run 2 (pc' := 159) (lo' := [some (.ref 0)]) (st' := [.ref 2]) (I' := kmi_0) (L' := kml_0) (R' := zw_RM) rfl ?_
  refine zv_cS (M' := mm_X10_firstHouse) (av := [.ref 2]) (st := []) (r := none) (I' := J1) (L' := kml_0) (R' := zw_RM) rfl zc_10_68 gd_X10_firstHouse rfl (Nat.le_of_ble_eq_true rfl) (mt_firstHouse (d := _) e1) ⟨Nat.le_of_ble_eq_true rfl, Nat.le_of_ble_eq_true rfl⟩ ?_
  refine zv_run 1 (pc' := 163) (lo' := [some (.ref 0)]) (st' := [.ref 0]) (I' := J1) (L' := kml_0) (R' := zw_RM) rfl ?_
  refine zv_cV (M' := mm_X10_layDown) (ci := 10) (a := 0) (av := []) (st := []) (r := none) (I' := J) (L' := M) (R' := zw_RM) rfl zc_10_72 gd_X10_layDown rfl rfl rfl (Nat.le_of_ble_eq_true rfl) (mt_layDown (d := _) (p := (J, M)) e2) ⟨Nat.le_of_ble_eq_true rfl, Nat.le_of_ble_eq_true rfl⟩ ?_
  refine zv_run 0 (pc' := 166) (lo' := [some (.ref 0)]) (st' := []) (I' := J) (L' := M) (R' := zw_RM) rfl ?_
  exact zv_vret (zs_at rfl) rfl ⟨Nat.le_of_ble_eq_true rfl, Nat.le_of_ble_eq_true rfl⟩ zw_here
