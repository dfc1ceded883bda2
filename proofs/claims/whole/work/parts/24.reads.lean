/-! an item taken; the text read; fault and lay -/
def tk_b (o : Option zx_I) : Int32 := match o with
  | none => 0
  | some _ => 1
theorem tk_b01 (o : Option zx_I) : tk_b o = 0 ∨ tk_b o = 1 := by
  cases o
  · exact Or.inl rfl
  · exact Or.inr rfl
noncomputable def tk_if (p : Prop) (J : zx_I) : Option zx_I := @ite _ p (Classical.propDecidable p) (some J) none
theorem tk_if_t {p : Prop} {J : zx_I} (h : p) : tk_if p J = some J := by unfold tk_if; exact if_pos h
theorem tk_if_f {p : Prop} {J : zx_I} (h : ¬ p) : tk_if p J = none := by unfold tk_if; exact if_neg h
noncomputable def tk_pair (I : zx_I) (a : Nat) : Option zx_I := match fh_who I a (fi_num I 0), fh_who I a (fi_num I 1) with
  | some w, some v => tk_if (¬ fi_pair I (I a 13) = 0) (tm_pair I w v)
  | _, _ => none
noncomputable def fh_takes (I : zx_I) (a : Nat) : Option zx_I :=
  if I a 0 = (if I 2 1 = 116 then 1 else 0) then none
  else if I 2 1 = 116 then tk_if (ti_tank I) (tm_tank I a)
  else if I 2 1 = 102 then tk_if (ti_stage I) (tm_stage I a)
  else if I 2 1 = 98 then tk_if (ti_bather I a) (tm_bather I a (I a 13).toInt.toNat)
  else if I 2 1 = 97 ∨ I 2 1 = 115 then tk_pair I a
  else if I 2 1 = 107 then tk_if (ti_kettle I) (tm_kettle I a)
  else tk_if (¬ ti_num I = 0) (tm_num I a)
theorem ct3_X5_takesTank {d : Nat} {I : zx_I} {L : zx_L} {h sp : Nat} {la : Option Nat} {a : Nat} (ha : a = 4 ∨ a = 14)  : zx_M0 mm_X5_takesTank (d + 2) 0 0 [.ref a, .ref 2] zw_SC I L (zw_RC h sp la) (zw_ret (some (.int (tk_b (tk_if (ti_tank I) (tm_tank I a))))) zw_SC ((tk_if (ti_tank I) (tm_tank I a)).getD I) L (zw_RC h sp la)) := by
  by_cases hp : (ti_tank I)
  · rw [tk_if_t hp]
    exact ct_X5_takesTank ha hp
  · rw [tk_if_f hp]
    exact ct_X5_takesTank_no ha hp
theorem ct3_X5_takesStage {d : Nat} {I : zx_I} {L : zx_L} {h sp : Nat} {la : Option Nat} {a : Nat} (ha : a = 4 ∨ a = 14)  : zx_M0 mm_X5_takesStage (d + 2) 0 0 [.ref a, .ref 2] zw_SC I L (zw_RC h sp la) (zw_ret (some (.int (tk_b (tk_if (ti_stage I) (tm_stage I a))))) zw_SC ((tk_if (ti_stage I) (tm_stage I a)).getD I) L (zw_RC h sp la)) := by
  by_cases hp : (ti_stage I)
  · rw [tk_if_t hp]
    exact ct_X5_takesStage ha hp
  · rw [tk_if_f hp]
    exact ct_X5_takesStage_no ha hp
theorem ct3_X5_takesKettle {d : Nat} {I : zx_I} {L : zx_L} {h sp : Nat} {la : Option Nat} {a : Nat} (ha : a = 4 ∨ a = 14)  : zx_M0 mm_X5_takesKettle (d + 2) 0 0 [.ref a, .ref 2] zw_SC I L (zw_RC h sp la) (zw_ret (some (.int (tk_b (tk_if (ti_kettle I) (tm_kettle I a))))) zw_SC ((tk_if (ti_kettle I) (tm_kettle I a)).getD I) L (zw_RC h sp la)) := by
  by_cases hp : (ti_kettle I)
  · rw [tk_if_t hp]
    exact ct_X5_takesKettle ha hp
  · rw [tk_if_f hp]
    exact ct_X5_takesKettle_no ha hp
theorem ct3_X5_takesNumber {d : Nat} {I : zx_I} {L : zx_L} {h sp : Nat} {la : Option Nat} {a : Nat} (ha : a = 4 ∨ a = 14)  : zx_M0 mm_X5_takesNumber (d + 3) 0 0 [.ref a, .ref 2] zw_SC I L (zw_RC h sp la) (zw_ret (some (.int (tk_b (tk_if (¬ ti_num I = 0) (tm_num I a))))) zw_SC ((tk_if (¬ ti_num I = 0) (tm_num I a)).getD I) L (zw_RC h sp la)) := by
  by_cases hp : (¬ ti_num I = 0)
  · rw [tk_if_t hp]
    exact ct_X5_takesNumber ha hp
  · rw [tk_if_f hp]
    exact ct_X5_takesNumber_no ha (Decidable.not_not.mp hp)
theorem ct3_X5_takesBather {d : Nat} {I : zx_I} {L : zx_L} {h sp : Nat} {la : Option Nat} {a : Nat} (ha : a = 4 ∨ a = 14) (hc : hs_ct I a) : zx_M0 mm_X5_takesBather (d + 2) 0 0 [.ref a, .ref 2] zw_SC I L (zw_RC h sp la) (zw_ret (some (.int (tk_b (tk_if (ti_bather I a) (tm_bather I a (I a 13).toInt.toNat))))) zw_SC ((tk_if (ti_bather I a) (tm_bather I a (I a 13).toInt.toNat)).getD I) L (zw_RC h sp la)) := by
  obtain ⟨m, hm6, hm, hmt⟩ := hs_c hc.1 hc.2
  by_cases hp : ti_bather I a
  · rw [tk_if_t hp, hmt]
    have h6 : m < 6 := by
      rcases Nat.lt_or_ge m 6 with q | q
      · exact q
      · exact absurd (by rw [hm, show m = 6 by omega]; decide) hp.1
    rcases ha with rfl | rfl
    · exact ct_X5_takesBather_4 h6 hm hp
    · exact ct_X5_takesBather_14 h6 hm hp
  · rw [tk_if_f hp]
    exact ct_X5_takesBather_no ha hp
theorem ct3_X5_takesPair {d : Nat} {I : zx_I} {L : zx_L} {h sp : Nat} {la : Option Nat} {a : Nat} (ha : a = 4 ∨ a = 14)  : zx_M0 mm_X5_takesPair (d + 3) 0 0 [.ref a, .ref 2] zw_SC I L (zw_RC h sp la) (zw_ret (some (.int (tk_b (tk_pair I a)))) zw_SC ((tk_pair I a).getD I) L (zw_RC h sp la)) := by
  by_cases hp : ti_pair I a
  · obtain ⟨h1, h2, h3⟩ := hp
    rcases hw : fh_who I a (fi_num I 0) with _ | w
    · exact absurd hw h1
    · rcases hv : fh_who I a (fi_num I 1) with _ | v
      · exact absurd hv h2
      · rw [show tk_pair I a = some (tm_pair I w v) from by unfold tk_pair; rw [hw, hv]; exact tk_if_t h3]
        rcases ha with rfl | rfl
        · exact ct_X5_takesPair_4 hw hv h3
        · exact ct_X5_takesPair_14 hw hv h3
  · rw [show tk_pair I a = none from by
      unfold tk_pair
      split
      · rename_i w v hw hv
        exact tk_if_f (fun q => hp ⟨by rw [hw]; exact fun q => (by cases q), by rw [hv]; exact fun q => (by cases q), q⟩)
      · rfl]
    rcases ha with rfl | rfl
    · exact ct_X5_takesPair_no_4 hp
    · exact ct_X5_takesPair_no_14 hp
theorem nI_is {x : Int32} {k : Nat} (h : x.toInt = k) (hk : k < 2 ^ 31) : x = nI k := Int32.toInt_inj.mp (by rw [h, nI_toInt hk])
theorem ct_X5_takes_4 {d : Nat} {I : zx_I} {L : zx_L} {h sp : Nat} {la : Option Nat} (hc : hs_ct I 4) : zx_M0 mm_X5_takes (d + 4) 0 0 [.ref 4, .ref 2] zw_SC I L (zw_RC h sp la) (zw_ret (some (.int (tk_b (fh_takes I 4)))) zw_SC ((fh_takes I 4).getD I) L (zw_RC h sp la)) := by
  refine zv_entry gd_X5_takes (Nat.le_of_ble_eq_true rfl) ?_
  refine zv_run 5 (pc' := 10) (lo' := [some (.ref 4), some (.ref 2)]) (st' := [.int 116, .int (I 2 1), .int (I 4 0)]) (I' := I) (L' := L) (R' := zw_RC h sp la) rfl ?_
  refine zv_icmp_ne (tgt := 17) (zs_at rfl) (by decide) (fun c10 => ?_) (fun c10 => ?_)
  · have _c := c10
    refine zv_run 1 (pc' := 18) (lo' := [some (.ref 4), some (.ref 2)]) (st' := [.int 0, .int (I 4 0)]) (I' := I) (L' := L) (R' := zw_RC h sp la) rfl ?_
    refine zv_icmp_ne (tgt := 23) (zs_at rfl) (by decide) (fun c18 => ?_) (fun c18 => ?_)
    · have _c := c18
      have hE : ¬ I 4 0 = (if I 2 1 = 116 then 1 else 0) := by rw [if_neg c10]; exact c18
      refine zv_run 2 (pc' := 27) (lo' := [some (.ref 4), some (.ref 2)]) (st' := [.int (I 2 1)]) (I' := I) (L' := L) (R' := zw_RC h sp la) rfl ?_
      by_cases t27 : (I 2 1).toInt < 97 ∨ 116 < (I 2 1).toInt
      · refine zv_tableOut (tgt := 150) (zs_at rfl) t27 rfl ?_
        refine zv_run 2 (pc' := 152) (lo' := [some (.ref 4), some (.ref 2)]) (st' := [.ref 2, .ref 4]) (I' := I) (L' := L) (R' := zw_RC h sp la) rfl ?_
        refine zv_cV (M' := mm_X5_takesNumber) (ci := 5) (a := 4) (av := [.ref 2]) (st := []) (r := some (.int (tk_b (tk_if (¬ ti_num I = 0) (tm_num I 4))))) (I' := ((tk_if (¬ ti_num I = 0) (tm_num I 4)).getD I)) (L' := L) (R' := zw_RC h sp la) rfl zc_5_111 gd_X5_takesNumber rfl rfl rfl (Nat.le_of_ble_eq_true rfl) (ct3_X5_takesNumber (d := _) (Or.inl rfl)) ⟨Nat.le_refl _, Nat.le_refl _⟩ ?_
        refine zv_run 0 (pc' := 155) (lo' := [some (.ref 4), some (.ref 2)]) (st' := [.int (tk_b (tk_if (¬ ti_num I = 0) (tm_num I 4)))]) (I' := ((tk_if (¬ ti_num I = 0) (tm_num I 4)).getD I)) (L' := L) (R' := zw_RC h sp la) rfl ?_
        exact zv_zret (zs_at rfl) rfl (tk_b01 _) ⟨Nat.le_refl _, Nat.le_refl _⟩ (by have e1 : fh_takes I 4 = tk_if (¬ ti_num I = 0) (tm_num I 4) := (by unfold fh_takes; rw [if_neg hE, if_neg (fun q => by rw [q] at t27; revert t27; decide), if_neg (fun q => by rw [q] at t27; revert t27; decide), if_neg (fun q => by rw [q] at t27; revert t27; decide), if_neg (fun q => by rcases q with q | q <;> (rw [q] at t27; revert t27; decide)), if_neg (fun q => by rw [q] at t27; revert t27; decide)]); exact zw_to (by rw [e1]) (by rw [e1]) rfl rfl)
      · rcases (show (I 2 1).toInt = 97 ∨ (I 2 1).toInt = 98 ∨ (I 2 1).toInt = 99 ∨ (I 2 1).toInt = 100 ∨ (I 2 1).toInt = 101 ∨ (I 2 1).toInt = 102 ∨ (I 2 1).toInt = 103 ∨ (I 2 1).toInt = 104 ∨ (I 2 1).toInt = 105 ∨ (I 2 1).toInt = 106 ∨ (I 2 1).toInt = 107 ∨ (I 2 1).toInt = 108 ∨ (I 2 1).toInt = 109 ∨ (I 2 1).toInt = 110 ∨ (I 2 1).toInt = 111 ∨ (I 2 1).toInt = 112 ∨ (I 2 1).toInt = 113 ∨ (I 2 1).toInt = 114 ∨ (I 2 1).toInt = 115 ∨ (I 2 1).toInt = 116 from by omega) with t27e | t27e | t27e | t27e | t27e | t27e | t27e | t27e | t27e | t27e | t27e | t27e | t27e | t27e | t27e | t27e | t27e | t27e | t27e | t27e
        · refine zv_tableIn (off := 111) (tgt := 138) (zs_at rfl) (by omega) (by omega) (by rw [t27e]; rfl) rfl ?_
          refine zv_run 2 (pc' := 140) (lo' := [some (.ref 4), some (.ref 2)]) (st' := [.ref 2, .ref 4]) (I' := I) (L' := L) (R' := zw_RC h sp la) rfl ?_
          refine zv_cV (M' := mm_X5_takesPair) (ci := 5) (a := 4) (av := [.ref 2]) (st := []) (r := some (.int (tk_b (tk_pair I 4)))) (I' := ((tk_pair I 4).getD I)) (L' := L) (R' := zw_RC h sp la) rfl zc_5_105 gd_X5_takesPair rfl rfl rfl (Nat.le_of_ble_eq_true rfl) (ct3_X5_takesPair (d := _) (Or.inl rfl)) ⟨Nat.le_refl _, Nat.le_refl _⟩ ?_
          refine zv_run 0 (pc' := 143) (lo' := [some (.ref 4), some (.ref 2)]) (st' := [.int (tk_b (tk_pair I 4))]) (I' := ((tk_pair I 4).getD I)) (L' := L) (R' := zw_RC h sp la) rfl ?_
          exact zv_zret (zs_at rfl) rfl (tk_b01 _) ⟨Nat.le_refl _, Nat.le_refl _⟩ (by have e1 : fh_takes I 4 = tk_pair I 4 := (by unfold fh_takes; rw [if_neg hE, show I 2 1 = 97 from nI_is (k := 97) (by omega) (by decide)]; try rfl); exact zw_to (by rw [e1]) (by rw [e1]) rfl rfl)
        · refine zv_tableIn (off := 105) (tgt := 132) (zs_at rfl) (by omega) (by omega) (by rw [t27e]; rfl) rfl ?_
          refine zv_run 2 (pc' := 134) (lo' := [some (.ref 4), some (.ref 2)]) (st' := [.ref 2, .ref 4]) (I' := I) (L' := L) (R' := zw_RC h sp la) rfl ?_
          refine zv_cV (M' := mm_X5_takesBather) (ci := 5) (a := 4) (av := [.ref 2]) (st := []) (r := some (.int (tk_b (tk_if (ti_bather I 4) (tm_bather I 4 (I 4 13).toInt.toNat))))) (I' := ((tk_if (ti_bather I 4) (tm_bather I 4 (I 4 13).toInt.toNat)).getD I)) (L' := L) (R' := zw_RC h sp la) rfl zc_5_102 gd_X5_takesBather rfl rfl rfl (Nat.le_of_ble_eq_true rfl) (ct3_X5_takesBather (d := _) (Or.inl rfl) hc) ⟨Nat.le_refl _, Nat.le_refl _⟩ ?_
          refine zv_run 0 (pc' := 137) (lo' := [some (.ref 4), some (.ref 2)]) (st' := [.int (tk_b (tk_if (ti_bather I 4) (tm_bather I 4 (I 4 13).toInt.toNat)))]) (I' := ((tk_if (ti_bather I 4) (tm_bather I 4 (I 4 13).toInt.toNat)).getD I)) (L' := L) (R' := zw_RC h sp la) rfl ?_
          exact zv_zret (zs_at rfl) rfl (tk_b01 _) ⟨Nat.le_refl _, Nat.le_refl _⟩ (by have e1 : fh_takes I 4 = tk_if (ti_bather I 4) (tm_bather I 4 (I 4 13).toInt.toNat) := (by unfold fh_takes; rw [if_neg hE, show I 2 1 = 98 from nI_is (k := 98) (by omega) (by decide)]; try rfl); exact zw_to (by rw [e1]) (by rw [e1]) rfl rfl)
        · refine zv_tableIn (off := 123) (tgt := 150) (zs_at rfl) (by omega) (by omega) (by rw [t27e]; rfl) rfl ?_
          refine zv_run 2 (pc' := 152) (lo' := [some (.ref 4), some (.ref 2)]) (st' := [.ref 2, .ref 4]) (I' := I) (L' := L) (R' := zw_RC h sp la) rfl ?_
          refine zv_cV (M' := mm_X5_takesNumber) (ci := 5) (a := 4) (av := [.ref 2]) (st := []) (r := some (.int (tk_b (tk_if (¬ ti_num I = 0) (tm_num I 4))))) (I' := ((tk_if (¬ ti_num I = 0) (tm_num I 4)).getD I)) (L' := L) (R' := zw_RC h sp la) rfl zc_5_111 gd_X5_takesNumber rfl rfl rfl (Nat.le_of_ble_eq_true rfl) (ct3_X5_takesNumber (d := _) (Or.inl rfl)) ⟨Nat.le_refl _, Nat.le_refl _⟩ ?_
          refine zv_run 0 (pc' := 155) (lo' := [some (.ref 4), some (.ref 2)]) (st' := [.int (tk_b (tk_if (¬ ti_num I = 0) (tm_num I 4)))]) (I' := ((tk_if (¬ ti_num I = 0) (tm_num I 4)).getD I)) (L' := L) (R' := zw_RC h sp la) rfl ?_
          exact zv_zret (zs_at rfl) rfl (tk_b01 _) ⟨Nat.le_refl _, Nat.le_refl _⟩ (by have e1 : fh_takes I 4 = tk_if (¬ ti_num I = 0) (tm_num I 4) := (by unfold fh_takes; rw [if_neg hE, show I 2 1 = 99 from nI_is (k := 99) (by omega) (by decide)]; try rfl); exact zw_to (by rw [e1]) (by rw [e1]) rfl rfl)
        · refine zv_tableIn (off := 123) (tgt := 150) (zs_at rfl) (by omega) (by omega) (by rw [t27e]; rfl) rfl ?_
          refine zv_run 2 (pc' := 152) (lo' := [some (.ref 4), some (.ref 2)]) (st' := [.ref 2, .ref 4]) (I' := I) (L' := L) (R' := zw_RC h sp la) rfl ?_
          refine zv_cV (M' := mm_X5_takesNumber) (ci := 5) (a := 4) (av := [.ref 2]) (st := []) (r := some (.int (tk_b (tk_if (¬ ti_num I = 0) (tm_num I 4))))) (I' := ((tk_if (¬ ti_num I = 0) (tm_num I 4)).getD I)) (L' := L) (R' := zw_RC h sp la) rfl zc_5_111 gd_X5_takesNumber rfl rfl rfl (Nat.le_of_ble_eq_true rfl) (ct3_X5_takesNumber (d := _) (Or.inl rfl)) ⟨Nat.le_refl _, Nat.le_refl _⟩ ?_
          refine zv_run 0 (pc' := 155) (lo' := [some (.ref 4), some (.ref 2)]) (st' := [.int (tk_b (tk_if (¬ ti_num I = 0) (tm_num I 4)))]) (I' := ((tk_if (¬ ti_num I = 0) (tm_num I 4)).getD I)) (L' := L) (R' := zw_RC h sp la) rfl ?_
          exact zv_zret (zs_at rfl) rfl (tk_b01 _) ⟨Nat.le_refl _, Nat.le_refl _⟩ (by have e1 : fh_takes I 4 = tk_if (¬ ti_num I = 0) (tm_num I 4) := (by unfold fh_takes; rw [if_neg hE, show I 2 1 = 100 from nI_is (k := 100) (by omega) (by decide)]; try rfl); exact zw_to (by rw [e1]) (by rw [e1]) rfl rfl)
        · refine zv_tableIn (off := 123) (tgt := 150) (zs_at rfl) (by omega) (by omega) (by rw [t27e]; rfl) rfl ?_
          refine zv_run 2 (pc' := 152) (lo' := [some (.ref 4), some (.ref 2)]) (st' := [.ref 2, .ref 4]) (I' := I) (L' := L) (R' := zw_RC h sp la) rfl ?_
          refine zv_cV (M' := mm_X5_takesNumber) (ci := 5) (a := 4) (av := [.ref 2]) (st := []) (r := some (.int (tk_b (tk_if (¬ ti_num I = 0) (tm_num I 4))))) (I' := ((tk_if (¬ ti_num I = 0) (tm_num I 4)).getD I)) (L' := L) (R' := zw_RC h sp la) rfl zc_5_111 gd_X5_takesNumber rfl rfl rfl (Nat.le_of_ble_eq_true rfl) (ct3_X5_takesNumber (d := _) (Or.inl rfl)) ⟨Nat.le_refl _, Nat.le_refl _⟩ ?_
          refine zv_run 0 (pc' := 155) (lo' := [some (.ref 4), some (.ref 2)]) (st' := [.int (tk_b (tk_if (¬ ti_num I = 0) (tm_num I 4)))]) (I' := ((tk_if (¬ ti_num I = 0) (tm_num I 4)).getD I)) (L' := L) (R' := zw_RC h sp la) rfl ?_
          exact zv_zret (zs_at rfl) rfl (tk_b01 _) ⟨Nat.le_refl _, Nat.le_refl _⟩ (by have e1 : fh_takes I 4 = tk_if (¬ ti_num I = 0) (tm_num I 4) := (by unfold fh_takes; rw [if_neg hE, show I 2 1 = 101 from nI_is (k := 101) (by omega) (by decide)]; try rfl); exact zw_to (by rw [e1]) (by rw [e1]) rfl rfl)
        · refine zv_tableIn (off := 99) (tgt := 126) (zs_at rfl) (by omega) (by omega) (by rw [t27e]; rfl) rfl ?_
          refine zv_run 2 (pc' := 128) (lo' := [some (.ref 4), some (.ref 2)]) (st' := [.ref 2, .ref 4]) (I' := I) (L' := L) (R' := zw_RC h sp la) rfl ?_
          refine zv_cV (M' := mm_X5_takesStage) (ci := 5) (a := 4) (av := [.ref 2]) (st := []) (r := some (.int (tk_b (tk_if (ti_stage I) (tm_stage I 4))))) (I' := ((tk_if (ti_stage I) (tm_stage I 4)).getD I)) (L' := L) (R' := zw_RC h sp la) rfl zc_5_99 gd_X5_takesStage rfl rfl rfl (Nat.le_of_ble_eq_true rfl) (ct3_X5_takesStage (d := _) (Or.inl rfl)) ⟨Nat.le_refl _, Nat.le_refl _⟩ ?_
          refine zv_run 0 (pc' := 131) (lo' := [some (.ref 4), some (.ref 2)]) (st' := [.int (tk_b (tk_if (ti_stage I) (tm_stage I 4)))]) (I' := ((tk_if (ti_stage I) (tm_stage I 4)).getD I)) (L' := L) (R' := zw_RC h sp la) rfl ?_
          exact zv_zret (zs_at rfl) rfl (tk_b01 _) ⟨Nat.le_refl _, Nat.le_refl _⟩ (by have e1 : fh_takes I 4 = tk_if (ti_stage I) (tm_stage I 4) := (by unfold fh_takes; rw [if_neg hE, show I 2 1 = 102 from nI_is (k := 102) (by omega) (by decide)]; try rfl); exact zw_to (by rw [e1]) (by rw [e1]) rfl rfl)
        · refine zv_tableIn (off := 123) (tgt := 150) (zs_at rfl) (by omega) (by omega) (by rw [t27e]; rfl) rfl ?_
          refine zv_run 2 (pc' := 152) (lo' := [some (.ref 4), some (.ref 2)]) (st' := [.ref 2, .ref 4]) (I' := I) (L' := L) (R' := zw_RC h sp la) rfl ?_
          refine zv_cV (M' := mm_X5_takesNumber) (ci := 5) (a := 4) (av := [.ref 2]) (st := []) (r := some (.int (tk_b (tk_if (¬ ti_num I = 0) (tm_num I 4))))) (I' := ((tk_if (¬ ti_num I = 0) (tm_num I 4)).getD I)) (L' := L) (R' := zw_RC h sp la) rfl zc_5_111 gd_X5_takesNumber rfl rfl rfl (Nat.le_of_ble_eq_true rfl) (ct3_X5_takesNumber (d := _) (Or.inl rfl)) ⟨Nat.le_refl _, Nat.le_refl _⟩ ?_
          refine zv_run 0 (pc' := 155) (lo' := [some (.ref 4), some (.ref 2)]) (st' := [.int (tk_b (tk_if (¬ ti_num I = 0) (tm_num I 4)))]) (I' := ((tk_if (¬ ti_num I = 0) (tm_num I 4)).getD I)) (L' := L) (R' := zw_RC h sp la) rfl ?_
          exact zv_zret (zs_at rfl) rfl (tk_b01 _) ⟨Nat.le_refl _, Nat.le_refl _⟩ (by have e1 : fh_takes I 4 = tk_if (¬ ti_num I = 0) (tm_num I 4) := (by unfold fh_takes; rw [if_neg hE, show I 2 1 = 103 from nI_is (k := 103) (by omega) (by decide)]; try rfl); exact zw_to (by rw [e1]) (by rw [e1]) rfl rfl)
        · refine zv_tableIn (off := 123) (tgt := 150) (zs_at rfl) (by omega) (by omega) (by rw [t27e]; rfl) rfl ?_
          refine zv_run 2 (pc' := 152) (lo' := [some (.ref 4), some (.ref 2)]) (st' := [.ref 2, .ref 4]) (I' := I) (L' := L) (R' := zw_RC h sp la) rfl ?_
          refine zv_cV (M' := mm_X5_takesNumber) (ci := 5) (a := 4) (av := [.ref 2]) (st := []) (r := some (.int (tk_b (tk_if (¬ ti_num I = 0) (tm_num I 4))))) (I' := ((tk_if (¬ ti_num I = 0) (tm_num I 4)).getD I)) (L' := L) (R' := zw_RC h sp la) rfl zc_5_111 gd_X5_takesNumber rfl rfl rfl (Nat.le_of_ble_eq_true rfl) (ct3_X5_takesNumber (d := _) (Or.inl rfl)) ⟨Nat.le_refl _, Nat.le_refl _⟩ ?_
          refine zv_run 0 (pc' := 155) (lo' := [some (.ref 4), some (.ref 2)]) (st' := [.int (tk_b (tk_if (¬ ti_num I = 0) (tm_num I 4)))]) (I' := ((tk_if (¬ ti_num I = 0) (tm_num I 4)).getD I)) (L' := L) (R' := zw_RC h sp la) rfl ?_
          exact zv_zret (zs_at rfl) rfl (tk_b01 _) ⟨Nat.le_refl _, Nat.le_refl _⟩ (by have e1 : fh_takes I 4 = tk_if (¬ ti_num I = 0) (tm_num I 4) := (by unfold fh_takes; rw [if_neg hE, show I 2 1 = 104 from nI_is (k := 104) (by omega) (by decide)]; try rfl); exact zw_to (by rw [e1]) (by rw [e1]) rfl rfl)
        · refine zv_tableIn (off := 123) (tgt := 150) (zs_at rfl) (by omega) (by omega) (by rw [t27e]; rfl) rfl ?_
          refine zv_run 2 (pc' := 152) (lo' := [some (.ref 4), some (.ref 2)]) (st' := [.ref 2, .ref 4]) (I' := I) (L' := L) (R' := zw_RC h sp la) rfl ?_
          refine zv_cV (M' := mm_X5_takesNumber) (ci := 5) (a := 4) (av := [.ref 2]) (st := []) (r := some (.int (tk_b (tk_if (¬ ti_num I = 0) (tm_num I 4))))) (I' := ((tk_if (¬ ti_num I = 0) (tm_num I 4)).getD I)) (L' := L) (R' := zw_RC h sp la) rfl zc_5_111 gd_X5_takesNumber rfl rfl rfl (Nat.le_of_ble_eq_true rfl) (ct3_X5_takesNumber (d := _) (Or.inl rfl)) ⟨Nat.le_refl _, Nat.le_refl _⟩ ?_
          refine zv_run 0 (pc' := 155) (lo' := [some (.ref 4), some (.ref 2)]) (st' := [.int (tk_b (tk_if (¬ ti_num I = 0) (tm_num I 4)))]) (I' := ((tk_if (¬ ti_num I = 0) (tm_num I 4)).getD I)) (L' := L) (R' := zw_RC h sp la) rfl ?_
          exact zv_zret (zs_at rfl) rfl (tk_b01 _) ⟨Nat.le_refl _, Nat.le_refl _⟩ (by have e1 : fh_takes I 4 = tk_if (¬ ti_num I = 0) (tm_num I 4) := (by unfold fh_takes; rw [if_neg hE, show I 2 1 = 105 from nI_is (k := 105) (by omega) (by decide)]; try rfl); exact zw_to (by rw [e1]) (by rw [e1]) rfl rfl)
        · refine zv_tableIn (off := 123) (tgt := 150) (zs_at rfl) (by omega) (by omega) (by rw [t27e]; rfl) rfl ?_
          refine zv_run 2 (pc' := 152) (lo' := [some (.ref 4), some (.ref 2)]) (st' := [.ref 2, .ref 4]) (I' := I) (L' := L) (R' := zw_RC h sp la) rfl ?_
          refine zv_cV (M' := mm_X5_takesNumber) (ci := 5) (a := 4) (av := [.ref 2]) (st := []) (r := some (.int (tk_b (tk_if (¬ ti_num I = 0) (tm_num I 4))))) (I' := ((tk_if (¬ ti_num I = 0) (tm_num I 4)).getD I)) (L' := L) (R' := zw_RC h sp la) rfl zc_5_111 gd_X5_takesNumber rfl rfl rfl (Nat.le_of_ble_eq_true rfl) (ct3_X5_takesNumber (d := _) (Or.inl rfl)) ⟨Nat.le_refl _, Nat.le_refl _⟩ ?_
          refine zv_run 0 (pc' := 155) (lo' := [some (.ref 4), some (.ref 2)]) (st' := [.int (tk_b (tk_if (¬ ti_num I = 0) (tm_num I 4)))]) (I' := ((tk_if (¬ ti_num I = 0) (tm_num I 4)).getD I)) (L' := L) (R' := zw_RC h sp la) rfl ?_
          exact zv_zret (zs_at rfl) rfl (tk_b01 _) ⟨Nat.le_refl _, Nat.le_refl _⟩ (by have e1 : fh_takes I 4 = tk_if (¬ ti_num I = 0) (tm_num I 4) := (by unfold fh_takes; rw [if_neg hE, show I 2 1 = 106 from nI_is (k := 106) (by omega) (by decide)]; try rfl); exact zw_to (by rw [e1]) (by rw [e1]) rfl rfl)
        · refine zv_tableIn (off := 117) (tgt := 144) (zs_at rfl) (by omega) (by omega) (by rw [t27e]; rfl) rfl ?_
          refine zv_run 2 (pc' := 146) (lo' := [some (.ref 4), some (.ref 2)]) (st' := [.ref 2, .ref 4]) (I' := I) (L' := L) (R' := zw_RC h sp la) rfl ?_
          refine zv_cV (M' := mm_X5_takesKettle) (ci := 5) (a := 4) (av := [.ref 2]) (st := []) (r := some (.int (tk_b (tk_if (ti_kettle I) (tm_kettle I 4))))) (I' := ((tk_if (ti_kettle I) (tm_kettle I 4)).getD I)) (L' := L) (R' := zw_RC h sp la) rfl zc_5_108 gd_X5_takesKettle rfl rfl rfl (Nat.le_of_ble_eq_true rfl) (ct3_X5_takesKettle (d := _) (Or.inl rfl)) ⟨Nat.le_refl _, Nat.le_refl _⟩ ?_
          refine zv_run 0 (pc' := 149) (lo' := [some (.ref 4), some (.ref 2)]) (st' := [.int (tk_b (tk_if (ti_kettle I) (tm_kettle I 4)))]) (I' := ((tk_if (ti_kettle I) (tm_kettle I 4)).getD I)) (L' := L) (R' := zw_RC h sp la) rfl ?_
          exact zv_zret (zs_at rfl) rfl (tk_b01 _) ⟨Nat.le_refl _, Nat.le_refl _⟩ (by have e1 : fh_takes I 4 = tk_if (ti_kettle I) (tm_kettle I 4) := (by unfold fh_takes; rw [if_neg hE, show I 2 1 = 107 from nI_is (k := 107) (by omega) (by decide)]; try rfl); exact zw_to (by rw [e1]) (by rw [e1]) rfl rfl)
        · refine zv_tableIn (off := 123) (tgt := 150) (zs_at rfl) (by omega) (by omega) (by rw [t27e]; rfl) rfl ?_
          refine zv_run 2 (pc' := 152) (lo' := [some (.ref 4), some (.ref 2)]) (st' := [.ref 2, .ref 4]) (I' := I) (L' := L) (R' := zw_RC h sp la) rfl ?_
          refine zv_cV (M' := mm_X5_takesNumber) (ci := 5) (a := 4) (av := [.ref 2]) (st := []) (r := some (.int (tk_b (tk_if (¬ ti_num I = 0) (tm_num I 4))))) (I' := ((tk_if (¬ ti_num I = 0) (tm_num I 4)).getD I)) (L' := L) (R' := zw_RC h sp la) rfl zc_5_111 gd_X5_takesNumber rfl rfl rfl (Nat.le_of_ble_eq_true rfl) (ct3_X5_takesNumber (d := _) (Or.inl rfl)) ⟨Nat.le_refl _, Nat.le_refl _⟩ ?_
          refine zv_run 0 (pc' := 155) (lo' := [some (.ref 4), some (.ref 2)]) (st' := [.int (tk_b (tk_if (¬ ti_num I = 0) (tm_num I 4)))]) (I' := ((tk_if (¬ ti_num I = 0) (tm_num I 4)).getD I)) (L' := L) (R' := zw_RC h sp la) rfl ?_
          exact zv_zret (zs_at rfl) rfl (tk_b01 _) ⟨Nat.le_refl _, Nat.le_refl _⟩ (by have e1 : fh_takes I 4 = tk_if (¬ ti_num I = 0) (tm_num I 4) := (by unfold fh_takes; rw [if_neg hE, show I 2 1 = 108 from nI_is (k := 108) (by omega) (by decide)]; try rfl); exact zw_to (by rw [e1]) (by rw [e1]) rfl rfl)
        · refine zv_tableIn (off := 123) (tgt := 150) (zs_at rfl) (by omega) (by omega) (by rw [t27e]; rfl) rfl ?_
          refine zv_run 2 (pc' := 152) (lo' := [some (.ref 4), some (.ref 2)]) (st' := [.ref 2, .ref 4]) (I' := I) (L' := L) (R' := zw_RC h sp la) rfl ?_
          refine zv_cV (M' := mm_X5_takesNumber) (ci := 5) (a := 4) (av := [.ref 2]) (st := []) (r := some (.int (tk_b (tk_if (¬ ti_num I = 0) (tm_num I 4))))) (I' := ((tk_if (¬ ti_num I = 0) (tm_num I 4)).getD I)) (L' := L) (R' := zw_RC h sp la) rfl zc_5_111 gd_X5_takesNumber rfl rfl rfl (Nat.le_of_ble_eq_true rfl) (ct3_X5_takesNumber (d := _) (Or.inl rfl)) ⟨Nat.le_refl _, Nat.le_refl _⟩ ?_
          refine zv_run 0 (pc' := 155) (lo' := [some (.ref 4), some (.ref 2)]) (st' := [.int (tk_b (tk_if (¬ ti_num I = 0) (tm_num I 4)))]) (I' := ((tk_if (¬ ti_num I = 0) (tm_num I 4)).getD I)) (L' := L) (R' := zw_RC h sp la) rfl ?_
          exact zv_zret (zs_at rfl) rfl (tk_b01 _) ⟨Nat.le_refl _, Nat.le_refl _⟩ (by have e1 : fh_takes I 4 = tk_if (¬ ti_num I = 0) (tm_num I 4) := (by unfold fh_takes; rw [if_neg hE, show I 2 1 = 109 from nI_is (k := 109) (by omega) (by decide)]; try rfl); exact zw_to (by rw [e1]) (by rw [e1]) rfl rfl)
        · refine zv_tableIn (off := 123) (tgt := 150) (zs_at rfl) (by omega) (by omega) (by rw [t27e]; rfl) rfl ?_
          refine zv_run 2 (pc' := 152) (lo' := [some (.ref 4), some (.ref 2)]) (st' := [.ref 2, .ref 4]) (I' := I) (L' := L) (R' := zw_RC h sp la) rfl ?_
          refine zv_cV (M' := mm_X5_takesNumber) (ci := 5) (a := 4) (av := [.ref 2]) (st := []) (r := some (.int (tk_b (tk_if (¬ ti_num I = 0) (tm_num I 4))))) (I' := ((tk_if (¬ ti_num I = 0) (tm_num I 4)).getD I)) (L' := L) (R' := zw_RC h sp la) rfl zc_5_111 gd_X5_takesNumber rfl rfl rfl (Nat.le_of_ble_eq_true rfl) (ct3_X5_takesNumber (d := _) (Or.inl rfl)) ⟨Nat.le_refl _, Nat.le_refl _⟩ ?_
          refine zv_run 0 (pc' := 155) (lo' := [some (.ref 4), some (.ref 2)]) (st' := [.int (tk_b (tk_if (¬ ti_num I = 0) (tm_num I 4)))]) (I' := ((tk_if (¬ ti_num I = 0) (tm_num I 4)).getD I)) (L' := L) (R' := zw_RC h sp la) rfl ?_
          exact zv_zret (zs_at rfl) rfl (tk_b01 _) ⟨Nat.le_refl _, Nat.le_refl _⟩ (by have e1 : fh_takes I 4 = tk_if (¬ ti_num I = 0) (tm_num I 4) := (by unfold fh_takes; rw [if_neg hE, show I 2 1 = 110 from nI_is (k := 110) (by omega) (by decide)]; try rfl); exact zw_to (by rw [e1]) (by rw [e1]) rfl rfl)
        · refine zv_tableIn (off := 123) (tgt := 150) (zs_at rfl) (by omega) (by omega) (by rw [t27e]; rfl) rfl ?_
          refine zv_run 2 (pc' := 152) (lo' := [some (.ref 4), some (.ref 2)]) (st' := [.ref 2, .ref 4]) (I' := I) (L' := L) (R' := zw_RC h sp la) rfl ?_
          refine zv_cV (M' := mm_X5_takesNumber) (ci := 5) (a := 4) (av := [.ref 2]) (st := []) (r := some (.int (tk_b (tk_if (¬ ti_num I = 0) (tm_num I 4))))) (I' := ((tk_if (¬ ti_num I = 0) (tm_num I 4)).getD I)) (L' := L) (R' := zw_RC h sp la) rfl zc_5_111 gd_X5_takesNumber rfl rfl rfl (Nat.le_of_ble_eq_true rfl) (ct3_X5_takesNumber (d := _) (Or.inl rfl)) ⟨Nat.le_refl _, Nat.le_refl _⟩ ?_
          refine zv_run 0 (pc' := 155) (lo' := [some (.ref 4), some (.ref 2)]) (st' := [.int (tk_b (tk_if (¬ ti_num I = 0) (tm_num I 4)))]) (I' := ((tk_if (¬ ti_num I = 0) (tm_num I 4)).getD I)) (L' := L) (R' := zw_RC h sp la) rfl ?_
          exact zv_zret (zs_at rfl) rfl (tk_b01 _) ⟨Nat.le_refl _, Nat.le_refl _⟩ (by have e1 : fh_takes I 4 = tk_if (¬ ti_num I = 0) (tm_num I 4) := (by unfold fh_takes; rw [if_neg hE, show I 2 1 = 111 from nI_is (k := 111) (by omega) (by decide)]; try rfl); exact zw_to (by rw [e1]) (by rw [e1]) rfl rfl)
        · refine zv_tableIn (off := 123) (tgt := 150) (zs_at rfl) (by omega) (by omega) (by rw [t27e]; rfl) rfl ?_
          refine zv_run 2 (pc' := 152) (lo' := [some (.ref 4), some (.ref 2)]) (st' := [.ref 2, .ref 4]) (I' := I) (L' := L) (R' := zw_RC h sp la) rfl ?_
          refine zv_cV (M' := mm_X5_takesNumber) (ci := 5) (a := 4) (av := [.ref 2]) (st := []) (r := some (.int (tk_b (tk_if (¬ ti_num I = 0) (tm_num I 4))))) (I' := ((tk_if (¬ ti_num I = 0) (tm_num I 4)).getD I)) (L' := L) (R' := zw_RC h sp la) rfl zc_5_111 gd_X5_takesNumber rfl rfl rfl (Nat.le_of_ble_eq_true rfl) (ct3_X5_takesNumber (d := _) (Or.inl rfl)) ⟨Nat.le_refl _, Nat.le_refl _⟩ ?_
          refine zv_run 0 (pc' := 155) (lo' := [some (.ref 4), some (.ref 2)]) (st' := [.int (tk_b (tk_if (¬ ti_num I = 0) (tm_num I 4)))]) (I' := ((tk_if (¬ ti_num I = 0) (tm_num I 4)).getD I)) (L' := L) (R' := zw_RC h sp la) rfl ?_
          exact zv_zret (zs_at rfl) rfl (tk_b01 _) ⟨Nat.le_refl _, Nat.le_refl _⟩ (by have e1 : fh_takes I 4 = tk_if (¬ ti_num I = 0) (tm_num I 4) := (by unfold fh_takes; rw [if_neg hE, show I 2 1 = 112 from nI_is (k := 112) (by omega) (by decide)]; try rfl); exact zw_to (by rw [e1]) (by rw [e1]) rfl rfl)
        · refine zv_tableIn (off := 123) (tgt := 150) (zs_at rfl) (by omega) (by omega) (by rw [t27e]; rfl) rfl ?_
          refine zv_run 2 (pc' := 152) (lo' := [some (.ref 4), some (.ref 2)]) (st' := [.ref 2, .ref 4]) (I' := I) (L' := L) (R' := zw_RC h sp la) rfl ?_
          refine zv_cV (M' := mm_X5_takesNumber) (ci := 5) (a := 4) (av := [.ref 2]) (st := []) (r := some (.int (tk_b (tk_if (¬ ti_num I = 0) (tm_num I 4))))) (I' := ((tk_if (¬ ti_num I = 0) (tm_num I 4)).getD I)) (L' := L) (R' := zw_RC h sp la) rfl zc_5_111 gd_X5_takesNumber rfl rfl rfl (Nat.le_of_ble_eq_true rfl) (ct3_X5_takesNumber (d := _) (Or.inl rfl)) ⟨Nat.le_refl _, Nat.le_refl _⟩ ?_
          refine zv_run 0 (pc' := 155) (lo' := [some (.ref 4), some (.ref 2)]) (st' := [.int (tk_b (tk_if (¬ ti_num I = 0) (tm_num I 4)))]) (I' := ((tk_if (¬ ti_num I = 0) (tm_num I 4)).getD I)) (L' := L) (R' := zw_RC h sp la) rfl ?_
          exact zv_zret (zs_at rfl) rfl (tk_b01 _) ⟨Nat.le_refl _, Nat.le_refl _⟩ (by have e1 : fh_takes I 4 = tk_if (¬ ti_num I = 0) (tm_num I 4) := (by unfold fh_takes; rw [if_neg hE, show I 2 1 = 113 from nI_is (k := 113) (by omega) (by decide)]; try rfl); exact zw_to (by rw [e1]) (by rw [e1]) rfl rfl)
        · refine zv_tableIn (off := 123) (tgt := 150) (zs_at rfl) (by omega) (by omega) (by rw [t27e]; rfl) rfl ?_
          refine zv_run 2 (pc' := 152) (lo' := [some (.ref 4), some (.ref 2)]) (st' := [.ref 2, .ref 4]) (I' := I) (L' := L) (R' := zw_RC h sp la) rfl ?_
          refine zv_cV (M' := mm_X5_takesNumber) (ci := 5) (a := 4) (av := [.ref 2]) (st := []) (r := some (.int (tk_b (tk_if (¬ ti_num I = 0) (tm_num I 4))))) (I' := ((tk_if (¬ ti_num I = 0) (tm_num I 4)).getD I)) (L' := L) (R' := zw_RC h sp la) rfl zc_5_111 gd_X5_takesNumber rfl rfl rfl (Nat.le_of_ble_eq_true rfl) (ct3_X5_takesNumber (d := _) (Or.inl rfl)) ⟨Nat.le_refl _, Nat.le_refl _⟩ ?_
          refine zv_run 0 (pc' := 155) (lo' := [some (.ref 4), some (.ref 2)]) (st' := [.int (tk_b (tk_if (¬ ti_num I = 0) (tm_num I 4)))]) (I' := ((tk_if (¬ ti_num I = 0) (tm_num I 4)).getD I)) (L' := L) (R' := zw_RC h sp la) rfl ?_
          exact zv_zret (zs_at rfl) rfl (tk_b01 _) ⟨Nat.le_refl _, Nat.le_refl _⟩ (by have e1 : fh_takes I 4 = tk_if (¬ ti_num I = 0) (tm_num I 4) := (by unfold fh_takes; rw [if_neg hE, show I 2 1 = 114 from nI_is (k := 114) (by omega) (by decide)]; try rfl); exact zw_to (by rw [e1]) (by rw [e1]) rfl rfl)
        · refine zv_tableIn (off := 111) (tgt := 138) (zs_at rfl) (by omega) (by omega) (by rw [t27e]; rfl) rfl ?_
          refine zv_run 2 (pc' := 140) (lo' := [some (.ref 4), some (.ref 2)]) (st' := [.ref 2, .ref 4]) (I' := I) (L' := L) (R' := zw_RC h sp la) rfl ?_
          refine zv_cV (M' := mm_X5_takesPair) (ci := 5) (a := 4) (av := [.ref 2]) (st := []) (r := some (.int (tk_b (tk_pair I 4)))) (I' := ((tk_pair I 4).getD I)) (L' := L) (R' := zw_RC h sp la) rfl zc_5_105 gd_X5_takesPair rfl rfl rfl (Nat.le_of_ble_eq_true rfl) (ct3_X5_takesPair (d := _) (Or.inl rfl)) ⟨Nat.le_refl _, Nat.le_refl _⟩ ?_
          refine zv_run 0 (pc' := 143) (lo' := [some (.ref 4), some (.ref 2)]) (st' := [.int (tk_b (tk_pair I 4))]) (I' := ((tk_pair I 4).getD I)) (L' := L) (R' := zw_RC h sp la) rfl ?_
          exact zv_zret (zs_at rfl) rfl (tk_b01 _) ⟨Nat.le_refl _, Nat.le_refl _⟩ (by have e1 : fh_takes I 4 = tk_pair I 4 := (by unfold fh_takes; rw [if_neg hE, show I 2 1 = 115 from nI_is (k := 115) (by omega) (by decide)]; try rfl); exact zw_to (by rw [e1]) (by rw [e1]) rfl rfl)
        · refine zv_tableIn (off := 93) (tgt := 120) (zs_at rfl) (by omega) (by omega) (by rw [t27e]; rfl) rfl ?_
          refine zv_run 2 (pc' := 122) (lo' := [some (.ref 4), some (.ref 2)]) (st' := [.ref 2, .ref 4]) (I' := I) (L' := L) (R' := zw_RC h sp la) rfl ?_
          refine zv_cV (M' := mm_X5_takesTank) (ci := 5) (a := 4) (av := [.ref 2]) (st := []) (r := some (.int (tk_b (tk_if (ti_tank I) (tm_tank I 4))))) (I' := ((tk_if (ti_tank I) (tm_tank I 4)).getD I)) (L' := L) (R' := zw_RC h sp la) rfl zc_5_95 gd_X5_takesTank rfl rfl rfl (Nat.le_of_ble_eq_true rfl) (ct3_X5_takesTank (d := _) (Or.inl rfl)) ⟨Nat.le_refl _, Nat.le_refl _⟩ ?_
          refine zv_run 0 (pc' := 125) (lo' := [some (.ref 4), some (.ref 2)]) (st' := [.int (tk_b (tk_if (ti_tank I) (tm_tank I 4)))]) (I' := ((tk_if (ti_tank I) (tm_tank I 4)).getD I)) (L' := L) (R' := zw_RC h sp la) rfl ?_
          exact zv_zret (zs_at rfl) rfl (tk_b01 _) ⟨Nat.le_refl _, Nat.le_refl _⟩ (by have e1 : fh_takes I 4 = tk_if (ti_tank I) (tm_tank I 4) := (by unfold fh_takes; rw [if_neg hE, show I 2 1 = 116 from nI_is (k := 116) (by omega) (by decide)]; try rfl); exact zw_to (by rw [e1]) (by rw [e1]) rfl rfl)
    · have _c := c18
      have hE : I 4 0 = (if I 2 1 = 116 then 1 else 0) := by rw [if_neg c10]; exact c18
      refine zv_run 1 (pc' := 22) (lo' := [some (.ref 4), some (.ref 2)]) (st' := [.int 0]) (I' := I) (L' := L) (R' := zw_RC h sp la) rfl ?_
      exact zv_zret (zs_at rfl) rfl (Or.inl rfl) ⟨Nat.le_refl _, Nat.le_refl _⟩ (by have e0 : fh_takes I 4 = none := (by unfold fh_takes; rw [if_pos hE]); exact zw_to (by rw [e0]; rfl) (by rw [e0]; rfl) rfl rfl)
  · have _c := c10
    refine zv_run 2 (pc' := 18) (lo' := [some (.ref 4), some (.ref 2)]) (st' := [.int 1, .int (I 4 0)]) (I' := I) (L' := L) (R' := zw_RC h sp la) rfl ?_
    refine zv_icmp_ne (tgt := 23) (zs_at rfl) (by decide) (fun c18 => ?_) (fun c18 => ?_)
    · have _c := c18
      have hE : ¬ I 4 0 = (if I 2 1 = 116 then 1 else 0) := by rw [if_pos c10]; exact c18
      refine zv_run 2 (pc' := 27) (lo' := [some (.ref 4), some (.ref 2)]) (st' := [.int (I 2 1)]) (I' := I) (L' := L) (R' := zw_RC h sp la) rfl ?_
      by_cases t27 : (I 2 1).toInt < 97 ∨ 116 < (I 2 1).toInt
      · refine zv_tableOut (tgt := 150) (zs_at rfl) t27 rfl ?_
        refine zv_run 2 (pc' := 152) (lo' := [some (.ref 4), some (.ref 2)]) (st' := [.ref 2, .ref 4]) (I' := I) (L' := L) (R' := zw_RC h sp la) rfl ?_
        refine zv_cV (M' := mm_X5_takesNumber) (ci := 5) (a := 4) (av := [.ref 2]) (st := []) (r := some (.int (tk_b (tk_if (¬ ti_num I = 0) (tm_num I 4))))) (I' := ((tk_if (¬ ti_num I = 0) (tm_num I 4)).getD I)) (L' := L) (R' := zw_RC h sp la) rfl zc_5_111 gd_X5_takesNumber rfl rfl rfl (Nat.le_of_ble_eq_true rfl) (ct3_X5_takesNumber (d := _) (Or.inl rfl)) ⟨Nat.le_refl _, Nat.le_refl _⟩ ?_
        refine zv_run 0 (pc' := 155) (lo' := [some (.ref 4), some (.ref 2)]) (st' := [.int (tk_b (tk_if (¬ ti_num I = 0) (tm_num I 4)))]) (I' := ((tk_if (¬ ti_num I = 0) (tm_num I 4)).getD I)) (L' := L) (R' := zw_RC h sp la) rfl ?_
        exact zv_zret (zs_at rfl) rfl (tk_b01 _) ⟨Nat.le_refl _, Nat.le_refl _⟩ (by have e1 : fh_takes I 4 = tk_if (¬ ti_num I = 0) (tm_num I 4) := (by unfold fh_takes; rw [if_neg hE, if_neg (fun q => by rw [q] at t27; revert t27; decide), if_neg (fun q => by rw [q] at t27; revert t27; decide), if_neg (fun q => by rw [q] at t27; revert t27; decide), if_neg (fun q => by rcases q with q | q <;> (rw [q] at t27; revert t27; decide)), if_neg (fun q => by rw [q] at t27; revert t27; decide)]); exact zw_to (by rw [e1]) (by rw [e1]) rfl rfl)
      · rcases (show (I 2 1).toInt = 97 ∨ (I 2 1).toInt = 98 ∨ (I 2 1).toInt = 99 ∨ (I 2 1).toInt = 100 ∨ (I 2 1).toInt = 101 ∨ (I 2 1).toInt = 102 ∨ (I 2 1).toInt = 103 ∨ (I 2 1).toInt = 104 ∨ (I 2 1).toInt = 105 ∨ (I 2 1).toInt = 106 ∨ (I 2 1).toInt = 107 ∨ (I 2 1).toInt = 108 ∨ (I 2 1).toInt = 109 ∨ (I 2 1).toInt = 110 ∨ (I 2 1).toInt = 111 ∨ (I 2 1).toInt = 112 ∨ (I 2 1).toInt = 113 ∨ (I 2 1).toInt = 114 ∨ (I 2 1).toInt = 115 ∨ (I 2 1).toInt = 116 from by omega) with t27e | t27e | t27e | t27e | t27e | t27e | t27e | t27e | t27e | t27e | t27e | t27e | t27e | t27e | t27e | t27e | t27e | t27e | t27e | t27e
        · refine zv_tableIn (off := 111) (tgt := 138) (zs_at rfl) (by omega) (by omega) (by rw [t27e]; rfl) rfl ?_
          refine zv_run 2 (pc' := 140) (lo' := [some (.ref 4), some (.ref 2)]) (st' := [.ref 2, .ref 4]) (I' := I) (L' := L) (R' := zw_RC h sp la) rfl ?_
          refine zv_cV (M' := mm_X5_takesPair) (ci := 5) (a := 4) (av := [.ref 2]) (st := []) (r := some (.int (tk_b (tk_pair I 4)))) (I' := ((tk_pair I 4).getD I)) (L' := L) (R' := zw_RC h sp la) rfl zc_5_105 gd_X5_takesPair rfl rfl rfl (Nat.le_of_ble_eq_true rfl) (ct3_X5_takesPair (d := _) (Or.inl rfl)) ⟨Nat.le_refl _, Nat.le_refl _⟩ ?_
          refine zv_run 0 (pc' := 143) (lo' := [some (.ref 4), some (.ref 2)]) (st' := [.int (tk_b (tk_pair I 4))]) (I' := ((tk_pair I 4).getD I)) (L' := L) (R' := zw_RC h sp la) rfl ?_
          exact zv_zret (zs_at rfl) rfl (tk_b01 _) ⟨Nat.le_refl _, Nat.le_refl _⟩ (by have e1 : fh_takes I 4 = tk_pair I 4 := (by unfold fh_takes; rw [if_neg hE, show I 2 1 = 97 from nI_is (k := 97) (by omega) (by decide)]; try rfl); exact zw_to (by rw [e1]) (by rw [e1]) rfl rfl)
        · refine zv_tableIn (off := 105) (tgt := 132) (zs_at rfl) (by omega) (by omega) (by rw [t27e]; rfl) rfl ?_
          refine zv_run 2 (pc' := 134) (lo' := [some (.ref 4), some (.ref 2)]) (st' := [.ref 2, .ref 4]) (I' := I) (L' := L) (R' := zw_RC h sp la) rfl ?_
          refine zv_cV (M' := mm_X5_takesBather) (ci := 5) (a := 4) (av := [.ref 2]) (st := []) (r := some (.int (tk_b (tk_if (ti_bather I 4) (tm_bather I 4 (I 4 13).toInt.toNat))))) (I' := ((tk_if (ti_bather I 4) (tm_bather I 4 (I 4 13).toInt.toNat)).getD I)) (L' := L) (R' := zw_RC h sp la) rfl zc_5_102 gd_X5_takesBather rfl rfl rfl (Nat.le_of_ble_eq_true rfl) (ct3_X5_takesBather (d := _) (Or.inl rfl) hc) ⟨Nat.le_refl _, Nat.le_refl _⟩ ?_
          refine zv_run 0 (pc' := 137) (lo' := [some (.ref 4), some (.ref 2)]) (st' := [.int (tk_b (tk_if (ti_bather I 4) (tm_bather I 4 (I 4 13).toInt.toNat)))]) (I' := ((tk_if (ti_bather I 4) (tm_bather I 4 (I 4 13).toInt.toNat)).getD I)) (L' := L) (R' := zw_RC h sp la) rfl ?_
          exact zv_zret (zs_at rfl) rfl (tk_b01 _) ⟨Nat.le_refl _, Nat.le_refl _⟩ (by have e1 : fh_takes I 4 = tk_if (ti_bather I 4) (tm_bather I 4 (I 4 13).toInt.toNat) := (by unfold fh_takes; rw [if_neg hE, show I 2 1 = 98 from nI_is (k := 98) (by omega) (by decide)]; try rfl); exact zw_to (by rw [e1]) (by rw [e1]) rfl rfl)
        · refine zv_tableIn (off := 123) (tgt := 150) (zs_at rfl) (by omega) (by omega) (by rw [t27e]; rfl) rfl ?_
          refine zv_run 2 (pc' := 152) (lo' := [some (.ref 4), some (.ref 2)]) (st' := [.ref 2, .ref 4]) (I' := I) (L' := L) (R' := zw_RC h sp la) rfl ?_
          refine zv_cV (M' := mm_X5_takesNumber) (ci := 5) (a := 4) (av := [.ref 2]) (st := []) (r := some (.int (tk_b (tk_if (¬ ti_num I = 0) (tm_num I 4))))) (I' := ((tk_if (¬ ti_num I = 0) (tm_num I 4)).getD I)) (L' := L) (R' := zw_RC h sp la) rfl zc_5_111 gd_X5_takesNumber rfl rfl rfl (Nat.le_of_ble_eq_true rfl) (ct3_X5_takesNumber (d := _) (Or.inl rfl)) ⟨Nat.le_refl _, Nat.le_refl _⟩ ?_
          refine zv_run 0 (pc' := 155) (lo' := [some (.ref 4), some (.ref 2)]) (st' := [.int (tk_b (tk_if (¬ ti_num I = 0) (tm_num I 4)))]) (I' := ((tk_if (¬ ti_num I = 0) (tm_num I 4)).getD I)) (L' := L) (R' := zw_RC h sp la) rfl ?_
          exact zv_zret (zs_at rfl) rfl (tk_b01 _) ⟨Nat.le_refl _, Nat.le_refl _⟩ (by have e1 : fh_takes I 4 = tk_if (¬ ti_num I = 0) (tm_num I 4) := (by unfold fh_takes; rw [if_neg hE, show I 2 1 = 99 from nI_is (k := 99) (by omega) (by decide)]; try rfl); exact zw_to (by rw [e1]) (by rw [e1]) rfl rfl)
        · refine zv_tableIn (off := 123) (tgt := 150) (zs_at rfl) (by omega) (by omega) (by rw [t27e]; rfl) rfl ?_
          refine zv_run 2 (pc' := 152) (lo' := [some (.ref 4), some (.ref 2)]) (st' := [.ref 2, .ref 4]) (I' := I) (L' := L) (R' := zw_RC h sp la) rfl ?_
          refine zv_cV (M' := mm_X5_takesNumber) (ci := 5) (a := 4) (av := [.ref 2]) (st := []) (r := some (.int (tk_b (tk_if (¬ ti_num I = 0) (tm_num I 4))))) (I' := ((tk_if (¬ ti_num I = 0) (tm_num I 4)).getD I)) (L' := L) (R' := zw_RC h sp la) rfl zc_5_111 gd_X5_takesNumber rfl rfl rfl (Nat.le_of_ble_eq_true rfl) (ct3_X5_takesNumber (d := _) (Or.inl rfl)) ⟨Nat.le_refl _, Nat.le_refl _⟩ ?_
          refine zv_run 0 (pc' := 155) (lo' := [some (.ref 4), some (.ref 2)]) (st' := [.int (tk_b (tk_if (¬ ti_num I = 0) (tm_num I 4)))]) (I' := ((tk_if (¬ ti_num I = 0) (tm_num I 4)).getD I)) (L' := L) (R' := zw_RC h sp la) rfl ?_
          exact zv_zret (zs_at rfl) rfl (tk_b01 _) ⟨Nat.le_refl _, Nat.le_refl _⟩ (by have e1 : fh_takes I 4 = tk_if (¬ ti_num I = 0) (tm_num I 4) := (by unfold fh_takes; rw [if_neg hE, show I 2 1 = 100 from nI_is (k := 100) (by omega) (by decide)]; try rfl); exact zw_to (by rw [e1]) (by rw [e1]) rfl rfl)
        · refine zv_tableIn (off := 123) (tgt := 150) (zs_at rfl) (by omega) (by omega) (by rw [t27e]; rfl) rfl ?_
          refine zv_run 2 (pc' := 152) (lo' := [some (.ref 4), some (.ref 2)]) (st' := [.ref 2, .ref 4]) (I' := I) (L' := L) (R' := zw_RC h sp la) rfl ?_
          refine zv_cV (M' := mm_X5_takesNumber) (ci := 5) (a := 4) (av := [.ref 2]) (st := []) (r := some (.int (tk_b (tk_if (¬ ti_num I = 0) (tm_num I 4))))) (I' := ((tk_if (¬ ti_num I = 0) (tm_num I 4)).getD I)) (L' := L) (R' := zw_RC h sp la) rfl zc_5_111 gd_X5_takesNumber rfl rfl rfl (Nat.le_of_ble_eq_true rfl) (ct3_X5_takesNumber (d := _) (Or.inl rfl)) ⟨Nat.le_refl _, Nat.le_refl _⟩ ?_
          refine zv_run 0 (pc' := 155) (lo' := [some (.ref 4), some (.ref 2)]) (st' := [.int (tk_b (tk_if (¬ ti_num I = 0) (tm_num I 4)))]) (I' := ((tk_if (¬ ti_num I = 0) (tm_num I 4)).getD I)) (L' := L) (R' := zw_RC h sp la) rfl ?_
          exact zv_zret (zs_at rfl) rfl (tk_b01 _) ⟨Nat.le_refl _, Nat.le_refl _⟩ (by have e1 : fh_takes I 4 = tk_if (¬ ti_num I = 0) (tm_num I 4) := (by unfold fh_takes; rw [if_neg hE, show I 2 1 = 101 from nI_is (k := 101) (by omega) (by decide)]; try rfl); exact zw_to (by rw [e1]) (by rw [e1]) rfl rfl)
        · refine zv_tableIn (off := 99) (tgt := 126) (zs_at rfl) (by omega) (by omega) (by rw [t27e]; rfl) rfl ?_
          refine zv_run 2 (pc' := 128) (lo' := [some (.ref 4), some (.ref 2)]) (st' := [.ref 2, .ref 4]) (I' := I) (L' := L) (R' := zw_RC h sp la) rfl ?_
          refine zv_cV (M' := mm_X5_takesStage) (ci := 5) (a := 4) (av := [.ref 2]) (st := []) (r := some (.int (tk_b (tk_if (ti_stage I) (tm_stage I 4))))) (I' := ((tk_if (ti_stage I) (tm_stage I 4)).getD I)) (L' := L) (R' := zw_RC h sp la) rfl zc_5_99 gd_X5_takesStage rfl rfl rfl (Nat.le_of_ble_eq_true rfl) (ct3_X5_takesStage (d := _) (Or.inl rfl)) ⟨Nat.le_refl _, Nat.le_refl _⟩ ?_
          refine zv_run 0 (pc' := 131) (lo' := [some (.ref 4), some (.ref 2)]) (st' := [.int (tk_b (tk_if (ti_stage I) (tm_stage I 4)))]) (I' := ((tk_if (ti_stage I) (tm_stage I 4)).getD I)) (L' := L) (R' := zw_RC h sp la) rfl ?_
          exact zv_zret (zs_at rfl) rfl (tk_b01 _) ⟨Nat.le_refl _, Nat.le_refl _⟩ (by have e1 : fh_takes I 4 = tk_if (ti_stage I) (tm_stage I 4) := (by unfold fh_takes; rw [if_neg hE, show I 2 1 = 102 from nI_is (k := 102) (by omega) (by decide)]; try rfl); exact zw_to (by rw [e1]) (by rw [e1]) rfl rfl)
        · refine zv_tableIn (off := 123) (tgt := 150) (zs_at rfl) (by omega) (by omega) (by rw [t27e]; rfl) rfl ?_
          refine zv_run 2 (pc' := 152) (lo' := [some (.ref 4), some (.ref 2)]) (st' := [.ref 2, .ref 4]) (I' := I) (L' := L) (R' := zw_RC h sp la) rfl ?_
          refine zv_cV (M' := mm_X5_takesNumber) (ci := 5) (a := 4) (av := [.ref 2]) (st := []) (r := some (.int (tk_b (tk_if (¬ ti_num I = 0) (tm_num I 4))))) (I' := ((tk_if (¬ ti_num I = 0) (tm_num I 4)).getD I)) (L' := L) (R' := zw_RC h sp la) rfl zc_5_111 gd_X5_takesNumber rfl rfl rfl (Nat.le_of_ble_eq_true rfl) (ct3_X5_takesNumber (d := _) (Or.inl rfl)) ⟨Nat.le_refl _, Nat.le_refl _⟩ ?_
          refine zv_run 0 (pc' := 155) (lo' := [some (.ref 4), some (.ref 2)]) (st' := [.int (tk_b (tk_if (¬ ti_num I = 0) (tm_num I 4)))]) (I' := ((tk_if (¬ ti_num I = 0) (tm_num I 4)).getD I)) (L' := L) (R' := zw_RC h sp la) rfl ?_
          exact zv_zret (zs_at rfl) rfl (tk_b01 _) ⟨Nat.le_refl _, Nat.le_refl _⟩ (by have e1 : fh_takes I 4 = tk_if (¬ ti_num I = 0) (tm_num I 4) := (by unfold fh_takes; rw [if_neg hE, show I 2 1 = 103 from nI_is (k := 103) (by omega) (by decide)]; try rfl); exact zw_to (by rw [e1]) (by rw [e1]) rfl rfl)
        · refine zv_tableIn (off := 123) (tgt := 150) (zs_at rfl) (by omega) (by omega) (by rw [t27e]; rfl) rfl ?_
          refine zv_run 2 (pc' := 152) (lo' := [some (.ref 4), some (.ref 2)]) (st' := [.ref 2, .ref 4]) (I' := I) (L' := L) (R' := zw_RC h sp la) rfl ?_
          refine zv_cV (M' := mm_X5_takesNumber) (ci := 5) (a := 4) (av := [.ref 2]) (st := []) (r := some (.int (tk_b (tk_if (¬ ti_num I = 0) (tm_num I 4))))) (I' := ((tk_if (¬ ti_num I = 0) (tm_num I 4)).getD I)) (L' := L) (R' := zw_RC h sp la) rfl zc_5_111 gd_X5_takesNumber rfl rfl rfl (Nat.le_of_ble_eq_true rfl) (ct3_X5_takesNumber (d := _) (Or.inl rfl)) ⟨Nat.le_refl _, Nat.le_refl _⟩ ?_
          refine zv_run 0 (pc' := 155) (lo' := [some (.ref 4), some (.ref 2)]) (st' := [.int (tk_b (tk_if (¬ ti_num I = 0) (tm_num I 4)))]) (I' := ((tk_if (¬ ti_num I = 0) (tm_num I 4)).getD I)) (L' := L) (R' := zw_RC h sp la) rfl ?_
          exact zv_zret (zs_at rfl) rfl (tk_b01 _) ⟨Nat.le_refl _, Nat.le_refl _⟩ (by have e1 : fh_takes I 4 = tk_if (¬ ti_num I = 0) (tm_num I 4) := (by unfold fh_takes; rw [if_neg hE, show I 2 1 = 104 from nI_is (k := 104) (by omega) (by decide)]; try rfl); exact zw_to (by rw [e1]) (by rw [e1]) rfl rfl)
        · refine zv_tableIn (off := 123) (tgt := 150) (zs_at rfl) (by omega) (by omega) (by rw [t27e]; rfl) rfl ?_
          refine zv_run 2 (pc' := 152) (lo' := [some (.ref 4), some (.ref 2)]) (st' := [.ref 2, .ref 4]) (I' := I) (L' := L) (R' := zw_RC h sp la) rfl ?_
          refine zv_cV (M' := mm_X5_takesNumber) (ci := 5) (a := 4) (av := [.ref 2]) (st := []) (r := some (.int (tk_b (tk_if (¬ ti_num I = 0) (tm_num I 4))))) (I' := ((tk_if (¬ ti_num I = 0) (tm_num I 4)).getD I)) (L' := L) (R' := zw_RC h sp la) rfl zc_5_111 gd_X5_takesNumber rfl rfl rfl (Nat.le_of_ble_eq_true rfl) (ct3_X5_takesNumber (d := _) (Or.inl rfl)) ⟨Nat.le_refl _, Nat.le_refl _⟩ ?_
          refine zv_run 0 (pc' := 155) (lo' := [some (.ref 4), some (.ref 2)]) (st' := [.int (tk_b (tk_if (¬ ti_num I = 0) (tm_num I 4)))]) (I' := ((tk_if (¬ ti_num I = 0) (tm_num I 4)).getD I)) (L' := L) (R' := zw_RC h sp la) rfl ?_
          exact zv_zret (zs_at rfl) rfl (tk_b01 _) ⟨Nat.le_refl _, Nat.le_refl _⟩ (by have e1 : fh_takes I 4 = tk_if (¬ ti_num I = 0) (tm_num I 4) := (by unfold fh_takes; rw [if_neg hE, show I 2 1 = 105 from nI_is (k := 105) (by omega) (by decide)]; try rfl); exact zw_to (by rw [e1]) (by rw [e1]) rfl rfl)
        · refine zv_tableIn (off := 123) (tgt := 150) (zs_at rfl) (by omega) (by omega) (by rw [t27e]; rfl) rfl ?_
          refine zv_run 2 (pc' := 152) (lo' := [some (.ref 4), some (.ref 2)]) (st' := [.ref 2, .ref 4]) (I' := I) (L' := L) (R' := zw_RC h sp la) rfl ?_
          refine zv_cV (M' := mm_X5_takesNumber) (ci := 5) (a := 4) (av := [.ref 2]) (st := []) (r := some (.int (tk_b (tk_if (¬ ti_num I = 0) (tm_num I 4))))) (I' := ((tk_if (¬ ti_num I = 0) (tm_num I 4)).getD I)) (L' := L) (R' := zw_RC h sp la) rfl zc_5_111 gd_X5_takesNumber rfl rfl rfl (Nat.le_of_ble_eq_true rfl) (ct3_X5_takesNumber (d := _) (Or.inl rfl)) ⟨Nat.le_refl _, Nat.le_refl _⟩ ?_
          refine zv_run 0 (pc' := 155) (lo' := [some (.ref 4), some (.ref 2)]) (st' := [.int (tk_b (tk_if (¬ ti_num I = 0) (tm_num I 4)))]) (I' := ((tk_if (¬ ti_num I = 0) (tm_num I 4)).getD I)) (L' := L) (R' := zw_RC h sp la) rfl ?_
          exact zv_zret (zs_at rfl) rfl (tk_b01 _) ⟨Nat.le_refl _, Nat.le_refl _⟩ (by have e1 : fh_takes I 4 = tk_if (¬ ti_num I = 0) (tm_num I 4) := (by unfold fh_takes; rw [if_neg hE, show I 2 1 = 106 from nI_is (k := 106) (by omega) (by decide)]; try rfl); exact zw_to (by rw [e1]) (by rw [e1]) rfl rfl)
        · refine zv_tableIn (off := 117) (tgt := 144) (zs_at rfl) (by omega) (by omega) (by rw [t27e]; rfl) rfl ?_
          refine zv_run 2 (pc' := 146) (lo' := [some (.ref 4), some (.ref 2)]) (st' := [.ref 2, .ref 4]) (I' := I) (L' := L) (R' := zw_RC h sp la) rfl ?_
          refine zv_cV (M' := mm_X5_takesKettle) (ci := 5) (a := 4) (av := [.ref 2]) (st := []) (r := some (.int (tk_b (tk_if (ti_kettle I) (tm_kettle I 4))))) (I' := ((tk_if (ti_kettle I) (tm_kettle I 4)).getD I)) (L' := L) (R' := zw_RC h sp la) rfl zc_5_108 gd_X5_takesKettle rfl rfl rfl (Nat.le_of_ble_eq_true rfl) (ct3_X5_takesKettle (d := _) (Or.inl rfl)) ⟨Nat.le_refl _, Nat.le_refl _⟩ ?_
          refine zv_run 0 (pc' := 149) (lo' := [some (.ref 4), some (.ref 2)]) (st' := [.int (tk_b (tk_if (ti_kettle I) (tm_kettle I 4)))]) (I' := ((tk_if (ti_kettle I) (tm_kettle I 4)).getD I)) (L' := L) (R' := zw_RC h sp la) rfl ?_
          exact zv_zret (zs_at rfl) rfl (tk_b01 _) ⟨Nat.le_refl _, Nat.le_refl _⟩ (by have e1 : fh_takes I 4 = tk_if (ti_kettle I) (tm_kettle I 4) := (by unfold fh_takes; rw [if_neg hE, show I 2 1 = 107 from nI_is (k := 107) (by omega) (by decide)]; try rfl); exact zw_to (by rw [e1]) (by rw [e1]) rfl rfl)
        · refine zv_tableIn (off := 123) (tgt := 150) (zs_at rfl) (by omega) (by omega) (by rw [t27e]; rfl) rfl ?_
          refine zv_run 2 (pc' := 152) (lo' := [some (.ref 4), some (.ref 2)]) (st' := [.ref 2, .ref 4]) (I' := I) (L' := L) (R' := zw_RC h sp la) rfl ?_
          refine zv_cV (M' := mm_X5_takesNumber) (ci := 5) (a := 4) (av := [.ref 2]) (st := []) (r := some (.int (tk_b (tk_if (¬ ti_num I = 0) (tm_num I 4))))) (I' := ((tk_if (¬ ti_num I = 0) (tm_num I 4)).getD I)) (L' := L) (R' := zw_RC h sp la) rfl zc_5_111 gd_X5_takesNumber rfl rfl rfl (Nat.le_of_ble_eq_true rfl) (ct3_X5_takesNumber (d := _) (Or.inl rfl)) ⟨Nat.le_refl _, Nat.le_refl _⟩ ?_
          refine zv_run 0 (pc' := 155) (lo' := [some (.ref 4), some (.ref 2)]) (st' := [.int (tk_b (tk_if (¬ ti_num I = 0) (tm_num I 4)))]) (I' := ((tk_if (¬ ti_num I = 0) (tm_num I 4)).getD I)) (L' := L) (R' := zw_RC h sp la) rfl ?_
          exact zv_zret (zs_at rfl) rfl (tk_b01 _) ⟨Nat.le_refl _, Nat.le_refl _⟩ (by have e1 : fh_takes I 4 = tk_if (¬ ti_num I = 0) (tm_num I 4) := (by unfold fh_takes; rw [if_neg hE, show I 2 1 = 108 from nI_is (k := 108) (by omega) (by decide)]; try rfl); exact zw_to (by rw [e1]) (by rw [e1]) rfl rfl)
        · refine zv_tableIn (off := 123) (tgt := 150) (zs_at rfl) (by omega) (by omega) (by rw [t27e]; rfl) rfl ?_
          refine zv_run 2 (pc' := 152) (lo' := [some (.ref 4), some (.ref 2)]) (st' := [.ref 2, .ref 4]) (I' := I) (L' := L) (R' := zw_RC h sp la) rfl ?_
          refine zv_cV (M' := mm_X5_takesNumber) (ci := 5) (a := 4) (av := [.ref 2]) (st := []) (r := some (.int (tk_b (tk_if (¬ ti_num I = 0) (tm_num I 4))))) (I' := ((tk_if (¬ ti_num I = 0) (tm_num I 4)).getD I)) (L' := L) (R' := zw_RC h sp la) rfl zc_5_111 gd_X5_takesNumber rfl rfl rfl (Nat.le_of_ble_eq_true rfl) (ct3_X5_takesNumber (d := _) (Or.inl rfl)) ⟨Nat.le_refl _, Nat.le_refl _⟩ ?_
          refine zv_run 0 (pc' := 155) (lo' := [some (.ref 4), some (.ref 2)]) (st' := [.int (tk_b (tk_if (¬ ti_num I = 0) (tm_num I 4)))]) (I' := ((tk_if (¬ ti_num I = 0) (tm_num I 4)).getD I)) (L' := L) (R' := zw_RC h sp la) rfl ?_
          exact zv_zret (zs_at rfl) rfl (tk_b01 _) ⟨Nat.le_refl _, Nat.le_refl _⟩ (by have e1 : fh_takes I 4 = tk_if (¬ ti_num I = 0) (tm_num I 4) := (by unfold fh_takes; rw [if_neg hE, show I 2 1 = 109 from nI_is (k := 109) (by omega) (by decide)]; try rfl); exact zw_to (by rw [e1]) (by rw [e1]) rfl rfl)
        · refine zv_tableIn (off := 123) (tgt := 150) (zs_at rfl) (by omega) (by omega) (by rw [t27e]; rfl) rfl ?_
          refine zv_run 2 (pc' := 152) (lo' := [some (.ref 4), some (.ref 2)]) (st' := [.ref 2, .ref 4]) (I' := I) (L' := L) (R' := zw_RC h sp la) rfl ?_
          refine zv_cV (M' := mm_X5_takesNumber) (ci := 5) (a := 4) (av := [.ref 2]) (st := []) (r := some (.int (tk_b (tk_if (¬ ti_num I = 0) (tm_num I 4))))) (I' := ((tk_if (¬ ti_num I = 0) (tm_num I 4)).getD I)) (L' := L) (R' := zw_RC h sp la) rfl zc_5_111 gd_X5_takesNumber rfl rfl rfl (Nat.le_of_ble_eq_true rfl) (ct3_X5_takesNumber (d := _) (Or.inl rfl)) ⟨Nat.le_refl _, Nat.le_refl _⟩ ?_
          refine zv_run 0 (pc' := 155) (lo' := [some (.ref 4), some (.ref 2)]) (st' := [.int (tk_b (tk_if (¬ ti_num I = 0) (tm_num I 4)))]) (I' := ((tk_if (¬ ti_num I = 0) (tm_num I 4)).getD I)) (L' := L) (R' := zw_RC h sp la) rfl ?_
          exact zv_zret (zs_at rfl) rfl (tk_b01 _) ⟨Nat.le_refl _, Nat.le_refl _⟩ (by have e1 : fh_takes I 4 = tk_if (¬ ti_num I = 0) (tm_num I 4) := (by unfold fh_takes; rw [if_neg hE, show I 2 1 = 110 from nI_is (k := 110) (by omega) (by decide)]; try rfl); exact zw_to (by rw [e1]) (by rw [e1]) rfl rfl)
        · refine zv_tableIn (off := 123) (tgt := 150) (zs_at rfl) (by omega) (by omega) (by rw [t27e]; rfl) rfl ?_
          refine zv_run 2 (pc' := 152) (lo' := [some (.ref 4), some (.ref 2)]) (st' := [.ref 2, .ref 4]) (I' := I) (L' := L) (R' := zw_RC h sp la) rfl ?_
          refine zv_cV (M' := mm_X5_takesNumber) (ci := 5) (a := 4) (av := [.ref 2]) (st := []) (r := some (.int (tk_b (tk_if (¬ ti_num I = 0) (tm_num I 4))))) (I' := ((tk_if (¬ ti_num I = 0) (tm_num I 4)).getD I)) (L' := L) (R' := zw_RC h sp la) rfl zc_5_111 gd_X5_takesNumber rfl rfl rfl (Nat.le_of_ble_eq_true rfl) (ct3_X5_takesNumber (d := _) (Or.inl rfl)) ⟨Nat.le_refl _, Nat.le_refl _⟩ ?_
          refine zv_run 0 (pc' := 155) (lo' := [some (.ref 4), some (.ref 2)]) (st' := [.int (tk_b (tk_if (¬ ti_num I = 0) (tm_num I 4)))]) (I' := ((tk_if (¬ ti_num I = 0) (tm_num I 4)).getD I)) (L' := L) (R' := zw_RC h sp la) rfl ?_
          exact zv_zret (zs_at rfl) rfl (tk_b01 _) ⟨Nat.le_refl _, Nat.le_refl _⟩ (by have e1 : fh_takes I 4 = tk_if (¬ ti_num I = 0) (tm_num I 4) := (by unfold fh_takes; rw [if_neg hE, show I 2 1 = 111 from nI_is (k := 111) (by omega) (by decide)]; try rfl); exact zw_to (by rw [e1]) (by rw [e1]) rfl rfl)
        · refine zv_tableIn (off := 123) (tgt := 150) (zs_at rfl) (by omega) (by omega) (by rw [t27e]; rfl) rfl ?_
          refine zv_run 2 (pc' := 152) (lo' := [some (.ref 4), some (.ref 2)]) (st' := [.ref 2, .ref 4]) (I' := I) (L' := L) (R' := zw_RC h sp la) rfl ?_
          refine zv_cV (M' := mm_X5_takesNumber) (ci := 5) (a := 4) (av := [.ref 2]) (st := []) (r := some (.int (tk_b (tk_if (¬ ti_num I = 0) (tm_num I 4))))) (I' := ((tk_if (¬ ti_num I = 0) (tm_num I 4)).getD I)) (L' := L) (R' := zw_RC h sp la) rfl zc_5_111 gd_X5_takesNumber rfl rfl rfl (Nat.le_of_ble_eq_true rfl) (ct3_X5_takesNumber (d := _) (Or.inl rfl)) ⟨Nat.le_refl _, Nat.le_refl _⟩ ?_
          refine zv_run 0 (pc' := 155) (lo' := [some (.ref 4), some (.ref 2)]) (st' := [.int (tk_b (tk_if (¬ ti_num I = 0) (tm_num I 4)))]) (I' := ((tk_if (¬ ti_num I = 0) (tm_num I 4)).getD I)) (L' := L) (R' := zw_RC h sp la) rfl ?_
          exact zv_zret (zs_at rfl) rfl (tk_b01 _) ⟨Nat.le_refl _, Nat.le_refl _⟩ (by have e1 : fh_takes I 4 = tk_if (¬ ti_num I = 0) (tm_num I 4) := (by unfold fh_takes; rw [if_neg hE, show I 2 1 = 112 from nI_is (k := 112) (by omega) (by decide)]; try rfl); exact zw_to (by rw [e1]) (by rw [e1]) rfl rfl)
        · refine zv_tableIn (off := 123) (tgt := 150) (zs_at rfl) (by omega) (by omega) (by rw [t27e]; rfl) rfl ?_
          refine zv_run 2 (pc' := 152) (lo' := [some (.ref 4), some (.ref 2)]) (st' := [.ref 2, .ref 4]) (I' := I) (L' := L) (R' := zw_RC h sp la) rfl ?_
          refine zv_cV (M' := mm_X5_takesNumber) (ci := 5) (a := 4) (av := [.ref 2]) (st := []) (r := some (.int (tk_b (tk_if (¬ ti_num I = 0) (tm_num I 4))))) (I' := ((tk_if (¬ ti_num I = 0) (tm_num I 4)).getD I)) (L' := L) (R' := zw_RC h sp la) rfl zc_5_111 gd_X5_takesNumber rfl rfl rfl (Nat.le_of_ble_eq_true rfl) (ct3_X5_takesNumber (d := _) (Or.inl rfl)) ⟨Nat.le_refl _, Nat.le_refl _⟩ ?_
          refine zv_run 0 (pc' := 155) (lo' := [some (.ref 4), some (.ref 2)]) (st' := [.int (tk_b (tk_if (¬ ti_num I = 0) (tm_num I 4)))]) (I' := ((tk_if (¬ ti_num I = 0) (tm_num I 4)).getD I)) (L' := L) (R' := zw_RC h sp la) rfl ?_
          exact zv_zret (zs_at rfl) rfl (tk_b01 _) ⟨Nat.le_refl _, Nat.le_refl _⟩ (by have e1 : fh_takes I 4 = tk_if (¬ ti_num I = 0) (tm_num I 4) := (by unfold fh_takes; rw [if_neg hE, show I 2 1 = 113 from nI_is (k := 113) (by omega) (by decide)]; try rfl); exact zw_to (by rw [e1]) (by rw [e1]) rfl rfl)
        · refine zv_tableIn (off := 123) (tgt := 150) (zs_at rfl) (by omega) (by omega) (by rw [t27e]; rfl) rfl ?_
          refine zv_run 2 (pc' := 152) (lo' := [some (.ref 4), some (.ref 2)]) (st' := [.ref 2, .ref 4]) (I' := I) (L' := L) (R' := zw_RC h sp la) rfl ?_
          refine zv_cV (M' := mm_X5_takesNumber) (ci := 5) (a := 4) (av := [.ref 2]) (st := []) (r := some (.int (tk_b (tk_if (¬ ti_num I = 0) (tm_num I 4))))) (I' := ((tk_if (¬ ti_num I = 0) (tm_num I 4)).getD I)) (L' := L) (R' := zw_RC h sp la) rfl zc_5_111 gd_X5_takesNumber rfl rfl rfl (Nat.le_of_ble_eq_true rfl) (ct3_X5_takesNumber (d := _) (Or.inl rfl)) ⟨Nat.le_refl _, Nat.le_refl _⟩ ?_
          refine zv_run 0 (pc' := 155) (lo' := [some (.ref 4), some (.ref 2)]) (st' := [.int (tk_b (tk_if (¬ ti_num I = 0) (tm_num I 4)))]) (I' := ((tk_if (¬ ti_num I = 0) (tm_num I 4)).getD I)) (L' := L) (R' := zw_RC h sp la) rfl ?_
          exact zv_zret (zs_at rfl) rfl (tk_b01 _) ⟨Nat.le_refl _, Nat.le_refl _⟩ (by have e1 : fh_takes I 4 = tk_if (¬ ti_num I = 0) (tm_num I 4) := (by unfold fh_takes; rw [if_neg hE, show I 2 1 = 114 from nI_is (k := 114) (by omega) (by decide)]; try rfl); exact zw_to (by rw [e1]) (by rw [e1]) rfl rfl)
        · refine zv_tableIn (off := 111) (tgt := 138) (zs_at rfl) (by omega) (by omega) (by rw [t27e]; rfl) rfl ?_
          refine zv_run 2 (pc' := 140) (lo' := [some (.ref 4), some (.ref 2)]) (st' := [.ref 2, .ref 4]) (I' := I) (L' := L) (R' := zw_RC h sp la) rfl ?_
          refine zv_cV (M' := mm_X5_takesPair) (ci := 5) (a := 4) (av := [.ref 2]) (st := []) (r := some (.int (tk_b (tk_pair I 4)))) (I' := ((tk_pair I 4).getD I)) (L' := L) (R' := zw_RC h sp la) rfl zc_5_105 gd_X5_takesPair rfl rfl rfl (Nat.le_of_ble_eq_true rfl) (ct3_X5_takesPair (d := _) (Or.inl rfl)) ⟨Nat.le_refl _, Nat.le_refl _⟩ ?_
          refine zv_run 0 (pc' := 143) (lo' := [some (.ref 4), some (.ref 2)]) (st' := [.int (tk_b (tk_pair I 4))]) (I' := ((tk_pair I 4).getD I)) (L' := L) (R' := zw_RC h sp la) rfl ?_
          exact zv_zret (zs_at rfl) rfl (tk_b01 _) ⟨Nat.le_refl _, Nat.le_refl _⟩ (by have e1 : fh_takes I 4 = tk_pair I 4 := (by unfold fh_takes; rw [if_neg hE, show I 2 1 = 115 from nI_is (k := 115) (by omega) (by decide)]; try rfl); exact zw_to (by rw [e1]) (by rw [e1]) rfl rfl)
        · refine zv_tableIn (off := 93) (tgt := 120) (zs_at rfl) (by omega) (by omega) (by rw [t27e]; rfl) rfl ?_
          refine zv_run 2 (pc' := 122) (lo' := [some (.ref 4), some (.ref 2)]) (st' := [.ref 2, .ref 4]) (I' := I) (L' := L) (R' := zw_RC h sp la) rfl ?_
          refine zv_cV (M' := mm_X5_takesTank) (ci := 5) (a := 4) (av := [.ref 2]) (st := []) (r := some (.int (tk_b (tk_if (ti_tank I) (tm_tank I 4))))) (I' := ((tk_if (ti_tank I) (tm_tank I 4)).getD I)) (L' := L) (R' := zw_RC h sp la) rfl zc_5_95 gd_X5_takesTank rfl rfl rfl (Nat.le_of_ble_eq_true rfl) (ct3_X5_takesTank (d := _) (Or.inl rfl)) ⟨Nat.le_refl _, Nat.le_refl _⟩ ?_
          refine zv_run 0 (pc' := 125) (lo' := [some (.ref 4), some (.ref 2)]) (st' := [.int (tk_b (tk_if (ti_tank I) (tm_tank I 4)))]) (I' := ((tk_if (ti_tank I) (tm_tank I 4)).getD I)) (L' := L) (R' := zw_RC h sp la) rfl ?_
          exact zv_zret (zs_at rfl) rfl (tk_b01 _) ⟨Nat.le_refl _, Nat.le_refl _⟩ (by have e1 : fh_takes I 4 = tk_if (ti_tank I) (tm_tank I 4) := (by unfold fh_takes; rw [if_neg hE, show I 2 1 = 116 from nI_is (k := 116) (by omega) (by decide)]; try rfl); exact zw_to (by rw [e1]) (by rw [e1]) rfl rfl)
    · have _c := c18
      have hE : I 4 0 = (if I 2 1 = 116 then 1 else 0) := by rw [if_pos c10]; exact c18
      refine zv_run 1 (pc' := 22) (lo' := [some (.ref 4), some (.ref 2)]) (st' := [.int 0]) (I' := I) (L' := L) (R' := zw_RC h sp la) rfl ?_
      exact zv_zret (zs_at rfl) rfl (Or.inl rfl) ⟨Nat.le_refl _, Nat.le_refl _⟩ (by have e0 : fh_takes I 4 = none := (by unfold fh_takes; rw [if_pos hE]); exact zw_to (by rw [e0]; rfl) (by rw [e0]; rfl) rfl rfl)

theorem ct_X5_takes_14 {d : Nat} {I : zx_I} {L : zx_L} {h sp : Nat} {la : Option Nat} (hc : hs_ct I 14) : zx_M0 mm_X5_takes (d + 4) 0 0 [.ref 14, .ref 2] zw_SC I L (zw_RC h sp la) (zw_ret (some (.int (tk_b (fh_takes I 14)))) zw_SC ((fh_takes I 14).getD I) L (zw_RC h sp la)) := by
  refine zv_entry gd_X5_takes (Nat.le_of_ble_eq_true rfl) ?_
  refine zv_run 5 (pc' := 10) (lo' := [some (.ref 14), some (.ref 2)]) (st' := [.int 116, .int (I 2 1), .int (I 14 0)]) (I' := I) (L' := L) (R' := zw_RC h sp la) rfl ?_
  refine zv_icmp_ne (tgt := 17) (zs_at rfl) (by decide) (fun c10 => ?_) (fun c10 => ?_)
  · have _c := c10
    refine zv_run 1 (pc' := 18) (lo' := [some (.ref 14), some (.ref 2)]) (st' := [.int 0, .int (I 14 0)]) (I' := I) (L' := L) (R' := zw_RC h sp la) rfl ?_
    refine zv_icmp_ne (tgt := 23) (zs_at rfl) (by decide) (fun c18 => ?_) (fun c18 => ?_)
    · have _c := c18
      have hE : ¬ I 14 0 = (if I 2 1 = 116 then 1 else 0) := by rw [if_neg c10]; exact c18
      refine zv_run 2 (pc' := 27) (lo' := [some (.ref 14), some (.ref 2)]) (st' := [.int (I 2 1)]) (I' := I) (L' := L) (R' := zw_RC h sp la) rfl ?_
      by_cases t27 : (I 2 1).toInt < 97 ∨ 116 < (I 2 1).toInt
      · refine zv_tableOut (tgt := 150) (zs_at rfl) t27 rfl ?_
        refine zv_run 2 (pc' := 152) (lo' := [some (.ref 14), some (.ref 2)]) (st' := [.ref 2, .ref 14]) (I' := I) (L' := L) (R' := zw_RC h sp la) rfl ?_
        refine zv_cV (M' := mm_X5_takesNumber) (ci := 5) (a := 14) (av := [.ref 2]) (st := []) (r := some (.int (tk_b (tk_if (¬ ti_num I = 0) (tm_num I 14))))) (I' := ((tk_if (¬ ti_num I = 0) (tm_num I 14)).getD I)) (L' := L) (R' := zw_RC h sp la) rfl zc_5_111 gd_X5_takesNumber rfl rfl rfl (Nat.le_of_ble_eq_true rfl) (ct3_X5_takesNumber (d := _) (Or.inr rfl)) ⟨Nat.le_refl _, Nat.le_refl _⟩ ?_
        refine zv_run 0 (pc' := 155) (lo' := [some (.ref 14), some (.ref 2)]) (st' := [.int (tk_b (tk_if (¬ ti_num I = 0) (tm_num I 14)))]) (I' := ((tk_if (¬ ti_num I = 0) (tm_num I 14)).getD I)) (L' := L) (R' := zw_RC h sp la) rfl ?_
        exact zv_zret (zs_at rfl) rfl (tk_b01 _) ⟨Nat.le_refl _, Nat.le_refl _⟩ (by have e1 : fh_takes I 14 = tk_if (¬ ti_num I = 0) (tm_num I 14) := (by unfold fh_takes; rw [if_neg hE, if_neg (fun q => by rw [q] at t27; revert t27; decide), if_neg (fun q => by rw [q] at t27; revert t27; decide), if_neg (fun q => by rw [q] at t27; revert t27; decide), if_neg (fun q => by rcases q with q | q <;> (rw [q] at t27; revert t27; decide)), if_neg (fun q => by rw [q] at t27; revert t27; decide)]); exact zw_to (by rw [e1]) (by rw [e1]) rfl rfl)
      · rcases (show (I 2 1).toInt = 97 ∨ (I 2 1).toInt = 98 ∨ (I 2 1).toInt = 99 ∨ (I 2 1).toInt = 100 ∨ (I 2 1).toInt = 101 ∨ (I 2 1).toInt = 102 ∨ (I 2 1).toInt = 103 ∨ (I 2 1).toInt = 104 ∨ (I 2 1).toInt = 105 ∨ (I 2 1).toInt = 106 ∨ (I 2 1).toInt = 107 ∨ (I 2 1).toInt = 108 ∨ (I 2 1).toInt = 109 ∨ (I 2 1).toInt = 110 ∨ (I 2 1).toInt = 111 ∨ (I 2 1).toInt = 112 ∨ (I 2 1).toInt = 113 ∨ (I 2 1).toInt = 114 ∨ (I 2 1).toInt = 115 ∨ (I 2 1).toInt = 116 from by omega) with t27e | t27e | t27e | t27e | t27e | t27e | t27e | t27e | t27e | t27e | t27e | t27e | t27e | t27e | t27e | t27e | t27e | t27e | t27e | t27e
        · refine zv_tableIn (off := 111) (tgt := 138) (zs_at rfl) (by omega) (by omega) (by rw [t27e]; rfl) rfl ?_
          refine zv_run 2 (pc' := 140) (lo' := [some (.ref 14), some (.ref 2)]) (st' := [.ref 2, .ref 14]) (I' := I) (L' := L) (R' := zw_RC h sp la) rfl ?_
          refine zv_cV (M' := mm_X5_takesPair) (ci := 5) (a := 14) (av := [.ref 2]) (st := []) (r := some (.int (tk_b (tk_pair I 14)))) (I' := ((tk_pair I 14).getD I)) (L' := L) (R' := zw_RC h sp la) rfl zc_5_105 gd_X5_takesPair rfl rfl rfl (Nat.le_of_ble_eq_true rfl) (ct3_X5_takesPair (d := _) (Or.inr rfl)) ⟨Nat.le_refl _, Nat.le_refl _⟩ ?_
          refine zv_run 0 (pc' := 143) (lo' := [some (.ref 14), some (.ref 2)]) (st' := [.int (tk_b (tk_pair I 14))]) (I' := ((tk_pair I 14).getD I)) (L' := L) (R' := zw_RC h sp la) rfl ?_
          exact zv_zret (zs_at rfl) rfl (tk_b01 _) ⟨Nat.le_refl _, Nat.le_refl _⟩ (by have e1 : fh_takes I 14 = tk_pair I 14 := (by unfold fh_takes; rw [if_neg hE, show I 2 1 = 97 from nI_is (k := 97) (by omega) (by decide)]; try rfl); exact zw_to (by rw [e1]) (by rw [e1]) rfl rfl)
        · refine zv_tableIn (off := 105) (tgt := 132) (zs_at rfl) (by omega) (by omega) (by rw [t27e]; rfl) rfl ?_
          refine zv_run 2 (pc' := 134) (lo' := [some (.ref 14), some (.ref 2)]) (st' := [.ref 2, .ref 14]) (I' := I) (L' := L) (R' := zw_RC h sp la) rfl ?_
          refine zv_cV (M' := mm_X5_takesBather) (ci := 5) (a := 14) (av := [.ref 2]) (st := []) (r := some (.int (tk_b (tk_if (ti_bather I 14) (tm_bather I 14 (I 14 13).toInt.toNat))))) (I' := ((tk_if (ti_bather I 14) (tm_bather I 14 (I 14 13).toInt.toNat)).getD I)) (L' := L) (R' := zw_RC h sp la) rfl zc_5_102 gd_X5_takesBather rfl rfl rfl (Nat.le_of_ble_eq_true rfl) (ct3_X5_takesBather (d := _) (Or.inr rfl) hc) ⟨Nat.le_refl _, Nat.le_refl _⟩ ?_
          refine zv_run 0 (pc' := 137) (lo' := [some (.ref 14), some (.ref 2)]) (st' := [.int (tk_b (tk_if (ti_bather I 14) (tm_bather I 14 (I 14 13).toInt.toNat)))]) (I' := ((tk_if (ti_bather I 14) (tm_bather I 14 (I 14 13).toInt.toNat)).getD I)) (L' := L) (R' := zw_RC h sp la) rfl ?_
          exact zv_zret (zs_at rfl) rfl (tk_b01 _) ⟨Nat.le_refl _, Nat.le_refl _⟩ (by have e1 : fh_takes I 14 = tk_if (ti_bather I 14) (tm_bather I 14 (I 14 13).toInt.toNat) := (by unfold fh_takes; rw [if_neg hE, show I 2 1 = 98 from nI_is (k := 98) (by omega) (by decide)]; try rfl); exact zw_to (by rw [e1]) (by rw [e1]) rfl rfl)
        · refine zv_tableIn (off := 123) (tgt := 150) (zs_at rfl) (by omega) (by omega) (by rw [t27e]; rfl) rfl ?_
          refine zv_run 2 (pc' := 152) (lo' := [some (.ref 14), some (.ref 2)]) (st' := [.ref 2, .ref 14]) (I' := I) (L' := L) (R' := zw_RC h sp la) rfl ?_
          refine zv_cV (M' := mm_X5_takesNumber) (ci := 5) (a := 14) (av := [.ref 2]) (st := []) (r := some (.int (tk_b (tk_if (¬ ti_num I = 0) (tm_num I 14))))) (I' := ((tk_if (¬ ti_num I = 0) (tm_num I 14)).getD I)) (L' := L) (R' := zw_RC h sp la) rfl zc_5_111 gd_X5_takesNumber rfl rfl rfl (Nat.le_of_ble_eq_true rfl) (ct3_X5_takesNumber (d := _) (Or.inr rfl)) ⟨Nat.le_refl _, Nat.le_refl _⟩ ?_
          refine zv_run 0 (pc' := 155) (lo' := [some (.ref 14), some (.ref 2)]) (st' := [.int (tk_b (tk_if (¬ ti_num I = 0) (tm_num I 14)))]) (I' := ((tk_if (¬ ti_num I = 0) (tm_num I 14)).getD I)) (L' := L) (R' := zw_RC h sp la) rfl ?_
          exact zv_zret (zs_at rfl) rfl (tk_b01 _) ⟨Nat.le_refl _, Nat.le_refl _⟩ (by have e1 : fh_takes I 14 = tk_if (¬ ti_num I = 0) (tm_num I 14) := (by unfold fh_takes; rw [if_neg hE, show I 2 1 = 99 from nI_is (k := 99) (by omega) (by decide)]; try rfl); exact zw_to (by rw [e1]) (by rw [e1]) rfl rfl)
        · refine zv_tableIn (off := 123) (tgt := 150) (zs_at rfl) (by omega) (by omega) (by rw [t27e]; rfl) rfl ?_
          refine zv_run 2 (pc' := 152) (lo' := [some (.ref 14), some (.ref 2)]) (st' := [.ref 2, .ref 14]) (I' := I) (L' := L) (R' := zw_RC h sp la) rfl ?_
          refine zv_cV (M' := mm_X5_takesNumber) (ci := 5) (a := 14) (av := [.ref 2]) (st := []) (r := some (.int (tk_b (tk_if (¬ ti_num I = 0) (tm_num I 14))))) (I' := ((tk_if (¬ ti_num I = 0) (tm_num I 14)).getD I)) (L' := L) (R' := zw_RC h sp la) rfl zc_5_111 gd_X5_takesNumber rfl rfl rfl (Nat.le_of_ble_eq_true rfl) (ct3_X5_takesNumber (d := _) (Or.inr rfl)) ⟨Nat.le_refl _, Nat.le_refl _⟩ ?_
          refine zv_run 0 (pc' := 155) (lo' := [some (.ref 14), some (.ref 2)]) (st' := [.int (tk_b (tk_if (¬ ti_num I = 0) (tm_num I 14)))]) (I' := ((tk_if (¬ ti_num I = 0) (tm_num I 14)).getD I)) (L' := L) (R' := zw_RC h sp la) rfl ?_
          exact zv_zret (zs_at rfl) rfl (tk_b01 _) ⟨Nat.le_refl _, Nat.le_refl _⟩ (by have e1 : fh_takes I 14 = tk_if (¬ ti_num I = 0) (tm_num I 14) := (by unfold fh_takes; rw [if_neg hE, show I 2 1 = 100 from nI_is (k := 100) (by omega) (by decide)]; try rfl); exact zw_to (by rw [e1]) (by rw [e1]) rfl rfl)
        · refine zv_tableIn (off := 123) (tgt := 150) (zs_at rfl) (by omega) (by omega) (by rw [t27e]; rfl) rfl ?_
          refine zv_run 2 (pc' := 152) (lo' := [some (.ref 14), some (.ref 2)]) (st' := [.ref 2, .ref 14]) (I' := I) (L' := L) (R' := zw_RC h sp la) rfl ?_
          refine zv_cV (M' := mm_X5_takesNumber) (ci := 5) (a := 14) (av := [.ref 2]) (st := []) (r := some (.int (tk_b (tk_if (¬ ti_num I = 0) (tm_num I 14))))) (I' := ((tk_if (¬ ti_num I = 0) (tm_num I 14)).getD I)) (L' := L) (R' := zw_RC h sp la) rfl zc_5_111 gd_X5_takesNumber rfl rfl rfl (Nat.le_of_ble_eq_true rfl) (ct3_X5_takesNumber (d := _) (Or.inr rfl)) ⟨Nat.le_refl _, Nat.le_refl _⟩ ?_
          refine zv_run 0 (pc' := 155) (lo' := [some (.ref 14), some (.ref 2)]) (st' := [.int (tk_b (tk_if (¬ ti_num I = 0) (tm_num I 14)))]) (I' := ((tk_if (¬ ti_num I = 0) (tm_num I 14)).getD I)) (L' := L) (R' := zw_RC h sp la) rfl ?_
          exact zv_zret (zs_at rfl) rfl (tk_b01 _) ⟨Nat.le_refl _, Nat.le_refl _⟩ (by have e1 : fh_takes I 14 = tk_if (¬ ti_num I = 0) (tm_num I 14) := (by unfold fh_takes; rw [if_neg hE, show I 2 1 = 101 from nI_is (k := 101) (by omega) (by decide)]; try rfl); exact zw_to (by rw [e1]) (by rw [e1]) rfl rfl)
        · refine zv_tableIn (off := 99) (tgt := 126) (zs_at rfl) (by omega) (by omega) (by rw [t27e]; rfl) rfl ?_
          refine zv_run 2 (pc' := 128) (lo' := [some (.ref 14), some (.ref 2)]) (st' := [.ref 2, .ref 14]) (I' := I) (L' := L) (R' := zw_RC h sp la) rfl ?_
          refine zv_cV (M' := mm_X5_takesStage) (ci := 5) (a := 14) (av := [.ref 2]) (st := []) (r := some (.int (tk_b (tk_if (ti_stage I) (tm_stage I 14))))) (I' := ((tk_if (ti_stage I) (tm_stage I 14)).getD I)) (L' := L) (R' := zw_RC h sp la) rfl zc_5_99 gd_X5_takesStage rfl rfl rfl (Nat.le_of_ble_eq_true rfl) (ct3_X5_takesStage (d := _) (Or.inr rfl)) ⟨Nat.le_refl _, Nat.le_refl _⟩ ?_
          refine zv_run 0 (pc' := 131) (lo' := [some (.ref 14), some (.ref 2)]) (st' := [.int (tk_b (tk_if (ti_stage I) (tm_stage I 14)))]) (I' := ((tk_if (ti_stage I) (tm_stage I 14)).getD I)) (L' := L) (R' := zw_RC h sp la) rfl ?_
          exact zv_zret (zs_at rfl) rfl (tk_b01 _) ⟨Nat.le_refl _, Nat.le_refl _⟩ (by have e1 : fh_takes I 14 = tk_if (ti_stage I) (tm_stage I 14) := (by unfold fh_takes; rw [if_neg hE, show I 2 1 = 102 from nI_is (k := 102) (by omega) (by decide)]; try rfl); exact zw_to (by rw [e1]) (by rw [e1]) rfl rfl)
        · refine zv_tableIn (off := 123) (tgt := 150) (zs_at rfl) (by omega) (by omega) (by rw [t27e]; rfl) rfl ?_
          refine zv_run 2 (pc' := 152) (lo' := [some (.ref 14), some (.ref 2)]) (st' := [.ref 2, .ref 14]) (I' := I) (L' := L) (R' := zw_RC h sp la) rfl ?_
          refine zv_cV (M' := mm_X5_takesNumber) (ci := 5) (a := 14) (av := [.ref 2]) (st := []) (r := some (.int (tk_b (tk_if (¬ ti_num I = 0) (tm_num I 14))))) (I' := ((tk_if (¬ ti_num I = 0) (tm_num I 14)).getD I)) (L' := L) (R' := zw_RC h sp la) rfl zc_5_111 gd_X5_takesNumber rfl rfl rfl (Nat.le_of_ble_eq_true rfl) (ct3_X5_takesNumber (d := _) (Or.inr rfl)) ⟨Nat.le_refl _, Nat.le_refl _⟩ ?_
          refine zv_run 0 (pc' := 155) (lo' := [some (.ref 14), some (.ref 2)]) (st' := [.int (tk_b (tk_if (¬ ti_num I = 0) (tm_num I 14)))]) (I' := ((tk_if (¬ ti_num I = 0) (tm_num I 14)).getD I)) (L' := L) (R' := zw_RC h sp la) rfl ?_
          exact zv_zret (zs_at rfl) rfl (tk_b01 _) ⟨Nat.le_refl _, Nat.le_refl _⟩ (by have e1 : fh_takes I 14 = tk_if (¬ ti_num I = 0) (tm_num I 14) := (by unfold fh_takes; rw [if_neg hE, show I 2 1 = 103 from nI_is (k := 103) (by omega) (by decide)]; try rfl); exact zw_to (by rw [e1]) (by rw [e1]) rfl rfl)
        · refine zv_tableIn (off := 123) (tgt := 150) (zs_at rfl) (by omega) (by omega) (by rw [t27e]; rfl) rfl ?_
          refine zv_run 2 (pc' := 152) (lo' := [some (.ref 14), some (.ref 2)]) (st' := [.ref 2, .ref 14]) (I' := I) (L' := L) (R' := zw_RC h sp la) rfl ?_
          refine zv_cV (M' := mm_X5_takesNumber) (ci := 5) (a := 14) (av := [.ref 2]) (st := []) (r := some (.int (tk_b (tk_if (¬ ti_num I = 0) (tm_num I 14))))) (I' := ((tk_if (¬ ti_num I = 0) (tm_num I 14)).getD I)) (L' := L) (R' := zw_RC h sp la) rfl zc_5_111 gd_X5_takesNumber rfl rfl rfl (Nat.le_of_ble_eq_true rfl) (ct3_X5_takesNumber (d := _) (Or.inr rfl)) ⟨Nat.le_refl _, Nat.le_refl _⟩ ?_
          refine zv_run 0 (pc' := 155) (lo' := [some (.ref 14), some (.ref 2)]) (st' := [.int (tk_b (tk_if (¬ ti_num I = 0) (tm_num I 14)))]) (I' := ((tk_if (¬ ti_num I = 0) (tm_num I 14)).getD I)) (L' := L) (R' := zw_RC h sp la) rfl ?_
          exact zv_zret (zs_at rfl) rfl (tk_b01 _) ⟨Nat.le_refl _, Nat.le_refl _⟩ (by have e1 : fh_takes I 14 = tk_if (¬ ti_num I = 0) (tm_num I 14) := (by unfold fh_takes; rw [if_neg hE, show I 2 1 = 104 from nI_is (k := 104) (by omega) (by decide)]; try rfl); exact zw_to (by rw [e1]) (by rw [e1]) rfl rfl)
        · refine zv_tableIn (off := 123) (tgt := 150) (zs_at rfl) (by omega) (by omega) (by rw [t27e]; rfl) rfl ?_
          refine zv_run 2 (pc' := 152) (lo' := [some (.ref 14), some (.ref 2)]) (st' := [.ref 2, .ref 14]) (I' := I) (L' := L) (R' := zw_RC h sp la) rfl ?_
          refine zv_cV (M' := mm_X5_takesNumber) (ci := 5) (a := 14) (av := [.ref 2]) (st := []) (r := some (.int (tk_b (tk_if (¬ ti_num I = 0) (tm_num I 14))))) (I' := ((tk_if (¬ ti_num I = 0) (tm_num I 14)).getD I)) (L' := L) (R' := zw_RC h sp la) rfl zc_5_111 gd_X5_takesNumber rfl rfl rfl (Nat.le_of_ble_eq_true rfl) (ct3_X5_takesNumber (d := _) (Or.inr rfl)) ⟨Nat.le_refl _, Nat.le_refl _⟩ ?_
          refine zv_run 0 (pc' := 155) (lo' := [some (.ref 14), some (.ref 2)]) (st' := [.int (tk_b (tk_if (¬ ti_num I = 0) (tm_num I 14)))]) (I' := ((tk_if (¬ ti_num I = 0) (tm_num I 14)).getD I)) (L' := L) (R' := zw_RC h sp la) rfl ?_
          exact zv_zret (zs_at rfl) rfl (tk_b01 _) ⟨Nat.le_refl _, Nat.le_refl _⟩ (by have e1 : fh_takes I 14 = tk_if (¬ ti_num I = 0) (tm_num I 14) := (by unfold fh_takes; rw [if_neg hE, show I 2 1 = 105 from nI_is (k := 105) (by omega) (by decide)]; try rfl); exact zw_to (by rw [e1]) (by rw [e1]) rfl rfl)
        · refine zv_tableIn (off := 123) (tgt := 150) (zs_at rfl) (by omega) (by omega) (by rw [t27e]; rfl) rfl ?_
          refine zv_run 2 (pc' := 152) (lo' := [some (.ref 14), some (.ref 2)]) (st' := [.ref 2, .ref 14]) (I' := I) (L' := L) (R' := zw_RC h sp la) rfl ?_
          refine zv_cV (M' := mm_X5_takesNumber) (ci := 5) (a := 14) (av := [.ref 2]) (st := []) (r := some (.int (tk_b (tk_if (¬ ti_num I = 0) (tm_num I 14))))) (I' := ((tk_if (¬ ti_num I = 0) (tm_num I 14)).getD I)) (L' := L) (R' := zw_RC h sp la) rfl zc_5_111 gd_X5_takesNumber rfl rfl rfl (Nat.le_of_ble_eq_true rfl) (ct3_X5_takesNumber (d := _) (Or.inr rfl)) ⟨Nat.le_refl _, Nat.le_refl _⟩ ?_
          refine zv_run 0 (pc' := 155) (lo' := [some (.ref 14), some (.ref 2)]) (st' := [.int (tk_b (tk_if (¬ ti_num I = 0) (tm_num I 14)))]) (I' := ((tk_if (¬ ti_num I = 0) (tm_num I 14)).getD I)) (L' := L) (R' := zw_RC h sp la) rfl ?_
          exact zv_zret (zs_at rfl) rfl (tk_b01 _) ⟨Nat.le_refl _, Nat.le_refl _⟩ (by have e1 : fh_takes I 14 = tk_if (¬ ti_num I = 0) (tm_num I 14) := (by unfold fh_takes; rw [if_neg hE, show I 2 1 = 106 from nI_is (k := 106) (by omega) (by decide)]; try rfl); exact zw_to (by rw [e1]) (by rw [e1]) rfl rfl)
        · refine zv_tableIn (off := 117) (tgt := 144) (zs_at rfl) (by omega) (by omega) (by rw [t27e]; rfl) rfl ?_
          refine zv_run 2 (pc' := 146) (lo' := [some (.ref 14), some (.ref 2)]) (st' := [.ref 2, .ref 14]) (I' := I) (L' := L) (R' := zw_RC h sp la) rfl ?_
          refine zv_cV (M' := mm_X5_takesKettle) (ci := 5) (a := 14) (av := [.ref 2]) (st := []) (r := some (.int (tk_b (tk_if (ti_kettle I) (tm_kettle I 14))))) (I' := ((tk_if (ti_kettle I) (tm_kettle I 14)).getD I)) (L' := L) (R' := zw_RC h sp la) rfl zc_5_108 gd_X5_takesKettle rfl rfl rfl (Nat.le_of_ble_eq_true rfl) (ct3_X5_takesKettle (d := _) (Or.inr rfl)) ⟨Nat.le_refl _, Nat.le_refl _⟩ ?_
          refine zv_run 0 (pc' := 149) (lo' := [some (.ref 14), some (.ref 2)]) (st' := [.int (tk_b (tk_if (ti_kettle I) (tm_kettle I 14)))]) (I' := ((tk_if (ti_kettle I) (tm_kettle I 14)).getD I)) (L' := L) (R' := zw_RC h sp la) rfl ?_
          exact zv_zret (zs_at rfl) rfl (tk_b01 _) ⟨Nat.le_refl _, Nat.le_refl _⟩ (by have e1 : fh_takes I 14 = tk_if (ti_kettle I) (tm_kettle I 14) := (by unfold fh_takes; rw [if_neg hE, show I 2 1 = 107 from nI_is (k := 107) (by omega) (by decide)]; try rfl); exact zw_to (by rw [e1]) (by rw [e1]) rfl rfl)
        · refine zv_tableIn (off := 123) (tgt := 150) (zs_at rfl) (by omega) (by omega) (by rw [t27e]; rfl) rfl ?_
          refine zv_run 2 (pc' := 152) (lo' := [some (.ref 14), some (.ref 2)]) (st' := [.ref 2, .ref 14]) (I' := I) (L' := L) (R' := zw_RC h sp la) rfl ?_
          refine zv_cV (M' := mm_X5_takesNumber) (ci := 5) (a := 14) (av := [.ref 2]) (st := []) (r := some (.int (tk_b (tk_if (¬ ti_num I = 0) (tm_num I 14))))) (I' := ((tk_if (¬ ti_num I = 0) (tm_num I 14)).getD I)) (L' := L) (R' := zw_RC h sp la) rfl zc_5_111 gd_X5_takesNumber rfl rfl rfl (Nat.le_of_ble_eq_true rfl) (ct3_X5_takesNumber (d := _) (Or.inr rfl)) ⟨Nat.le_refl _, Nat.le_refl _⟩ ?_
          refine zv_run 0 (pc' := 155) (lo' := [some (.ref 14), some (.ref 2)]) (st' := [.int (tk_b (tk_if (¬ ti_num I = 0) (tm_num I 14)))]) (I' := ((tk_if (¬ ti_num I = 0) (tm_num I 14)).getD I)) (L' := L) (R' := zw_RC h sp la) rfl ?_
          exact zv_zret (zs_at rfl) rfl (tk_b01 _) ⟨Nat.le_refl _, Nat.le_refl _⟩ (by have e1 : fh_takes I 14 = tk_if (¬ ti_num I = 0) (tm_num I 14) := (by unfold fh_takes; rw [if_neg hE, show I 2 1 = 108 from nI_is (k := 108) (by omega) (by decide)]; try rfl); exact zw_to (by rw [e1]) (by rw [e1]) rfl rfl)
        · refine zv_tableIn (off := 123) (tgt := 150) (zs_at rfl) (by omega) (by omega) (by rw [t27e]; rfl) rfl ?_
          refine zv_run 2 (pc' := 152) (lo' := [some (.ref 14), some (.ref 2)]) (st' := [.ref 2, .ref 14]) (I' := I) (L' := L) (R' := zw_RC h sp la) rfl ?_
          refine zv_cV (M' := mm_X5_takesNumber) (ci := 5) (a := 14) (av := [.ref 2]) (st := []) (r := some (.int (tk_b (tk_if (¬ ti_num I = 0) (tm_num I 14))))) (I' := ((tk_if (¬ ti_num I = 0) (tm_num I 14)).getD I)) (L' := L) (R' := zw_RC h sp la) rfl zc_5_111 gd_X5_takesNumber rfl rfl rfl (Nat.le_of_ble_eq_true rfl) (ct3_X5_takesNumber (d := _) (Or.inr rfl)) ⟨Nat.le_refl _, Nat.le_refl _⟩ ?_
          refine zv_run 0 (pc' := 155) (lo' := [some (.ref 14), some (.ref 2)]) (st' := [.int (tk_b (tk_if (¬ ti_num I = 0) (tm_num I 14)))]) (I' := ((tk_if (¬ ti_num I = 0) (tm_num I 14)).getD I)) (L' := L) (R' := zw_RC h sp la) rfl ?_
          exact zv_zret (zs_at rfl) rfl (tk_b01 _) ⟨Nat.le_refl _, Nat.le_refl _⟩ (by have e1 : fh_takes I 14 = tk_if (¬ ti_num I = 0) (tm_num I 14) := (by unfold fh_takes; rw [if_neg hE, show I 2 1 = 109 from nI_is (k := 109) (by omega) (by decide)]; try rfl); exact zw_to (by rw [e1]) (by rw [e1]) rfl rfl)
        · refine zv_tableIn (off := 123) (tgt := 150) (zs_at rfl) (by omega) (by omega) (by rw [t27e]; rfl) rfl ?_
          refine zv_run 2 (pc' := 152) (lo' := [some (.ref 14), some (.ref 2)]) (st' := [.ref 2, .ref 14]) (I' := I) (L' := L) (R' := zw_RC h sp la) rfl ?_
          refine zv_cV (M' := mm_X5_takesNumber) (ci := 5) (a := 14) (av := [.ref 2]) (st := []) (r := some (.int (tk_b (tk_if (¬ ti_num I = 0) (tm_num I 14))))) (I' := ((tk_if (¬ ti_num I = 0) (tm_num I 14)).getD I)) (L' := L) (R' := zw_RC h sp la) rfl zc_5_111 gd_X5_takesNumber rfl rfl rfl (Nat.le_of_ble_eq_true rfl) (ct3_X5_takesNumber (d := _) (Or.inr rfl)) ⟨Nat.le_refl _, Nat.le_refl _⟩ ?_
          refine zv_run 0 (pc' := 155) (lo' := [some (.ref 14), some (.ref 2)]) (st' := [.int (tk_b (tk_if (¬ ti_num I = 0) (tm_num I 14)))]) (I' := ((tk_if (¬ ti_num I = 0) (tm_num I 14)).getD I)) (L' := L) (R' := zw_RC h sp la) rfl ?_
          exact zv_zret (zs_at rfl) rfl (tk_b01 _) ⟨Nat.le_refl _, Nat.le_refl _⟩ (by have e1 : fh_takes I 14 = tk_if (¬ ti_num I = 0) (tm_num I 14) := (by unfold fh_takes; rw [if_neg hE, show I 2 1 = 110 from nI_is (k := 110) (by omega) (by decide)]; try rfl); exact zw_to (by rw [e1]) (by rw [e1]) rfl rfl)
        · refine zv_tableIn (off := 123) (tgt := 150) (zs_at rfl) (by omega) (by omega) (by rw [t27e]; rfl) rfl ?_
          refine zv_run 2 (pc' := 152) (lo' := [some (.ref 14), some (.ref 2)]) (st' := [.ref 2, .ref 14]) (I' := I) (L' := L) (R' := zw_RC h sp la) rfl ?_
          refine zv_cV (M' := mm_X5_takesNumber) (ci := 5) (a := 14) (av := [.ref 2]) (st := []) (r := some (.int (tk_b (tk_if (¬ ti_num I = 0) (tm_num I 14))))) (I' := ((tk_if (¬ ti_num I = 0) (tm_num I 14)).getD I)) (L' := L) (R' := zw_RC h sp la) rfl zc_5_111 gd_X5_takesNumber rfl rfl rfl (Nat.le_of_ble_eq_true rfl) (ct3_X5_takesNumber (d := _) (Or.inr rfl)) ⟨Nat.le_refl _, Nat.le_refl _⟩ ?_
          refine zv_run 0 (pc' := 155) (lo' := [some (.ref 14), some (.ref 2)]) (st' := [.int (tk_b (tk_if (¬ ti_num I = 0) (tm_num I 14)))]) (I' := ((tk_if (¬ ti_num I = 0) (tm_num I 14)).getD I)) (L' := L) (R' := zw_RC h sp la) rfl ?_
          exact zv_zret (zs_at rfl) rfl (tk_b01 _) ⟨Nat.le_refl _, Nat.le_refl _⟩ (by have e1 : fh_takes I 14 = tk_if (¬ ti_num I = 0) (tm_num I 14) := (by unfold fh_takes; rw [if_neg hE, show I 2 1 = 111 from nI_is (k := 111) (by omega) (by decide)]; try rfl); exact zw_to (by rw [e1]) (by rw [e1]) rfl rfl)
        · refine zv_tableIn (off := 123) (tgt := 150) (zs_at rfl) (by omega) (by omega) (by rw [t27e]; rfl) rfl ?_
          refine zv_run 2 (pc' := 152) (lo' := [some (.ref 14), some (.ref 2)]) (st' := [.ref 2, .ref 14]) (I' := I) (L' := L) (R' := zw_RC h sp la) rfl ?_
          refine zv_cV (M' := mm_X5_takesNumber) (ci := 5) (a := 14) (av := [.ref 2]) (st := []) (r := some (.int (tk_b (tk_if (¬ ti_num I = 0) (tm_num I 14))))) (I' := ((tk_if (¬ ti_num I = 0) (tm_num I 14)).getD I)) (L' := L) (R' := zw_RC h sp la) rfl zc_5_111 gd_X5_takesNumber rfl rfl rfl (Nat.le_of_ble_eq_true rfl) (ct3_X5_takesNumber (d := _) (Or.inr rfl)) ⟨Nat.le_refl _, Nat.le_refl _⟩ ?_
          refine zv_run 0 (pc' := 155) (lo' := [some (.ref 14), some (.ref 2)]) (st' := [.int (tk_b (tk_if (¬ ti_num I = 0) (tm_num I 14)))]) (I' := ((tk_if (¬ ti_num I = 0) (tm_num I 14)).getD I)) (L' := L) (R' := zw_RC h sp la) rfl ?_
          exact zv_zret (zs_at rfl) rfl (tk_b01 _) ⟨Nat.le_refl _, Nat.le_refl _⟩ (by have e1 : fh_takes I 14 = tk_if (¬ ti_num I = 0) (tm_num I 14) := (by unfold fh_takes; rw [if_neg hE, show I 2 1 = 112 from nI_is (k := 112) (by omega) (by decide)]; try rfl); exact zw_to (by rw [e1]) (by rw [e1]) rfl rfl)
        · refine zv_tableIn (off := 123) (tgt := 150) (zs_at rfl) (by omega) (by omega) (by rw [t27e]; rfl) rfl ?_
          refine zv_run 2 (pc' := 152) (lo' := [some (.ref 14), some (.ref 2)]) (st' := [.ref 2, .ref 14]) (I' := I) (L' := L) (R' := zw_RC h sp la) rfl ?_
          refine zv_cV (M' := mm_X5_takesNumber) (ci := 5) (a := 14) (av := [.ref 2]) (st := []) (r := some (.int (tk_b (tk_if (¬ ti_num I = 0) (tm_num I 14))))) (I' := ((tk_if (¬ ti_num I = 0) (tm_num I 14)).getD I)) (L' := L) (R' := zw_RC h sp la) rfl zc_5_111 gd_X5_takesNumber rfl rfl rfl (Nat.le_of_ble_eq_true rfl) (ct3_X5_takesNumber (d := _) (Or.inr rfl)) ⟨Nat.le_refl _, Nat.le_refl _⟩ ?_
          refine zv_run 0 (pc' := 155) (lo' := [some (.ref 14), some (.ref 2)]) (st' := [.int (tk_b (tk_if (¬ ti_num I = 0) (tm_num I 14)))]) (I' := ((tk_if (¬ ti_num I = 0) (tm_num I 14)).getD I)) (L' := L) (R' := zw_RC h sp la) rfl ?_
          exact zv_zret (zs_at rfl) rfl (tk_b01 _) ⟨Nat.le_refl _, Nat.le_refl _⟩ (by have e1 : fh_takes I 14 = tk_if (¬ ti_num I = 0) (tm_num I 14) := (by unfold fh_takes; rw [if_neg hE, show I 2 1 = 113 from nI_is (k := 113) (by omega) (by decide)]; try rfl); exact zw_to (by rw [e1]) (by rw [e1]) rfl rfl)
        · refine zv_tableIn (off := 123) (tgt := 150) (zs_at rfl) (by omega) (by omega) (by rw [t27e]; rfl) rfl ?_
          refine zv_run 2 (pc' := 152) (lo' := [some (.ref 14), some (.ref 2)]) (st' := [.ref 2, .ref 14]) (I' := I) (L' := L) (R' := zw_RC h sp la) rfl ?_
          refine zv_cV (M' := mm_X5_takesNumber) (ci := 5) (a := 14) (av := [.ref 2]) (st := []) (r := some (.int (tk_b (tk_if (¬ ti_num I = 0) (tm_num I 14))))) (I' := ((tk_if (¬ ti_num I = 0) (tm_num I 14)).getD I)) (L' := L) (R' := zw_RC h sp la) rfl zc_5_111 gd_X5_takesNumber rfl rfl rfl (Nat.le_of_ble_eq_true rfl) (ct3_X5_takesNumber (d := _) (Or.inr rfl)) ⟨Nat.le_refl _, Nat.le_refl _⟩ ?_
          refine zv_run 0 (pc' := 155) (lo' := [some (.ref 14), some (.ref 2)]) (st' := [.int (tk_b (tk_if (¬ ti_num I = 0) (tm_num I 14)))]) (I' := ((tk_if (¬ ti_num I = 0) (tm_num I 14)).getD I)) (L' := L) (R' := zw_RC h sp la) rfl ?_
          exact zv_zret (zs_at rfl) rfl (tk_b01 _) ⟨Nat.le_refl _, Nat.le_refl _⟩ (by have e1 : fh_takes I 14 = tk_if (¬ ti_num I = 0) (tm_num I 14) := (by unfold fh_takes; rw [if_neg hE, show I 2 1 = 114 from nI_is (k := 114) (by omega) (by decide)]; try rfl); exact zw_to (by rw [e1]) (by rw [e1]) rfl rfl)
        · refine zv_tableIn (off := 111) (tgt := 138) (zs_at rfl) (by omega) (by omega) (by rw [t27e]; rfl) rfl ?_
          refine zv_run 2 (pc' := 140) (lo' := [some (.ref 14), some (.ref 2)]) (st' := [.ref 2, .ref 14]) (I' := I) (L' := L) (R' := zw_RC h sp la) rfl ?_
          refine zv_cV (M' := mm_X5_takesPair) (ci := 5) (a := 14) (av := [.ref 2]) (st := []) (r := some (.int (tk_b (tk_pair I 14)))) (I' := ((tk_pair I 14).getD I)) (L' := L) (R' := zw_RC h sp la) rfl zc_5_105 gd_X5_takesPair rfl rfl rfl (Nat.le_of_ble_eq_true rfl) (ct3_X5_takesPair (d := _) (Or.inr rfl)) ⟨Nat.le_refl _, Nat.le_refl _⟩ ?_
          refine zv_run 0 (pc' := 143) (lo' := [some (.ref 14), some (.ref 2)]) (st' := [.int (tk_b (tk_pair I 14))]) (I' := ((tk_pair I 14).getD I)) (L' := L) (R' := zw_RC h sp la) rfl ?_
          exact zv_zret (zs_at rfl) rfl (tk_b01 _) ⟨Nat.le_refl _, Nat.le_refl _⟩ (by have e1 : fh_takes I 14 = tk_pair I 14 := (by unfold fh_takes; rw [if_neg hE, show I 2 1 = 115 from nI_is (k := 115) (by omega) (by decide)]; try rfl); exact zw_to (by rw [e1]) (by rw [e1]) rfl rfl)
        · refine zv_tableIn (off := 93) (tgt := 120) (zs_at rfl) (by omega) (by omega) (by rw [t27e]; rfl) rfl ?_
          refine zv_run 2 (pc' := 122) (lo' := [some (.ref 14), some (.ref 2)]) (st' := [.ref 2, .ref 14]) (I' := I) (L' := L) (R' := zw_RC h sp la) rfl ?_
          refine zv_cV (M' := mm_X5_takesTank) (ci := 5) (a := 14) (av := [.ref 2]) (st := []) (r := some (.int (tk_b (tk_if (ti_tank I) (tm_tank I 14))))) (I' := ((tk_if (ti_tank I) (tm_tank I 14)).getD I)) (L' := L) (R' := zw_RC h sp la) rfl zc_5_95 gd_X5_takesTank rfl rfl rfl (Nat.le_of_ble_eq_true rfl) (ct3_X5_takesTank (d := _) (Or.inr rfl)) ⟨Nat.le_refl _, Nat.le_refl _⟩ ?_
          refine zv_run 0 (pc' := 125) (lo' := [some (.ref 14), some (.ref 2)]) (st' := [.int (tk_b (tk_if (ti_tank I) (tm_tank I 14)))]) (I' := ((tk_if (ti_tank I) (tm_tank I 14)).getD I)) (L' := L) (R' := zw_RC h sp la) rfl ?_
          exact zv_zret (zs_at rfl) rfl (tk_b01 _) ⟨Nat.le_refl _, Nat.le_refl _⟩ (by have e1 : fh_takes I 14 = tk_if (ti_tank I) (tm_tank I 14) := (by unfold fh_takes; rw [if_neg hE, show I 2 1 = 116 from nI_is (k := 116) (by omega) (by decide)]; try rfl); exact zw_to (by rw [e1]) (by rw [e1]) rfl rfl)
    · have _c := c18
      have hE : I 14 0 = (if I 2 1 = 116 then 1 else 0) := by rw [if_neg c10]; exact c18
      refine zv_run 1 (pc' := 22) (lo' := [some (.ref 14), some (.ref 2)]) (st' := [.int 0]) (I' := I) (L' := L) (R' := zw_RC h sp la) rfl ?_
      exact zv_zret (zs_at rfl) rfl (Or.inl rfl) ⟨Nat.le_refl _, Nat.le_refl _⟩ (by have e0 : fh_takes I 14 = none := (by unfold fh_takes; rw [if_pos hE]); exact zw_to (by rw [e0]; rfl) (by rw [e0]; rfl) rfl rfl)
  · have _c := c10
    refine zv_run 2 (pc' := 18) (lo' := [some (.ref 14), some (.ref 2)]) (st' := [.int 1, .int (I 14 0)]) (I' := I) (L' := L) (R' := zw_RC h sp la) rfl ?_
    refine zv_icmp_ne (tgt := 23) (zs_at rfl) (by decide) (fun c18 => ?_) (fun c18 => ?_)
    · have _c := c18
      have hE : ¬ I 14 0 = (if I 2 1 = 116 then 1 else 0) := by rw [if_pos c10]; exact c18
      refine zv_run 2 (pc' := 27) (lo' := [some (.ref 14), some (.ref 2)]) (st' := [.int (I 2 1)]) (I' := I) (L' := L) (R' := zw_RC h sp la) rfl ?_
      by_cases t27 : (I 2 1).toInt < 97 ∨ 116 < (I 2 1).toInt
      · refine zv_tableOut (tgt := 150) (zs_at rfl) t27 rfl ?_
        refine zv_run 2 (pc' := 152) (lo' := [some (.ref 14), some (.ref 2)]) (st' := [.ref 2, .ref 14]) (I' := I) (L' := L) (R' := zw_RC h sp la) rfl ?_
        refine zv_cV (M' := mm_X5_takesNumber) (ci := 5) (a := 14) (av := [.ref 2]) (st := []) (r := some (.int (tk_b (tk_if (¬ ti_num I = 0) (tm_num I 14))))) (I' := ((tk_if (¬ ti_num I = 0) (tm_num I 14)).getD I)) (L' := L) (R' := zw_RC h sp la) rfl zc_5_111 gd_X5_takesNumber rfl rfl rfl (Nat.le_of_ble_eq_true rfl) (ct3_X5_takesNumber (d := _) (Or.inr rfl)) ⟨Nat.le_refl _, Nat.le_refl _⟩ ?_
        refine zv_run 0 (pc' := 155) (lo' := [some (.ref 14), some (.ref 2)]) (st' := [.int (tk_b (tk_if (¬ ti_num I = 0) (tm_num I 14)))]) (I' := ((tk_if (¬ ti_num I = 0) (tm_num I 14)).getD I)) (L' := L) (R' := zw_RC h sp la) rfl ?_
        exact zv_zret (zs_at rfl) rfl (tk_b01 _) ⟨Nat.le_refl _, Nat.le_refl _⟩ (by have e1 : fh_takes I 14 = tk_if (¬ ti_num I = 0) (tm_num I 14) := (by unfold fh_takes; rw [if_neg hE, if_neg (fun q => by rw [q] at t27; revert t27; decide), if_neg (fun q => by rw [q] at t27; revert t27; decide), if_neg (fun q => by rw [q] at t27; revert t27; decide), if_neg (fun q => by rcases q with q | q <;> (rw [q] at t27; revert t27; decide)), if_neg (fun q => by rw [q] at t27; revert t27; decide)]); exact zw_to (by rw [e1]) (by rw [e1]) rfl rfl)
      · rcases (show (I 2 1).toInt = 97 ∨ (I 2 1).toInt = 98 ∨ (I 2 1).toInt = 99 ∨ (I 2 1).toInt = 100 ∨ (I 2 1).toInt = 101 ∨ (I 2 1).toInt = 102 ∨ (I 2 1).toInt = 103 ∨ (I 2 1).toInt = 104 ∨ (I 2 1).toInt = 105 ∨ (I 2 1).toInt = 106 ∨ (I 2 1).toInt = 107 ∨ (I 2 1).toInt = 108 ∨ (I 2 1).toInt = 109 ∨ (I 2 1).toInt = 110 ∨ (I 2 1).toInt = 111 ∨ (I 2 1).toInt = 112 ∨ (I 2 1).toInt = 113 ∨ (I 2 1).toInt = 114 ∨ (I 2 1).toInt = 115 ∨ (I 2 1).toInt = 116 from by omega) with t27e | t27e | t27e | t27e | t27e | t27e | t27e | t27e | t27e | t27e | t27e | t27e | t27e | t27e | t27e | t27e | t27e | t27e | t27e | t27e
        · refine zv_tableIn (off := 111) (tgt := 138) (zs_at rfl) (by omega) (by omega) (by rw [t27e]; rfl) rfl ?_
          refine zv_run 2 (pc' := 140) (lo' := [some (.ref 14), some (.ref 2)]) (st' := [.ref 2, .ref 14]) (I' := I) (L' := L) (R' := zw_RC h sp la) rfl ?_
          refine zv_cV (M' := mm_X5_takesPair) (ci := 5) (a := 14) (av := [.ref 2]) (st := []) (r := some (.int (tk_b (tk_pair I 14)))) (I' := ((tk_pair I 14).getD I)) (L' := L) (R' := zw_RC h sp la) rfl zc_5_105 gd_X5_takesPair rfl rfl rfl (Nat.le_of_ble_eq_true rfl) (ct3_X5_takesPair (d := _) (Or.inr rfl)) ⟨Nat.le_refl _, Nat.le_refl _⟩ ?_
          refine zv_run 0 (pc' := 143) (lo' := [some (.ref 14), some (.ref 2)]) (st' := [.int (tk_b (tk_pair I 14))]) (I' := ((tk_pair I 14).getD I)) (L' := L) (R' := zw_RC h sp la) rfl ?_
          exact zv_zret (zs_at rfl) rfl (tk_b01 _) ⟨Nat.le_refl _, Nat.le_refl _⟩ (by have e1 : fh_takes I 14 = tk_pair I 14 := (by unfold fh_takes; rw [if_neg hE, show I 2 1 = 97 from nI_is (k := 97) (by omega) (by decide)]; try rfl); exact zw_to (by rw [e1]) (by rw [e1]) rfl rfl)
        · refine zv_tableIn (off := 105) (tgt := 132) (zs_at rfl) (by omega) (by omega) (by rw [t27e]; rfl) rfl ?_
          refine zv_run 2 (pc' := 134) (lo' := [some (.ref 14), some (.ref 2)]) (st' := [.ref 2, .ref 14]) (I' := I) (L' := L) (R' := zw_RC h sp la) rfl ?_
          refine zv_cV (M' := mm_X5_takesBather) (ci := 5) (a := 14) (av := [.ref 2]) (st := []) (r := some (.int (tk_b (tk_if (ti_bather I 14) (tm_bather I 14 (I 14 13).toInt.toNat))))) (I' := ((tk_if (ti_bather I 14) (tm_bather I 14 (I 14 13).toInt.toNat)).getD I)) (L' := L) (R' := zw_RC h sp la) rfl zc_5_102 gd_X5_takesBather rfl rfl rfl (Nat.le_of_ble_eq_true rfl) (ct3_X5_takesBather (d := _) (Or.inr rfl) hc) ⟨Nat.le_refl _, Nat.le_refl _⟩ ?_
          refine zv_run 0 (pc' := 137) (lo' := [some (.ref 14), some (.ref 2)]) (st' := [.int (tk_b (tk_if (ti_bather I 14) (tm_bather I 14 (I 14 13).toInt.toNat)))]) (I' := ((tk_if (ti_bather I 14) (tm_bather I 14 (I 14 13).toInt.toNat)).getD I)) (L' := L) (R' := zw_RC h sp la) rfl ?_
          exact zv_zret (zs_at rfl) rfl (tk_b01 _) ⟨Nat.le_refl _, Nat.le_refl _⟩ (by have e1 : fh_takes I 14 = tk_if (ti_bather I 14) (tm_bather I 14 (I 14 13).toInt.toNat) := (by unfold fh_takes; rw [if_neg hE, show I 2 1 = 98 from nI_is (k := 98) (by omega) (by decide)]; try rfl); exact zw_to (by rw [e1]) (by rw [e1]) rfl rfl)
        · refine zv_tableIn (off := 123) (tgt := 150) (zs_at rfl) (by omega) (by omega) (by rw [t27e]; rfl) rfl ?_
          refine zv_run 2 (pc' := 152) (lo' := [some (.ref 14), some (.ref 2)]) (st' := [.ref 2, .ref 14]) (I' := I) (L' := L) (R' := zw_RC h sp la) rfl ?_
          refine zv_cV (M' := mm_X5_takesNumber) (ci := 5) (a := 14) (av := [.ref 2]) (st := []) (r := some (.int (tk_b (tk_if (¬ ti_num I = 0) (tm_num I 14))))) (I' := ((tk_if (¬ ti_num I = 0) (tm_num I 14)).getD I)) (L' := L) (R' := zw_RC h sp la) rfl zc_5_111 gd_X5_takesNumber rfl rfl rfl (Nat.le_of_ble_eq_true rfl) (ct3_X5_takesNumber (d := _) (Or.inr rfl)) ⟨Nat.le_refl _, Nat.le_refl _⟩ ?_
          refine zv_run 0 (pc' := 155) (lo' := [some (.ref 14), some (.ref 2)]) (st' := [.int (tk_b (tk_if (¬ ti_num I = 0) (tm_num I 14)))]) (I' := ((tk_if (¬ ti_num I = 0) (tm_num I 14)).getD I)) (L' := L) (R' := zw_RC h sp la) rfl ?_
          exact zv_zret (zs_at rfl) rfl (tk_b01 _) ⟨Nat.le_refl _, Nat.le_refl _⟩ (by have e1 : fh_takes I 14 = tk_if (¬ ti_num I = 0) (tm_num I 14) := (by unfold fh_takes; rw [if_neg hE, show I 2 1 = 99 from nI_is (k := 99) (by omega) (by decide)]; try rfl); exact zw_to (by rw [e1]) (by rw [e1]) rfl rfl)
        · refine zv_tableIn (off := 123) (tgt := 150) (zs_at rfl) (by omega) (by omega) (by rw [t27e]; rfl) rfl ?_
          refine zv_run 2 (pc' := 152) (lo' := [some (.ref 14), some (.ref 2)]) (st' := [.ref 2, .ref 14]) (I' := I) (L' := L) (R' := zw_RC h sp la) rfl ?_
          refine zv_cV (M' := mm_X5_takesNumber) (ci := 5) (a := 14) (av := [.ref 2]) (st := []) (r := some (.int (tk_b (tk_if (¬ ti_num I = 0) (tm_num I 14))))) (I' := ((tk_if (¬ ti_num I = 0) (tm_num I 14)).getD I)) (L' := L) (R' := zw_RC h sp la) rfl zc_5_111 gd_X5_takesNumber rfl rfl rfl (Nat.le_of_ble_eq_true rfl) (ct3_X5_takesNumber (d := _) (Or.inr rfl)) ⟨Nat.le_refl _, Nat.le_refl _⟩ ?_
          refine zv_run 0 (pc' := 155) (lo' := [some (.ref 14), some (.ref 2)]) (st' := [.int (tk_b (tk_if (¬ ti_num I = 0) (tm_num I 14)))]) (I' := ((tk_if (¬ ti_num I = 0) (tm_num I 14)).getD I)) (L' := L) (R' := zw_RC h sp la) rfl ?_
          exact zv_zret (zs_at rfl) rfl (tk_b01 _) ⟨Nat.le_refl _, Nat.le_refl _⟩ (by have e1 : fh_takes I 14 = tk_if (¬ ti_num I = 0) (tm_num I 14) := (by unfold fh_takes; rw [if_neg hE, show I 2 1 = 100 from nI_is (k := 100) (by omega) (by decide)]; try rfl); exact zw_to (by rw [e1]) (by rw [e1]) rfl rfl)
        · refine zv_tableIn (off := 123) (tgt := 150) (zs_at rfl) (by omega) (by omega) (by rw [t27e]; rfl) rfl ?_
          refine zv_run 2 (pc' := 152) (lo' := [some (.ref 14), some (.ref 2)]) (st' := [.ref 2, .ref 14]) (I' := I) (L' := L) (R' := zw_RC h sp la) rfl ?_
          refine zv_cV (M' := mm_X5_takesNumber) (ci := 5) (a := 14) (av := [.ref 2]) (st := []) (r := some (.int (tk_b (tk_if (¬ ti_num I = 0) (tm_num I 14))))) (I' := ((tk_if (¬ ti_num I = 0) (tm_num I 14)).getD I)) (L' := L) (R' := zw_RC h sp la) rfl zc_5_111 gd_X5_takesNumber rfl rfl rfl (Nat.le_of_ble_eq_true rfl) (ct3_X5_takesNumber (d := _) (Or.inr rfl)) ⟨Nat.le_refl _, Nat.le_refl _⟩ ?_
          refine zv_run 0 (pc' := 155) (lo' := [some (.ref 14), some (.ref 2)]) (st' := [.int (tk_b (tk_if (¬ ti_num I = 0) (tm_num I 14)))]) (I' := ((tk_if (¬ ti_num I = 0) (tm_num I 14)).getD I)) (L' := L) (R' := zw_RC h sp la) rfl ?_
          exact zv_zret (zs_at rfl) rfl (tk_b01 _) ⟨Nat.le_refl _, Nat.le_refl _⟩ (by have e1 : fh_takes I 14 = tk_if (¬ ti_num I = 0) (tm_num I 14) := (by unfold fh_takes; rw [if_neg hE, show I 2 1 = 101 from nI_is (k := 101) (by omega) (by decide)]; try rfl); exact zw_to (by rw [e1]) (by rw [e1]) rfl rfl)
        · refine zv_tableIn (off := 99) (tgt := 126) (zs_at rfl) (by omega) (by omega) (by rw [t27e]; rfl) rfl ?_
          refine zv_run 2 (pc' := 128) (lo' := [some (.ref 14), some (.ref 2)]) (st' := [.ref 2, .ref 14]) (I' := I) (L' := L) (R' := zw_RC h sp la) rfl ?_
          refine zv_cV (M' := mm_X5_takesStage) (ci := 5) (a := 14) (av := [.ref 2]) (st := []) (r := some (.int (tk_b (tk_if (ti_stage I) (tm_stage I 14))))) (I' := ((tk_if (ti_stage I) (tm_stage I 14)).getD I)) (L' := L) (R' := zw_RC h sp la) rfl zc_5_99 gd_X5_takesStage rfl rfl rfl (Nat.le_of_ble_eq_true rfl) (ct3_X5_takesStage (d := _) (Or.inr rfl)) ⟨Nat.le_refl _, Nat.le_refl _⟩ ?_
          refine zv_run 0 (pc' := 131) (lo' := [some (.ref 14), some (.ref 2)]) (st' := [.int (tk_b (tk_if (ti_stage I) (tm_stage I 14)))]) (I' := ((tk_if (ti_stage I) (tm_stage I 14)).getD I)) (L' := L) (R' := zw_RC h sp la) rfl ?_
          exact zv_zret (zs_at rfl) rfl (tk_b01 _) ⟨Nat.le_refl _, Nat.le_refl _⟩ (by have e1 : fh_takes I 14 = tk_if (ti_stage I) (tm_stage I 14) := (by unfold fh_takes; rw [if_neg hE, show I 2 1 = 102 from nI_is (k := 102) (by omega) (by decide)]; try rfl); exact zw_to (by rw [e1]) (by rw [e1]) rfl rfl)
        · refine zv_tableIn (off := 123) (tgt := 150) (zs_at rfl) (by omega) (by omega) (by rw [t27e]; rfl) rfl ?_
          refine zv_run 2 (pc' := 152) (lo' := [some (.ref 14), some (.ref 2)]) (st' := [.ref 2, .ref 14]) (I' := I) (L' := L) (R' := zw_RC h sp la) rfl ?_
          refine zv_cV (M' := mm_X5_takesNumber) (ci := 5) (a := 14) (av := [.ref 2]) (st := []) (r := some (.int (tk_b (tk_if (¬ ti_num I = 0) (tm_num I 14))))) (I' := ((tk_if (¬ ti_num I = 0) (tm_num I 14)).getD I)) (L' := L) (R' := zw_RC h sp la) rfl zc_5_111 gd_X5_takesNumber rfl rfl rfl (Nat.le_of_ble_eq_true rfl) (ct3_X5_takesNumber (d := _) (Or.inr rfl)) ⟨Nat.le_refl _, Nat.le_refl _⟩ ?_
          refine zv_run 0 (pc' := 155) (lo' := [some (.ref 14), some (.ref 2)]) (st' := [.int (tk_b (tk_if (¬ ti_num I = 0) (tm_num I 14)))]) (I' := ((tk_if (¬ ti_num I = 0) (tm_num I 14)).getD I)) (L' := L) (R' := zw_RC h sp la) rfl ?_
          exact zv_zret (zs_at rfl) rfl (tk_b01 _) ⟨Nat.le_refl _, Nat.le_refl _⟩ (by have e1 : fh_takes I 14 = tk_if (¬ ti_num I = 0) (tm_num I 14) := (by unfold fh_takes; rw [if_neg hE, show I 2 1 = 103 from nI_is (k := 103) (by omega) (by decide)]; try rfl); exact zw_to (by rw [e1]) (by rw [e1]) rfl rfl)
        · refine zv_tableIn (off := 123) (tgt := 150) (zs_at rfl) (by omega) (by omega) (by rw [t27e]; rfl) rfl ?_
          refine zv_run 2 (pc' := 152) (lo' := [some (.ref 14), some (.ref 2)]) (st' := [.ref 2, .ref 14]) (I' := I) (L' := L) (R' := zw_RC h sp la) rfl ?_
          refine zv_cV (M' := mm_X5_takesNumber) (ci := 5) (a := 14) (av := [.ref 2]) (st := []) (r := some (.int (tk_b (tk_if (¬ ti_num I = 0) (tm_num I 14))))) (I' := ((tk_if (¬ ti_num I = 0) (tm_num I 14)).getD I)) (L' := L) (R' := zw_RC h sp la) rfl zc_5_111 gd_X5_takesNumber rfl rfl rfl (Nat.le_of_ble_eq_true rfl) (ct3_X5_takesNumber (d := _) (Or.inr rfl)) ⟨Nat.le_refl _, Nat.le_refl _⟩ ?_
          refine zv_run 0 (pc' := 155) (lo' := [some (.ref 14), some (.ref 2)]) (st' := [.int (tk_b (tk_if (¬ ti_num I = 0) (tm_num I 14)))]) (I' := ((tk_if (¬ ti_num I = 0) (tm_num I 14)).getD I)) (L' := L) (R' := zw_RC h sp la) rfl ?_
          exact zv_zret (zs_at rfl) rfl (tk_b01 _) ⟨Nat.le_refl _, Nat.le_refl _⟩ (by have e1 : fh_takes I 14 = tk_if (¬ ti_num I = 0) (tm_num I 14) := (by unfold fh_takes; rw [if_neg hE, show I 2 1 = 104 from nI_is (k := 104) (by omega) (by decide)]; try rfl); exact zw_to (by rw [e1]) (by rw [e1]) rfl rfl)
        · refine zv_tableIn (off := 123) (tgt := 150) (zs_at rfl) (by omega) (by omega) (by rw [t27e]; rfl) rfl ?_
          refine zv_run 2 (pc' := 152) (lo' := [some (.ref 14), some (.ref 2)]) (st' := [.ref 2, .ref 14]) (I' := I) (L' := L) (R' := zw_RC h sp la) rfl ?_
          refine zv_cV (M' := mm_X5_takesNumber) (ci := 5) (a := 14) (av := [.ref 2]) (st := []) (r := some (.int (tk_b (tk_if (¬ ti_num I = 0) (tm_num I 14))))) (I' := ((tk_if (¬ ti_num I = 0) (tm_num I 14)).getD I)) (L' := L) (R' := zw_RC h sp la) rfl zc_5_111 gd_X5_takesNumber rfl rfl rfl (Nat.le_of_ble_eq_true rfl) (ct3_X5_takesNumber (d := _) (Or.inr rfl)) ⟨Nat.le_refl _, Nat.le_refl _⟩ ?_
          refine zv_run 0 (pc' := 155) (lo' := [some (.ref 14), some (.ref 2)]) (st' := [.int (tk_b (tk_if (¬ ti_num I = 0) (tm_num I 14)))]) (I' := ((tk_if (¬ ti_num I = 0) (tm_num I 14)).getD I)) (L' := L) (R' := zw_RC h sp la) rfl ?_
          exact zv_zret (zs_at rfl) rfl (tk_b01 _) ⟨Nat.le_refl _, Nat.le_refl _⟩ (by have e1 : fh_takes I 14 = tk_if (¬ ti_num I = 0) (tm_num I 14) := (by unfold fh_takes; rw [if_neg hE, show I 2 1 = 105 from nI_is (k := 105) (by omega) (by decide)]; try rfl); exact zw_to (by rw [e1]) (by rw [e1]) rfl rfl)
        · refine zv_tableIn (off := 123) (tgt := 150) (zs_at rfl) (by omega) (by omega) (by rw [t27e]; rfl) rfl ?_
          refine zv_run 2 (pc' := 152) (lo' := [some (.ref 14), some (.ref 2)]) (st' := [.ref 2, .ref 14]) (I' := I) (L' := L) (R' := zw_RC h sp la) rfl ?_
          refine zv_cV (M' := mm_X5_takesNumber) (ci := 5) (a := 14) (av := [.ref 2]) (st := []) (r := some (.int (tk_b (tk_if (¬ ti_num I = 0) (tm_num I 14))))) (I' := ((tk_if (¬ ti_num I = 0) (tm_num I 14)).getD I)) (L' := L) (R' := zw_RC h sp la) rfl zc_5_111 gd_X5_takesNumber rfl rfl rfl (Nat.le_of_ble_eq_true rfl) (ct3_X5_takesNumber (d := _) (Or.inr rfl)) ⟨Nat.le_refl _, Nat.le_refl _⟩ ?_
          refine zv_run 0 (pc' := 155) (lo' := [some (.ref 14), some (.ref 2)]) (st' := [.int (tk_b (tk_if (¬ ti_num I = 0) (tm_num I 14)))]) (I' := ((tk_if (¬ ti_num I = 0) (tm_num I 14)).getD I)) (L' := L) (R' := zw_RC h sp la) rfl ?_
          exact zv_zret (zs_at rfl) rfl (tk_b01 _) ⟨Nat.le_refl _, Nat.le_refl _⟩ (by have e1 : fh_takes I 14 = tk_if (¬ ti_num I = 0) (tm_num I 14) := (by unfold fh_takes; rw [if_neg hE, show I 2 1 = 106 from nI_is (k := 106) (by omega) (by decide)]; try rfl); exact zw_to (by rw [e1]) (by rw [e1]) rfl rfl)
        · refine zv_tableIn (off := 117) (tgt := 144) (zs_at rfl) (by omega) (by omega) (by rw [t27e]; rfl) rfl ?_
          refine zv_run 2 (pc' := 146) (lo' := [some (.ref 14), some (.ref 2)]) (st' := [.ref 2, .ref 14]) (I' := I) (L' := L) (R' := zw_RC h sp la) rfl ?_
          refine zv_cV (M' := mm_X5_takesKettle) (ci := 5) (a := 14) (av := [.ref 2]) (st := []) (r := some (.int (tk_b (tk_if (ti_kettle I) (tm_kettle I 14))))) (I' := ((tk_if (ti_kettle I) (tm_kettle I 14)).getD I)) (L' := L) (R' := zw_RC h sp la) rfl zc_5_108 gd_X5_takesKettle rfl rfl rfl (Nat.le_of_ble_eq_true rfl) (ct3_X5_takesKettle (d := _) (Or.inr rfl)) ⟨Nat.le_refl _, Nat.le_refl _⟩ ?_
          refine zv_run 0 (pc' := 149) (lo' := [some (.ref 14), some (.ref 2)]) (st' := [.int (tk_b (tk_if (ti_kettle I) (tm_kettle I 14)))]) (I' := ((tk_if (ti_kettle I) (tm_kettle I 14)).getD I)) (L' := L) (R' := zw_RC h sp la) rfl ?_
          exact zv_zret (zs_at rfl) rfl (tk_b01 _) ⟨Nat.le_refl _, Nat.le_refl _⟩ (by have e1 : fh_takes I 14 = tk_if (ti_kettle I) (tm_kettle I 14) := (by unfold fh_takes; rw [if_neg hE, show I 2 1 = 107 from nI_is (k := 107) (by omega) (by decide)]; try rfl); exact zw_to (by rw [e1]) (by rw [e1]) rfl rfl)
        · refine zv_tableIn (off := 123) (tgt := 150) (zs_at rfl) (by omega) (by omega) (by rw [t27e]; rfl) rfl ?_
          refine zv_run 2 (pc' := 152) (lo' := [some (.ref 14), some (.ref 2)]) (st' := [.ref 2, .ref 14]) (I' := I) (L' := L) (R' := zw_RC h sp la) rfl ?_
          refine zv_cV (M' := mm_X5_takesNumber) (ci := 5) (a := 14) (av := [.ref 2]) (st := []) (r := some (.int (tk_b (tk_if (¬ ti_num I = 0) (tm_num I 14))))) (I' := ((tk_if (¬ ti_num I = 0) (tm_num I 14)).getD I)) (L' := L) (R' := zw_RC h sp la) rfl zc_5_111 gd_X5_takesNumber rfl rfl rfl (Nat.le_of_ble_eq_true rfl) (ct3_X5_takesNumber (d := _) (Or.inr rfl)) ⟨Nat.le_refl _, Nat.le_refl _⟩ ?_
          refine zv_run 0 (pc' := 155) (lo' := [some (.ref 14), some (.ref 2)]) (st' := [.int (tk_b (tk_if (¬ ti_num I = 0) (tm_num I 14)))]) (I' := ((tk_if (¬ ti_num I = 0) (tm_num I 14)).getD I)) (L' := L) (R' := zw_RC h sp la) rfl ?_
          exact zv_zret (zs_at rfl) rfl (tk_b01 _) ⟨Nat.le_refl _, Nat.le_refl _⟩ (by have e1 : fh_takes I 14 = tk_if (¬ ti_num I = 0) (tm_num I 14) := (by unfold fh_takes; rw [if_neg hE, show I 2 1 = 108 from nI_is (k := 108) (by omega) (by decide)]; try rfl); exact zw_to (by rw [e1]) (by rw [e1]) rfl rfl)
        · refine zv_tableIn (off := 123) (tgt := 150) (zs_at rfl) (by omega) (by omega) (by rw [t27e]; rfl) rfl ?_
          refine zv_run 2 (pc' := 152) (lo' := [some (.ref 14), some (.ref 2)]) (st' := [.ref 2, .ref 14]) (I' := I) (L' := L) (R' := zw_RC h sp la) rfl ?_
          refine zv_cV (M' := mm_X5_takesNumber) (ci := 5) (a := 14) (av := [.ref 2]) (st := []) (r := some (.int (tk_b (tk_if (¬ ti_num I = 0) (tm_num I 14))))) (I' := ((tk_if (¬ ti_num I = 0) (tm_num I 14)).getD I)) (L' := L) (R' := zw_RC h sp la) rfl zc_5_111 gd_X5_takesNumber rfl rfl rfl (Nat.le_of_ble_eq_true rfl) (ct3_X5_takesNumber (d := _) (Or.inr rfl)) ⟨Nat.le_refl _, Nat.le_refl _⟩ ?_
          refine zv_run 0 (pc' := 155) (lo' := [some (.ref 14), some (.ref 2)]) (st' := [.int (tk_b (tk_if (¬ ti_num I = 0) (tm_num I 14)))]) (I' := ((tk_if (¬ ti_num I = 0) (tm_num I 14)).getD I)) (L' := L) (R' := zw_RC h sp la) rfl ?_
          exact zv_zret (zs_at rfl) rfl (tk_b01 _) ⟨Nat.le_refl _, Nat.le_refl _⟩ (by have e1 : fh_takes I 14 = tk_if (¬ ti_num I = 0) (tm_num I 14) := (by unfold fh_takes; rw [if_neg hE, show I 2 1 = 109 from nI_is (k := 109) (by omega) (by decide)]; try rfl); exact zw_to (by rw [e1]) (by rw [e1]) rfl rfl)
        · refine zv_tableIn (off := 123) (tgt := 150) (zs_at rfl) (by omega) (by omega) (by rw [t27e]; rfl) rfl ?_
          refine zv_run 2 (pc' := 152) (lo' := [some (.ref 14), some (.ref 2)]) (st' := [.ref 2, .ref 14]) (I' := I) (L' := L) (R' := zw_RC h sp la) rfl ?_
          refine zv_cV (M' := mm_X5_takesNumber) (ci := 5) (a := 14) (av := [.ref 2]) (st := []) (r := some (.int (tk_b (tk_if (¬ ti_num I = 0) (tm_num I 14))))) (I' := ((tk_if (¬ ti_num I = 0) (tm_num I 14)).getD I)) (L' := L) (R' := zw_RC h sp la) rfl zc_5_111 gd_X5_takesNumber rfl rfl rfl (Nat.le_of_ble_eq_true rfl) (ct3_X5_takesNumber (d := _) (Or.inr rfl)) ⟨Nat.le_refl _, Nat.le_refl _⟩ ?_
          refine zv_run 0 (pc' := 155) (lo' := [some (.ref 14), some (.ref 2)]) (st' := [.int (tk_b (tk_if (¬ ti_num I = 0) (tm_num I 14)))]) (I' := ((tk_if (¬ ti_num I = 0) (tm_num I 14)).getD I)) (L' := L) (R' := zw_RC h sp la) rfl ?_
          exact zv_zret (zs_at rfl) rfl (tk_b01 _) ⟨Nat.le_refl _, Nat.le_refl _⟩ (by have e1 : fh_takes I 14 = tk_if (¬ ti_num I = 0) (tm_num I 14) := (by unfold fh_takes; rw [if_neg hE, show I 2 1 = 110 from nI_is (k := 110) (by omega) (by decide)]; try rfl); exact zw_to (by rw [e1]) (by rw [e1]) rfl rfl)
        · refine zv_tableIn (off := 123) (tgt := 150) (zs_at rfl) (by omega) (by omega) (by rw [t27e]; rfl) rfl ?_
          refine zv_run 2 (pc' := 152) (lo' := [some (.ref 14), some (.ref 2)]) (st' := [.ref 2, .ref 14]) (I' := I) (L' := L) (R' := zw_RC h sp la) rfl ?_
          refine zv_cV (M' := mm_X5_takesNumber) (ci := 5) (a := 14) (av := [.ref 2]) (st := []) (r := some (.int (tk_b (tk_if (¬ ti_num I = 0) (tm_num I 14))))) (I' := ((tk_if (¬ ti_num I = 0) (tm_num I 14)).getD I)) (L' := L) (R' := zw_RC h sp la) rfl zc_5_111 gd_X5_takesNumber rfl rfl rfl (Nat.le_of_ble_eq_true rfl) (ct3_X5_takesNumber (d := _) (Or.inr rfl)) ⟨Nat.le_refl _, Nat.le_refl _⟩ ?_
          refine zv_run 0 (pc' := 155) (lo' := [some (.ref 14), some (.ref 2)]) (st' := [.int (tk_b (tk_if (¬ ti_num I = 0) (tm_num I 14)))]) (I' := ((tk_if (¬ ti_num I = 0) (tm_num I 14)).getD I)) (L' := L) (R' := zw_RC h sp la) rfl ?_
          exact zv_zret (zs_at rfl) rfl (tk_b01 _) ⟨Nat.le_refl _, Nat.le_refl _⟩ (by have e1 : fh_takes I 14 = tk_if (¬ ti_num I = 0) (tm_num I 14) := (by unfold fh_takes; rw [if_neg hE, show I 2 1 = 111 from nI_is (k := 111) (by omega) (by decide)]; try rfl); exact zw_to (by rw [e1]) (by rw [e1]) rfl rfl)
        · refine zv_tableIn (off := 123) (tgt := 150) (zs_at rfl) (by omega) (by omega) (by rw [t27e]; rfl) rfl ?_
          refine zv_run 2 (pc' := 152) (lo' := [some (.ref 14), some (.ref 2)]) (st' := [.ref 2, .ref 14]) (I' := I) (L' := L) (R' := zw_RC h sp la) rfl ?_
          refine zv_cV (M' := mm_X5_takesNumber) (ci := 5) (a := 14) (av := [.ref 2]) (st := []) (r := some (.int (tk_b (tk_if (¬ ti_num I = 0) (tm_num I 14))))) (I' := ((tk_if (¬ ti_num I = 0) (tm_num I 14)).getD I)) (L' := L) (R' := zw_RC h sp la) rfl zc_5_111 gd_X5_takesNumber rfl rfl rfl (Nat.le_of_ble_eq_true rfl) (ct3_X5_takesNumber (d := _) (Or.inr rfl)) ⟨Nat.le_refl _, Nat.le_refl _⟩ ?_
          refine zv_run 0 (pc' := 155) (lo' := [some (.ref 14), some (.ref 2)]) (st' := [.int (tk_b (tk_if (¬ ti_num I = 0) (tm_num I 14)))]) (I' := ((tk_if (¬ ti_num I = 0) (tm_num I 14)).getD I)) (L' := L) (R' := zw_RC h sp la) rfl ?_
          exact zv_zret (zs_at rfl) rfl (tk_b01 _) ⟨Nat.le_refl _, Nat.le_refl _⟩ (by have e1 : fh_takes I 14 = tk_if (¬ ti_num I = 0) (tm_num I 14) := (by unfold fh_takes; rw [if_neg hE, show I 2 1 = 112 from nI_is (k := 112) (by omega) (by decide)]; try rfl); exact zw_to (by rw [e1]) (by rw [e1]) rfl rfl)
        · refine zv_tableIn (off := 123) (tgt := 150) (zs_at rfl) (by omega) (by omega) (by rw [t27e]; rfl) rfl ?_
          refine zv_run 2 (pc' := 152) (lo' := [some (.ref 14), some (.ref 2)]) (st' := [.ref 2, .ref 14]) (I' := I) (L' := L) (R' := zw_RC h sp la) rfl ?_
          refine zv_cV (M' := mm_X5_takesNumber) (ci := 5) (a := 14) (av := [.ref 2]) (st := []) (r := some (.int (tk_b (tk_if (¬ ti_num I = 0) (tm_num I 14))))) (I' := ((tk_if (¬ ti_num I = 0) (tm_num I 14)).getD I)) (L' := L) (R' := zw_RC h sp la) rfl zc_5_111 gd_X5_takesNumber rfl rfl rfl (Nat.le_of_ble_eq_true rfl) (ct3_X5_takesNumber (d := _) (Or.inr rfl)) ⟨Nat.le_refl _, Nat.le_refl _⟩ ?_
          refine zv_run 0 (pc' := 155) (lo' := [some (.ref 14), some (.ref 2)]) (st' := [.int (tk_b (tk_if (¬ ti_num I = 0) (tm_num I 14)))]) (I' := ((tk_if (¬ ti_num I = 0) (tm_num I 14)).getD I)) (L' := L) (R' := zw_RC h sp la) rfl ?_
          exact zv_zret (zs_at rfl) rfl (tk_b01 _) ⟨Nat.le_refl _, Nat.le_refl _⟩ (by have e1 : fh_takes I 14 = tk_if (¬ ti_num I = 0) (tm_num I 14) := (by unfold fh_takes; rw [if_neg hE, show I 2 1 = 113 from nI_is (k := 113) (by omega) (by decide)]; try rfl); exact zw_to (by rw [e1]) (by rw [e1]) rfl rfl)
        · refine zv_tableIn (off := 123) (tgt := 150) (zs_at rfl) (by omega) (by omega) (by rw [t27e]; rfl) rfl ?_
          refine zv_run 2 (pc' := 152) (lo' := [some (.ref 14), some (.ref 2)]) (st' := [.ref 2, .ref 14]) (I' := I) (L' := L) (R' := zw_RC h sp la) rfl ?_
          refine zv_cV (M' := mm_X5_takesNumber) (ci := 5) (a := 14) (av := [.ref 2]) (st := []) (r := some (.int (tk_b (tk_if (¬ ti_num I = 0) (tm_num I 14))))) (I' := ((tk_if (¬ ti_num I = 0) (tm_num I 14)).getD I)) (L' := L) (R' := zw_RC h sp la) rfl zc_5_111 gd_X5_takesNumber rfl rfl rfl (Nat.le_of_ble_eq_true rfl) (ct3_X5_takesNumber (d := _) (Or.inr rfl)) ⟨Nat.le_refl _, Nat.le_refl _⟩ ?_
          refine zv_run 0 (pc' := 155) (lo' := [some (.ref 14), some (.ref 2)]) (st' := [.int (tk_b (tk_if (¬ ti_num I = 0) (tm_num I 14)))]) (I' := ((tk_if (¬ ti_num I = 0) (tm_num I 14)).getD I)) (L' := L) (R' := zw_RC h sp la) rfl ?_
          exact zv_zret (zs_at rfl) rfl (tk_b01 _) ⟨Nat.le_refl _, Nat.le_refl _⟩ (by have e1 : fh_takes I 14 = tk_if (¬ ti_num I = 0) (tm_num I 14) := (by unfold fh_takes; rw [if_neg hE, show I 2 1 = 114 from nI_is (k := 114) (by omega) (by decide)]; try rfl); exact zw_to (by rw [e1]) (by rw [e1]) rfl rfl)
        · refine zv_tableIn (off := 111) (tgt := 138) (zs_at rfl) (by omega) (by omega) (by rw [t27e]; rfl) rfl ?_
          refine zv_run 2 (pc' := 140) (lo' := [some (.ref 14), some (.ref 2)]) (st' := [.ref 2, .ref 14]) (I' := I) (L' := L) (R' := zw_RC h sp la) rfl ?_
          refine zv_cV (M' := mm_X5_takesPair) (ci := 5) (a := 14) (av := [.ref 2]) (st := []) (r := some (.int (tk_b (tk_pair I 14)))) (I' := ((tk_pair I 14).getD I)) (L' := L) (R' := zw_RC h sp la) rfl zc_5_105 gd_X5_takesPair rfl rfl rfl (Nat.le_of_ble_eq_true rfl) (ct3_X5_takesPair (d := _) (Or.inr rfl)) ⟨Nat.le_refl _, Nat.le_refl _⟩ ?_
          refine zv_run 0 (pc' := 143) (lo' := [some (.ref 14), some (.ref 2)]) (st' := [.int (tk_b (tk_pair I 14))]) (I' := ((tk_pair I 14).getD I)) (L' := L) (R' := zw_RC h sp la) rfl ?_
          exact zv_zret (zs_at rfl) rfl (tk_b01 _) ⟨Nat.le_refl _, Nat.le_refl _⟩ (by have e1 : fh_takes I 14 = tk_pair I 14 := (by unfold fh_takes; rw [if_neg hE, show I 2 1 = 115 from nI_is (k := 115) (by omega) (by decide)]; try rfl); exact zw_to (by rw [e1]) (by rw [e1]) rfl rfl)
        · refine zv_tableIn (off := 93) (tgt := 120) (zs_at rfl) (by omega) (by omega) (by rw [t27e]; rfl) rfl ?_
          refine zv_run 2 (pc' := 122) (lo' := [some (.ref 14), some (.ref 2)]) (st' := [.ref 2, .ref 14]) (I' := I) (L' := L) (R' := zw_RC h sp la) rfl ?_
          refine zv_cV (M' := mm_X5_takesTank) (ci := 5) (a := 14) (av := [.ref 2]) (st := []) (r := some (.int (tk_b (tk_if (ti_tank I) (tm_tank I 14))))) (I' := ((tk_if (ti_tank I) (tm_tank I 14)).getD I)) (L' := L) (R' := zw_RC h sp la) rfl zc_5_95 gd_X5_takesTank rfl rfl rfl (Nat.le_of_ble_eq_true rfl) (ct3_X5_takesTank (d := _) (Or.inr rfl)) ⟨Nat.le_refl _, Nat.le_refl _⟩ ?_
          refine zv_run 0 (pc' := 125) (lo' := [some (.ref 14), some (.ref 2)]) (st' := [.int (tk_b (tk_if (ti_tank I) (tm_tank I 14)))]) (I' := ((tk_if (ti_tank I) (tm_tank I 14)).getD I)) (L' := L) (R' := zw_RC h sp la) rfl ?_
          exact zv_zret (zs_at rfl) rfl (tk_b01 _) ⟨Nat.le_refl _, Nat.le_refl _⟩ (by have e1 : fh_takes I 14 = tk_if (ti_tank I) (tm_tank I 14) := (by unfold fh_takes; rw [if_neg hE, show I 2 1 = 116 from nI_is (k := 116) (by omega) (by decide)]; try rfl); exact zw_to (by rw [e1]) (by rw [e1]) rfl rfl)
    · have _c := c18
      have hE : I 14 0 = (if I 2 1 = 116 then 1 else 0) := by rw [if_pos c10]; exact c18
      refine zv_run 1 (pc' := 22) (lo' := [some (.ref 14), some (.ref 2)]) (st' := [.int 0]) (I' := I) (L' := L) (R' := zw_RC h sp la) rfl ?_
      exact zv_zret (zs_at rfl) rfl (Or.inl rfl) ⟨Nat.le_refl _, Nat.le_refl _⟩ (by have e0 : fh_takes I 14 = none := (by unfold fh_takes; rw [if_pos hE]); exact zw_to (by rw [e0]; rfl) (by rw [e0]; rfl) rfl rfl)
def rd_c (J : zx_I) (i : Nat) : Int32 := J 1 (nI i).toNatClampNeg
def rd_put (J : zx_I) (v : Int32) : zx_I := zx_uI (zx_uI J 3 (J 2 2).toNatClampNeg v) 2 2 (J 2 2 + 1)
def rd_loop : Nat → Nat → Int32 → Int32 → zx_I → Int32 × zx_I
  | 0, _, _, _, J => (-4, J)
  | n + 1, i, v, f, J => if rd_c J i < 48 ∨ rd_c J i > 57 then (if (rd_c J i = 44 ∨ rd_c J i = 59) ∧ ¬ f ≤ 0 ∧ ¬ J 2 2 ≥ 6 then (if rd_c J i ≠ 59 then rd_loop n (i + 1) 0 0 (rd_put J v) else (nI i + 1, rd_put J v)) else (-4, J)) else (if f + 1 ≤ 4 then rd_loop n (i + 1) (10 * v + rd_c J i - 48) (f + 1) J else (-4, J))
def fi_read (I : zx_I) (l p : Nat) : Int32 × zx_I := rd_loop (l - (p + 1)) (p + 1) 0 0 (zx_uI (zx_uI I 2 2 0) 2 1 (I 1 (nI p).toNatClampNeg))
theorem nI_ge6 {m : Nat} (h : m ≥ 6) (h2 : m ≤ 6) : nI m ≥ 6 := by
  have : m = 6 := by omega
  subst this
  decide
theorem lp_X6_read {d : Nat} {L : zx_L} {h sp : Nat} {la : Option Nat} {l : Nat} {p : Int32} (hl : l ≤ 400) : ∀ (n i : Nat) (v f : Int32) (m : Nat) (J : zx_I) (x7 : Option Value), i + n = l → J 2 2 = nI m → m ≤ 6 → zx_V mm_X6_readFrom d z0 (zw_ret (some (.int (rd_loop n i v f J).1)) zw_SC (rd_loop n i v f J).2 L (zw_RC h sp la)) zw_SC 36 [some (.ref 2), some (.ref 1), some (.int (nI l)), some (.int p), some (.int v), some (.int f), some (.int (nI i)), x7] [] J L (zw_RC h sp la) := by
  intro n
  induction n with
  | zero =>
    intro i v f m J x7 hj hm hm6
    refine zv_run 2 (pc' := 39) (lo' := [some (.ref 2), some (.ref 1), some (.int (nI l)), some (.int p), some (.int v), some (.int f), some (.int (nI i)), x7]) (st' := [.int (nI l), .int (nI i)]) (I' := J) (L' := L) (R' := zw_RC h sp la) rfl ?_
    refine zv_icmp_ge (tgt := 176) (zs_at rfl) (by decide) (fun c39 => ?_) (fun c39 => ?_)
    · have _c := c39
      refine zv_run 1 (pc' := 178) (lo' := [some (.ref 2), some (.ref 1), some (.int (nI l)), some (.int p), some (.int v), some (.int f), some (.int (nI i)), x7]) (st' := [.int (-4)]) (I' := J) (L' := L) (R' := zw_RC h sp la) rfl ?_
      exact zv_iret (zs_at rfl) rfl ⟨Nat.le_refl _, Nat.le_refl _⟩ (zw_to rfl rfl rfl rfl)
    · exact absurd (by rw [← hj]; exact nI_le (by omega) (by omega)) c39
  | succ n ih =>
    intro i v f m J x7 hj hm hm6
    refine zv_run 2 (pc' := 39) (lo' := [some (.ref 2), some (.ref 1), some (.int (nI l)), some (.int p), some (.int v), some (.int f), some (.int (nI i)), x7]) (st' := [.int (nI l), .int (nI i)]) (I' := J) (L' := L) (R' := zw_RC h sp la) rfl ?_
    refine zv_icmp_ge (tgt := 176) (zs_at rfl) (by decide) (fun c39 => ?_) (fun c39 => ?_)
    · exact absurd c39 (by rw [← hj]; exact nI_ge (by omega) (by omega))
    · have _c := c39
      refine zv_run 3 (pc' := 46) (lo' := [some (.ref 2), some (.ref 1), some (.int (nI l)), some (.int p), some (.int v), some (.int f), some (.int (nI i)), x7]) (st' := [.int 400, .int (nI i)]) (I' := J) (L' := L) (R' := zw_RC h sp la) rfl ?_
      refine zv_icmp_ge (tgt := 176) (zs_at rfl) (by decide) (fun c46 => ?_) (fun c46 => ?_)
      · exact absurd c46 (by exact nI_ge (a := i) (b := 400) (by omega) (by decide))
      · have _c := c46
        refine zv_run 2 (pc' := 52) (lo' := [some (.ref 2), some (.ref 1), some (.int (nI l)), some (.int p), some (.int v), some (.int f), some (.int (nI i)), x7]) (st' := [.int (nI i), .ref 1]) (I' := J) (L' := L) (R' := zw_RC h sp la) rfl ?_
        refine zv_bald (zs_at rfl) rfl (vp_in_nI (by omega) (by decide)) ?_
        refine zv_run 3 (pc' := 59) (lo' := [some (.ref 2), some (.ref 1), some (.int (nI l)), some (.int p), some (.int v), some (.int f), some (.int (nI i)), some (.int (J 1 ((nI i).toNatClampNeg)))]) (st' := [.int 48, .int (J 1 ((nI i).toNatClampNeg))]) (I' := J) (L' := L) (R' := zw_RC h sp la) rfl ?_
        refine zv_icmp_lt (tgt := 94) (zs_at rfl) (by decide) (fun c59 => ?_) (fun c59 => ?_)
        · have _c := c59
          refine zv_run 2 (pc' := 98) (lo' := [some (.ref 2), some (.ref 1), some (.int (nI l)), some (.int p), some (.int v), some (.int f), some (.int (nI i)), some (.int (J 1 ((nI i).toNatClampNeg)))]) (st' := [.int 44, .int (J 1 ((nI i).toNatClampNeg))]) (I' := J) (L' := L) (R' := zw_RC h sp la) rfl ?_
          refine zv_icmp_eq (tgt := 108) (zs_at rfl) (by decide) (fun c98 => ?_) (fun c98 => ?_)
          · have _c := c98
            refine zv_run 1 (pc' := 110) (lo' := [some (.ref 2), some (.ref 1), some (.int (nI l)), some (.int p), some (.int v), some (.int f), some (.int (nI i)), some (.int (J 1 ((nI i).toNatClampNeg)))]) (st' := [.int f]) (I' := J) (L' := L) (R' := zw_RC h sp la) rfl ?_
            refine zv_if_le (tgt := 167) (zs_at rfl) (by decide) (fun c110 => ?_) (fun c110 => ?_)
            · have _c := c110
              refine zv_run 1 (pc' := 169) (lo' := [some (.ref 2), some (.ref 1), some (.int (nI l)), some (.int p), some (.int v), some (.int f), some (.int (nI i)), some (.int (J 1 ((nI i).toNatClampNeg)))]) (st' := [.int (-4)]) (I' := J) (L' := L) (R' := zw_RC h sp la) rfl ?_
              exact zv_iret (zs_at rfl) rfl ⟨Nat.le_refl _, Nat.le_refl _⟩ (by have hd : rd_c J i < 48 ∨ rd_c J i > 57 := (by first | exact Or.inl c59 | exact Or.inr c66); have hs : ¬ ((rd_c J i = 44 ∨ rd_c J i = 59) ∧ ¬ f ≤ 0 ∧ ¬ J 2 2 ≥ 6) := (by first | exact (fun q => q.2.2 c122) | exact (fun q => q.2.1 c110) | exact (fun q => q.1.elim c98 c105)); have e : rd_loop (n + 1) i v f J = (-4, J) := (by rw [rd_loop, if_pos hd, if_neg hs]); rw [e]; exact zw_to rfl rfl rfl rfl)
            · have _c := c110
              refine zv_run 5 (pc' := 122) (lo' := [some (.ref 2), some (.ref 1), some (.int (nI l)), some (.int p), some (.int v), some (.int f), some (.int (nI i)), some (.int (J 1 ((nI i).toNatClampNeg)))]) (st' := [.int 6, .int (J 2 2)]) (I' := J) (L' := L) (R' := zw_RC h sp la) rfl ?_
              refine zv_icmp_ge (tgt := 167) (zs_at rfl) (by decide) (fun c122 => ?_) (fun c122 => ?_)
              · have _c := c122
                refine zv_run 1 (pc' := 169) (lo' := [some (.ref 2), some (.ref 1), some (.int (nI l)), some (.int p), some (.int v), some (.int f), some (.int (nI i)), some (.int (J 1 ((nI i).toNatClampNeg)))]) (st' := [.int (-4)]) (I' := J) (L' := L) (R' := zw_RC h sp la) rfl ?_
                exact zv_iret (zs_at rfl) rfl ⟨Nat.le_refl _, Nat.le_refl _⟩ (by have hd : rd_c J i < 48 ∨ rd_c J i > 57 := (by first | exact Or.inl c59 | exact Or.inr c66); have hs : ¬ ((rd_c J i = 44 ∨ rd_c J i = 59) ∧ ¬ f ≤ 0 ∧ ¬ J 2 2 ≥ 6) := (by first | exact (fun q => q.2.2 c122) | exact (fun q => q.2.1 c110) | exact (fun q => q.1.elim c98 c105)); have e : rd_loop (n + 1) i v f J = (-4, J) := (by rw [rd_loop, if_pos hd, if_neg hs]); rw [e]; exact zw_to rfl rfl rfl rfl)
              · have _c := c122
                refine zv_run 5 (pc' := 135) (lo' := [some (.ref 2), some (.ref 1), some (.int (nI l)), some (.int p), some (.int v), some (.int f), some (.int (nI i)), some (.int (J 1 ((nI i).toNatClampNeg)))]) (st' := [.int v, .int (J 2 2), .ref 3]) (I' := J) (L' := L) (R' := zw_RC h sp la) rfl ?_
                refine zv_iast (zs_at rfl) rfl (by rw [hm]; exact vp_in_nI (by rcases Nat.lt_or_ge m 6 with q | q; exact q; exact absurd (by rw [hm]; exact nI_ge6 q hm6) c122) (by decide)) ?_
                refine zv_run 8 (pc' := 150) (lo' := [some (.ref 2), some (.ref 1), some (.int (nI l)), some (.int p), some (.int v), some (.int f), some (.int (nI i)), some (.int (J 1 ((nI i).toNatClampNeg)))]) (st' := [.int 59, .int (J 1 ((nI i).toNatClampNeg))]) (I' := (zx_uI (zx_uI J 3 ((J 2 2).toNatClampNeg) v) 2 2 ((J 2 2) + 1))) (L' := L) (R' := zw_RC h sp la) rfl ?_
                refine zv_icmp_ne (tgt := 158) (zs_at rfl) (by decide) (fun c150 => ?_) (fun c150 => ?_)
                · have _c := c150
                  refine zv_run 5 (pc' := 170) (lo' := [some (.ref 2), some (.ref 1), some (.int (nI l)), some (.int p), some (.int 0), some (.int 0), some (.int (nI i)), some (.int (J 1 ((nI i).toNatClampNeg)))]) (st' := []) (I' := (zx_uI (zx_uI J 3 ((J 2 2).toNatClampNeg) v) 2 2 ((J 2 2) + 1))) (L' := L) (R' := zw_RC h sp la) rfl ?_
                  refine zv_run 2 (pc' := 36) (lo' := [some (.ref 2), some (.ref 1), some (.int (nI l)), some (.int p), some (.int 0), some (.int 0), some (.int ((nI i) + 1)), some (.int (J 1 ((nI i).toNatClampNeg)))]) (st' := []) (I' := (zx_uI (zx_uI J 3 ((J 2 2).toNatClampNeg) v) 2 2 ((J 2 2) + 1))) (L' := L) (R' := zw_RC h sp la) rfl ?_
                  have hd : rd_c J i < 48 ∨ rd_c J i > 57 := by first | exact Or.inl c59 | exact Or.inr c66
                  have hs : (rd_c J i = 44 ∨ rd_c J i = 59) ∧ ¬ f ≤ 0 ∧ ¬ J 2 2 ≥ 6 := ⟨by first | exact Or.inl c98 | exact Or.inr c105, c110, c122⟩
                  have e : rd_loop (n + 1) i v f J = rd_loop n (i + 1) 0 0 (rd_put J v) := by rw [rd_loop, if_pos hd, if_pos hs, if_pos (show rd_c J i ≠ 59 from c150)]
                  rw [e, ← nI_succ]
                  exact ih (i + 1) _ _ (m + 1) _ _ (by omega) (by show J 2 2 + 1 = _; rw [hm]; exact nI_1 m) (by rcases Nat.lt_or_ge m 6 with q | q; exact q; exact absurd (by rw [hm]; exact nI_ge6 q hm6) c122)
                · have _c := c150
                  refine zv_run 3 (pc' := 157) (lo' := [some (.ref 2), some (.ref 1), some (.int (nI l)), some (.int p), some (.int v), some (.int f), some (.int (nI i)), some (.int (J 1 ((nI i).toNatClampNeg)))]) (st' := [.int ((nI i) + 1)]) (I' := (zx_uI (zx_uI J 3 ((J 2 2).toNatClampNeg) v) 2 2 ((J 2 2) + 1))) (L' := L) (R' := zw_RC h sp la) rfl ?_
                  exact zv_iret (zs_at rfl) rfl ⟨Nat.le_refl _, Nat.le_refl _⟩ (by have hd : rd_c J i < 48 ∨ rd_c J i > 57 := (by first | exact Or.inl c59 | exact Or.inr c66); have hs : (rd_c J i = 44 ∨ rd_c J i = 59) ∧ ¬ f ≤ 0 ∧ ¬ J 2 2 ≥ 6 := ⟨(by first | exact Or.inl c98 | exact Or.inr c105), c110, c122⟩; have e : rd_loop (n + 1) i v f J = (nI i + 1, rd_put J v) := (by rw [rd_loop, if_pos hd, if_pos hs, if_neg (show ¬ rd_c J i ≠ 59 from fun q => q (by first | exact c150 | exact Decidable.not_not.mp c150))]); rw [e]; exact zw_to rfl rfl rfl rfl)
          · have _c := c98
            refine zv_run 2 (pc' := 105) (lo' := [some (.ref 2), some (.ref 1), some (.int (nI l)), some (.int p), some (.int v), some (.int f), some (.int (nI i)), some (.int (J 1 ((nI i).toNatClampNeg)))]) (st' := [.int 59, .int (J 1 ((nI i).toNatClampNeg))]) (I' := J) (L' := L) (R' := zw_RC h sp la) rfl ?_
            refine zv_icmp_ne (tgt := 167) (zs_at rfl) (by decide) (fun c105 => ?_) (fun c105 => ?_)
            · have _c := c105
              refine zv_run 1 (pc' := 169) (lo' := [some (.ref 2), some (.ref 1), some (.int (nI l)), some (.int p), some (.int v), some (.int f), some (.int (nI i)), some (.int (J 1 ((nI i).toNatClampNeg)))]) (st' := [.int (-4)]) (I' := J) (L' := L) (R' := zw_RC h sp la) rfl ?_
              exact zv_iret (zs_at rfl) rfl ⟨Nat.le_refl _, Nat.le_refl _⟩ (by have hd : rd_c J i < 48 ∨ rd_c J i > 57 := (by first | exact Or.inl c59 | exact Or.inr c66); have hs : ¬ ((rd_c J i = 44 ∨ rd_c J i = 59) ∧ ¬ f ≤ 0 ∧ ¬ J 2 2 ≥ 6) := (by first | exact (fun q => q.2.2 c122) | exact (fun q => q.2.1 c110) | exact (fun q => q.1.elim c98 c105)); have e : rd_loop (n + 1) i v f J = (-4, J) := (by rw [rd_loop, if_pos hd, if_neg hs]); rw [e]; exact zw_to rfl rfl rfl rfl)
            · have _c := c105
              refine zv_run 1 (pc' := 110) (lo' := [some (.ref 2), some (.ref 1), some (.int (nI l)), some (.int p), some (.int v), some (.int f), some (.int (nI i)), some (.int (J 1 ((nI i).toNatClampNeg)))]) (st' := [.int f]) (I' := J) (L' := L) (R' := zw_RC h sp la) rfl ?_
              refine zv_if_le (tgt := 167) (zs_at rfl) (by decide) (fun c110 => ?_) (fun c110 => ?_)
              · have _c := c110
                refine zv_run 1 (pc' := 169) (lo' := [some (.ref 2), some (.ref 1), some (.int (nI l)), some (.int p), some (.int v), some (.int f), some (.int (nI i)), some (.int (J 1 ((nI i).toNatClampNeg)))]) (st' := [.int (-4)]) (I' := J) (L' := L) (R' := zw_RC h sp la) rfl ?_
                exact zv_iret (zs_at rfl) rfl ⟨Nat.le_refl _, Nat.le_refl _⟩ (by have hd : rd_c J i < 48 ∨ rd_c J i > 57 := (by first | exact Or.inl c59 | exact Or.inr c66); have hs : ¬ ((rd_c J i = 44 ∨ rd_c J i = 59) ∧ ¬ f ≤ 0 ∧ ¬ J 2 2 ≥ 6) := (by first | exact (fun q => q.2.2 c122) | exact (fun q => q.2.1 c110) | exact (fun q => q.1.elim c98 c105)); have e : rd_loop (n + 1) i v f J = (-4, J) := (by rw [rd_loop, if_pos hd, if_neg hs]); rw [e]; exact zw_to rfl rfl rfl rfl)
              · have _c := c110
                refine zv_run 5 (pc' := 122) (lo' := [some (.ref 2), some (.ref 1), some (.int (nI l)), some (.int p), some (.int v), some (.int f), some (.int (nI i)), some (.int (J 1 ((nI i).toNatClampNeg)))]) (st' := [.int 6, .int (J 2 2)]) (I' := J) (L' := L) (R' := zw_RC h sp la) rfl ?_
                refine zv_icmp_ge (tgt := 167) (zs_at rfl) (by decide) (fun c122 => ?_) (fun c122 => ?_)
                · have _c := c122
                  refine zv_run 1 (pc' := 169) (lo' := [some (.ref 2), some (.ref 1), some (.int (nI l)), some (.int p), some (.int v), some (.int f), some (.int (nI i)), some (.int (J 1 ((nI i).toNatClampNeg)))]) (st' := [.int (-4)]) (I' := J) (L' := L) (R' := zw_RC h sp la) rfl ?_
                  exact zv_iret (zs_at rfl) rfl ⟨Nat.le_refl _, Nat.le_refl _⟩ (by have hd : rd_c J i < 48 ∨ rd_c J i > 57 := (by first | exact Or.inl c59 | exact Or.inr c66); have hs : ¬ ((rd_c J i = 44 ∨ rd_c J i = 59) ∧ ¬ f ≤ 0 ∧ ¬ J 2 2 ≥ 6) := (by first | exact (fun q => q.2.2 c122) | exact (fun q => q.2.1 c110) | exact (fun q => q.1.elim c98 c105)); have e : rd_loop (n + 1) i v f J = (-4, J) := (by rw [rd_loop, if_pos hd, if_neg hs]); rw [e]; exact zw_to rfl rfl rfl rfl)
                · have _c := c122
                  refine zv_run 5 (pc' := 135) (lo' := [some (.ref 2), some (.ref 1), some (.int (nI l)), some (.int p), some (.int v), some (.int f), some (.int (nI i)), some (.int (J 1 ((nI i).toNatClampNeg)))]) (st' := [.int v, .int (J 2 2), .ref 3]) (I' := J) (L' := L) (R' := zw_RC h sp la) rfl ?_
                  refine zv_iast (zs_at rfl) rfl (by rw [hm]; exact vp_in_nI (by rcases Nat.lt_or_ge m 6 with q | q; exact q; exact absurd (by rw [hm]; exact nI_ge6 q hm6) c122) (by decide)) ?_
                  refine zv_run 8 (pc' := 150) (lo' := [some (.ref 2), some (.ref 1), some (.int (nI l)), some (.int p), some (.int v), some (.int f), some (.int (nI i)), some (.int (J 1 ((nI i).toNatClampNeg)))]) (st' := [.int 59, .int (J 1 ((nI i).toNatClampNeg))]) (I' := (zx_uI (zx_uI J 3 ((J 2 2).toNatClampNeg) v) 2 2 ((J 2 2) + 1))) (L' := L) (R' := zw_RC h sp la) rfl ?_
                  refine zv_icmp_ne (tgt := 158) (zs_at rfl) (by decide) (fun c150 => ?_) (fun c150 => ?_)
                  · have _c := c150
                    refine zv_run 5 (pc' := 170) (lo' := [some (.ref 2), some (.ref 1), some (.int (nI l)), some (.int p), some (.int 0), some (.int 0), some (.int (nI i)), some (.int (J 1 ((nI i).toNatClampNeg)))]) (st' := []) (I' := (zx_uI (zx_uI J 3 ((J 2 2).toNatClampNeg) v) 2 2 ((J 2 2) + 1))) (L' := L) (R' := zw_RC h sp la) rfl ?_
                    refine zv_run 2 (pc' := 36) (lo' := [some (.ref 2), some (.ref 1), some (.int (nI l)), some (.int p), some (.int 0), some (.int 0), some (.int ((nI i) + 1)), some (.int (J 1 ((nI i).toNatClampNeg)))]) (st' := []) (I' := (zx_uI (zx_uI J 3 ((J 2 2).toNatClampNeg) v) 2 2 ((J 2 2) + 1))) (L' := L) (R' := zw_RC h sp la) rfl ?_
                    have hd : rd_c J i < 48 ∨ rd_c J i > 57 := by first | exact Or.inl c59 | exact Or.inr c66
                    have hs : (rd_c J i = 44 ∨ rd_c J i = 59) ∧ ¬ f ≤ 0 ∧ ¬ J 2 2 ≥ 6 := ⟨by first | exact Or.inl c98 | exact Or.inr c105, c110, c122⟩
                    have e : rd_loop (n + 1) i v f J = rd_loop n (i + 1) 0 0 (rd_put J v) := by rw [rd_loop, if_pos hd, if_pos hs, if_pos (show rd_c J i ≠ 59 from c150)]
                    rw [e, ← nI_succ]
                    exact ih (i + 1) _ _ (m + 1) _ _ (by omega) (by show J 2 2 + 1 = _; rw [hm]; exact nI_1 m) (by rcases Nat.lt_or_ge m 6 with q | q; exact q; exact absurd (by rw [hm]; exact nI_ge6 q hm6) c122)
                  · have _c := c150
                    refine zv_run 3 (pc' := 157) (lo' := [some (.ref 2), some (.ref 1), some (.int (nI l)), some (.int p), some (.int v), some (.int f), some (.int (nI i)), some (.int (J 1 ((nI i).toNatClampNeg)))]) (st' := [.int ((nI i) + 1)]) (I' := (zx_uI (zx_uI J 3 ((J 2 2).toNatClampNeg) v) 2 2 ((J 2 2) + 1))) (L' := L) (R' := zw_RC h sp la) rfl ?_
                    exact zv_iret (zs_at rfl) rfl ⟨Nat.le_refl _, Nat.le_refl _⟩ (by have hd : rd_c J i < 48 ∨ rd_c J i > 57 := (by first | exact Or.inl c59 | exact Or.inr c66); have hs : (rd_c J i = 44 ∨ rd_c J i = 59) ∧ ¬ f ≤ 0 ∧ ¬ J 2 2 ≥ 6 := ⟨(by first | exact Or.inl c98 | exact Or.inr c105), c110, c122⟩; have e : rd_loop (n + 1) i v f J = (nI i + 1, rd_put J v) := (by rw [rd_loop, if_pos hd, if_pos hs, if_neg (show ¬ rd_c J i ≠ 59 from fun q => q (by first | exact c150 | exact Decidable.not_not.mp c150))]); rw [e]; exact zw_to rfl rfl rfl rfl)
        · have _c := c59
          refine zv_run 2 (pc' := 66) (lo' := [some (.ref 2), some (.ref 1), some (.int (nI l)), some (.int p), some (.int v), some (.int f), some (.int (nI i)), some (.int (J 1 ((nI i).toNatClampNeg)))]) (st' := [.int 57, .int (J 1 ((nI i).toNatClampNeg))]) (I' := J) (L' := L) (R' := zw_RC h sp la) rfl ?_
          refine zv_icmp_gt (tgt := 94) (zs_at rfl) (by decide) (fun c66 => ?_) (fun c66 => ?_)
          · have _c := c66
            refine zv_run 2 (pc' := 98) (lo' := [some (.ref 2), some (.ref 1), some (.int (nI l)), some (.int p), some (.int v), some (.int f), some (.int (nI i)), some (.int (J 1 ((nI i).toNatClampNeg)))]) (st' := [.int 44, .int (J 1 ((nI i).toNatClampNeg))]) (I' := J) (L' := L) (R' := zw_RC h sp la) rfl ?_
            refine zv_icmp_eq (tgt := 108) (zs_at rfl) (by decide) (fun c98 => ?_) (fun c98 => ?_)
            · have _c := c98
              refine zv_run 1 (pc' := 110) (lo' := [some (.ref 2), some (.ref 1), some (.int (nI l)), some (.int p), some (.int v), some (.int f), some (.int (nI i)), some (.int (J 1 ((nI i).toNatClampNeg)))]) (st' := [.int f]) (I' := J) (L' := L) (R' := zw_RC h sp la) rfl ?_
              refine zv_if_le (tgt := 167) (zs_at rfl) (by decide) (fun c110 => ?_) (fun c110 => ?_)
              · have _c := c110
                refine zv_run 1 (pc' := 169) (lo' := [some (.ref 2), some (.ref 1), some (.int (nI l)), some (.int p), some (.int v), some (.int f), some (.int (nI i)), some (.int (J 1 ((nI i).toNatClampNeg)))]) (st' := [.int (-4)]) (I' := J) (L' := L) (R' := zw_RC h sp la) rfl ?_
                exact zv_iret (zs_at rfl) rfl ⟨Nat.le_refl _, Nat.le_refl _⟩ (by have hd : rd_c J i < 48 ∨ rd_c J i > 57 := (by first | exact Or.inl c59 | exact Or.inr c66); have hs : ¬ ((rd_c J i = 44 ∨ rd_c J i = 59) ∧ ¬ f ≤ 0 ∧ ¬ J 2 2 ≥ 6) := (by first | exact (fun q => q.2.2 c122) | exact (fun q => q.2.1 c110) | exact (fun q => q.1.elim c98 c105)); have e : rd_loop (n + 1) i v f J = (-4, J) := (by rw [rd_loop, if_pos hd, if_neg hs]); rw [e]; exact zw_to rfl rfl rfl rfl)
              · have _c := c110
                refine zv_run 5 (pc' := 122) (lo' := [some (.ref 2), some (.ref 1), some (.int (nI l)), some (.int p), some (.int v), some (.int f), some (.int (nI i)), some (.int (J 1 ((nI i).toNatClampNeg)))]) (st' := [.int 6, .int (J 2 2)]) (I' := J) (L' := L) (R' := zw_RC h sp la) rfl ?_
                refine zv_icmp_ge (tgt := 167) (zs_at rfl) (by decide) (fun c122 => ?_) (fun c122 => ?_)
                · have _c := c122
                  refine zv_run 1 (pc' := 169) (lo' := [some (.ref 2), some (.ref 1), some (.int (nI l)), some (.int p), some (.int v), some (.int f), some (.int (nI i)), some (.int (J 1 ((nI i).toNatClampNeg)))]) (st' := [.int (-4)]) (I' := J) (L' := L) (R' := zw_RC h sp la) rfl ?_
                  exact zv_iret (zs_at rfl) rfl ⟨Nat.le_refl _, Nat.le_refl _⟩ (by have hd : rd_c J i < 48 ∨ rd_c J i > 57 := (by first | exact Or.inl c59 | exact Or.inr c66); have hs : ¬ ((rd_c J i = 44 ∨ rd_c J i = 59) ∧ ¬ f ≤ 0 ∧ ¬ J 2 2 ≥ 6) := (by first | exact (fun q => q.2.2 c122) | exact (fun q => q.2.1 c110) | exact (fun q => q.1.elim c98 c105)); have e : rd_loop (n + 1) i v f J = (-4, J) := (by rw [rd_loop, if_pos hd, if_neg hs]); rw [e]; exact zw_to rfl rfl rfl rfl)
                · have _c := c122
                  refine zv_run 5 (pc' := 135) (lo' := [some (.ref 2), some (.ref 1), some (.int (nI l)), some (.int p), some (.int v), some (.int f), some (.int (nI i)), some (.int (J 1 ((nI i).toNatClampNeg)))]) (st' := [.int v, .int (J 2 2), .ref 3]) (I' := J) (L' := L) (R' := zw_RC h sp la) rfl ?_
                  refine zv_iast (zs_at rfl) rfl (by rw [hm]; exact vp_in_nI (by rcases Nat.lt_or_ge m 6 with q | q; exact q; exact absurd (by rw [hm]; exact nI_ge6 q hm6) c122) (by decide)) ?_
                  refine zv_run 8 (pc' := 150) (lo' := [some (.ref 2), some (.ref 1), some (.int (nI l)), some (.int p), some (.int v), some (.int f), some (.int (nI i)), some (.int (J 1 ((nI i).toNatClampNeg)))]) (st' := [.int 59, .int (J 1 ((nI i).toNatClampNeg))]) (I' := (zx_uI (zx_uI J 3 ((J 2 2).toNatClampNeg) v) 2 2 ((J 2 2) + 1))) (L' := L) (R' := zw_RC h sp la) rfl ?_
                  refine zv_icmp_ne (tgt := 158) (zs_at rfl) (by decide) (fun c150 => ?_) (fun c150 => ?_)
                  · have _c := c150
                    refine zv_run 5 (pc' := 170) (lo' := [some (.ref 2), some (.ref 1), some (.int (nI l)), some (.int p), some (.int 0), some (.int 0), some (.int (nI i)), some (.int (J 1 ((nI i).toNatClampNeg)))]) (st' := []) (I' := (zx_uI (zx_uI J 3 ((J 2 2).toNatClampNeg) v) 2 2 ((J 2 2) + 1))) (L' := L) (R' := zw_RC h sp la) rfl ?_
                    refine zv_run 2 (pc' := 36) (lo' := [some (.ref 2), some (.ref 1), some (.int (nI l)), some (.int p), some (.int 0), some (.int 0), some (.int ((nI i) + 1)), some (.int (J 1 ((nI i).toNatClampNeg)))]) (st' := []) (I' := (zx_uI (zx_uI J 3 ((J 2 2).toNatClampNeg) v) 2 2 ((J 2 2) + 1))) (L' := L) (R' := zw_RC h sp la) rfl ?_
                    have hd : rd_c J i < 48 ∨ rd_c J i > 57 := by first | exact Or.inl c59 | exact Or.inr c66
                    have hs : (rd_c J i = 44 ∨ rd_c J i = 59) ∧ ¬ f ≤ 0 ∧ ¬ J 2 2 ≥ 6 := ⟨by first | exact Or.inl c98 | exact Or.inr c105, c110, c122⟩
                    have e : rd_loop (n + 1) i v f J = rd_loop n (i + 1) 0 0 (rd_put J v) := by rw [rd_loop, if_pos hd, if_pos hs, if_pos (show rd_c J i ≠ 59 from c150)]
                    rw [e, ← nI_succ]
                    exact ih (i + 1) _ _ (m + 1) _ _ (by omega) (by show J 2 2 + 1 = _; rw [hm]; exact nI_1 m) (by rcases Nat.lt_or_ge m 6 with q | q; exact q; exact absurd (by rw [hm]; exact nI_ge6 q hm6) c122)
                  · have _c := c150
                    refine zv_run 3 (pc' := 157) (lo' := [some (.ref 2), some (.ref 1), some (.int (nI l)), some (.int p), some (.int v), some (.int f), some (.int (nI i)), some (.int (J 1 ((nI i).toNatClampNeg)))]) (st' := [.int ((nI i) + 1)]) (I' := (zx_uI (zx_uI J 3 ((J 2 2).toNatClampNeg) v) 2 2 ((J 2 2) + 1))) (L' := L) (R' := zw_RC h sp la) rfl ?_
                    exact zv_iret (zs_at rfl) rfl ⟨Nat.le_refl _, Nat.le_refl _⟩ (by have hd : rd_c J i < 48 ∨ rd_c J i > 57 := (by first | exact Or.inl c59 | exact Or.inr c66); have hs : (rd_c J i = 44 ∨ rd_c J i = 59) ∧ ¬ f ≤ 0 ∧ ¬ J 2 2 ≥ 6 := ⟨(by first | exact Or.inl c98 | exact Or.inr c105), c110, c122⟩; have e : rd_loop (n + 1) i v f J = (nI i + 1, rd_put J v) := (by rw [rd_loop, if_pos hd, if_pos hs, if_neg (show ¬ rd_c J i ≠ 59 from fun q => q (by first | exact c150 | exact Decidable.not_not.mp c150))]); rw [e]; exact zw_to rfl rfl rfl rfl)
            · have _c := c98
              refine zv_run 2 (pc' := 105) (lo' := [some (.ref 2), some (.ref 1), some (.int (nI l)), some (.int p), some (.int v), some (.int f), some (.int (nI i)), some (.int (J 1 ((nI i).toNatClampNeg)))]) (st' := [.int 59, .int (J 1 ((nI i).toNatClampNeg))]) (I' := J) (L' := L) (R' := zw_RC h sp la) rfl ?_
              refine zv_icmp_ne (tgt := 167) (zs_at rfl) (by decide) (fun c105 => ?_) (fun c105 => ?_)
              · have _c := c105
                refine zv_run 1 (pc' := 169) (lo' := [some (.ref 2), some (.ref 1), some (.int (nI l)), some (.int p), some (.int v), some (.int f), some (.int (nI i)), some (.int (J 1 ((nI i).toNatClampNeg)))]) (st' := [.int (-4)]) (I' := J) (L' := L) (R' := zw_RC h sp la) rfl ?_
                exact zv_iret (zs_at rfl) rfl ⟨Nat.le_refl _, Nat.le_refl _⟩ (by have hd : rd_c J i < 48 ∨ rd_c J i > 57 := (by first | exact Or.inl c59 | exact Or.inr c66); have hs : ¬ ((rd_c J i = 44 ∨ rd_c J i = 59) ∧ ¬ f ≤ 0 ∧ ¬ J 2 2 ≥ 6) := (by first | exact (fun q => q.2.2 c122) | exact (fun q => q.2.1 c110) | exact (fun q => q.1.elim c98 c105)); have e : rd_loop (n + 1) i v f J = (-4, J) := (by rw [rd_loop, if_pos hd, if_neg hs]); rw [e]; exact zw_to rfl rfl rfl rfl)
              · have _c := c105
                refine zv_run 1 (pc' := 110) (lo' := [some (.ref 2), some (.ref 1), some (.int (nI l)), some (.int p), some (.int v), some (.int f), some (.int (nI i)), some (.int (J 1 ((nI i).toNatClampNeg)))]) (st' := [.int f]) (I' := J) (L' := L) (R' := zw_RC h sp la) rfl ?_
                refine zv_if_le (tgt := 167) (zs_at rfl) (by decide) (fun c110 => ?_) (fun c110 => ?_)
                · have _c := c110
                  refine zv_run 1 (pc' := 169) (lo' := [some (.ref 2), some (.ref 1), some (.int (nI l)), some (.int p), some (.int v), some (.int f), some (.int (nI i)), some (.int (J 1 ((nI i).toNatClampNeg)))]) (st' := [.int (-4)]) (I' := J) (L' := L) (R' := zw_RC h sp la) rfl ?_
                  exact zv_iret (zs_at rfl) rfl ⟨Nat.le_refl _, Nat.le_refl _⟩ (by have hd : rd_c J i < 48 ∨ rd_c J i > 57 := (by first | exact Or.inl c59 | exact Or.inr c66); have hs : ¬ ((rd_c J i = 44 ∨ rd_c J i = 59) ∧ ¬ f ≤ 0 ∧ ¬ J 2 2 ≥ 6) := (by first | exact (fun q => q.2.2 c122) | exact (fun q => q.2.1 c110) | exact (fun q => q.1.elim c98 c105)); have e : rd_loop (n + 1) i v f J = (-4, J) := (by rw [rd_loop, if_pos hd, if_neg hs]); rw [e]; exact zw_to rfl rfl rfl rfl)
                · have _c := c110
                  refine zv_run 5 (pc' := 122) (lo' := [some (.ref 2), some (.ref 1), some (.int (nI l)), some (.int p), some (.int v), some (.int f), some (.int (nI i)), some (.int (J 1 ((nI i).toNatClampNeg)))]) (st' := [.int 6, .int (J 2 2)]) (I' := J) (L' := L) (R' := zw_RC h sp la) rfl ?_
                  refine zv_icmp_ge (tgt := 167) (zs_at rfl) (by decide) (fun c122 => ?_) (fun c122 => ?_)
                  · have _c := c122
                    refine zv_run 1 (pc' := 169) (lo' := [some (.ref 2), some (.ref 1), some (.int (nI l)), some (.int p), some (.int v), some (.int f), some (.int (nI i)), some (.int (J 1 ((nI i).toNatClampNeg)))]) (st' := [.int (-4)]) (I' := J) (L' := L) (R' := zw_RC h sp la) rfl ?_
                    exact zv_iret (zs_at rfl) rfl ⟨Nat.le_refl _, Nat.le_refl _⟩ (by have hd : rd_c J i < 48 ∨ rd_c J i > 57 := (by first | exact Or.inl c59 | exact Or.inr c66); have hs : ¬ ((rd_c J i = 44 ∨ rd_c J i = 59) ∧ ¬ f ≤ 0 ∧ ¬ J 2 2 ≥ 6) := (by first | exact (fun q => q.2.2 c122) | exact (fun q => q.2.1 c110) | exact (fun q => q.1.elim c98 c105)); have e : rd_loop (n + 1) i v f J = (-4, J) := (by rw [rd_loop, if_pos hd, if_neg hs]); rw [e]; exact zw_to rfl rfl rfl rfl)
                  · have _c := c122
                    refine zv_run 5 (pc' := 135) (lo' := [some (.ref 2), some (.ref 1), some (.int (nI l)), some (.int p), some (.int v), some (.int f), some (.int (nI i)), some (.int (J 1 ((nI i).toNatClampNeg)))]) (st' := [.int v, .int (J 2 2), .ref 3]) (I' := J) (L' := L) (R' := zw_RC h sp la) rfl ?_
                    refine zv_iast (zs_at rfl) rfl (by rw [hm]; exact vp_in_nI (by rcases Nat.lt_or_ge m 6 with q | q; exact q; exact absurd (by rw [hm]; exact nI_ge6 q hm6) c122) (by decide)) ?_
                    refine zv_run 8 (pc' := 150) (lo' := [some (.ref 2), some (.ref 1), some (.int (nI l)), some (.int p), some (.int v), some (.int f), some (.int (nI i)), some (.int (J 1 ((nI i).toNatClampNeg)))]) (st' := [.int 59, .int (J 1 ((nI i).toNatClampNeg))]) (I' := (zx_uI (zx_uI J 3 ((J 2 2).toNatClampNeg) v) 2 2 ((J 2 2) + 1))) (L' := L) (R' := zw_RC h sp la) rfl ?_
                    refine zv_icmp_ne (tgt := 158) (zs_at rfl) (by decide) (fun c150 => ?_) (fun c150 => ?_)
                    · have _c := c150
                      refine zv_run 5 (pc' := 170) (lo' := [some (.ref 2), some (.ref 1), some (.int (nI l)), some (.int p), some (.int 0), some (.int 0), some (.int (nI i)), some (.int (J 1 ((nI i).toNatClampNeg)))]) (st' := []) (I' := (zx_uI (zx_uI J 3 ((J 2 2).toNatClampNeg) v) 2 2 ((J 2 2) + 1))) (L' := L) (R' := zw_RC h sp la) rfl ?_
                      refine zv_run 2 (pc' := 36) (lo' := [some (.ref 2), some (.ref 1), some (.int (nI l)), some (.int p), some (.int 0), some (.int 0), some (.int ((nI i) + 1)), some (.int (J 1 ((nI i).toNatClampNeg)))]) (st' := []) (I' := (zx_uI (zx_uI J 3 ((J 2 2).toNatClampNeg) v) 2 2 ((J 2 2) + 1))) (L' := L) (R' := zw_RC h sp la) rfl ?_
                      have hd : rd_c J i < 48 ∨ rd_c J i > 57 := by first | exact Or.inl c59 | exact Or.inr c66
                      have hs : (rd_c J i = 44 ∨ rd_c J i = 59) ∧ ¬ f ≤ 0 ∧ ¬ J 2 2 ≥ 6 := ⟨by first | exact Or.inl c98 | exact Or.inr c105, c110, c122⟩
                      have e : rd_loop (n + 1) i v f J = rd_loop n (i + 1) 0 0 (rd_put J v) := by rw [rd_loop, if_pos hd, if_pos hs, if_pos (show rd_c J i ≠ 59 from c150)]
                      rw [e, ← nI_succ]
                      exact ih (i + 1) _ _ (m + 1) _ _ (by omega) (by show J 2 2 + 1 = _; rw [hm]; exact nI_1 m) (by rcases Nat.lt_or_ge m 6 with q | q; exact q; exact absurd (by rw [hm]; exact nI_ge6 q hm6) c122)
                    · have _c := c150
                      refine zv_run 3 (pc' := 157) (lo' := [some (.ref 2), some (.ref 1), some (.int (nI l)), some (.int p), some (.int v), some (.int f), some (.int (nI i)), some (.int (J 1 ((nI i).toNatClampNeg)))]) (st' := [.int ((nI i) + 1)]) (I' := (zx_uI (zx_uI J 3 ((J 2 2).toNatClampNeg) v) 2 2 ((J 2 2) + 1))) (L' := L) (R' := zw_RC h sp la) rfl ?_
                      exact zv_iret (zs_at rfl) rfl ⟨Nat.le_refl _, Nat.le_refl _⟩ (by have hd : rd_c J i < 48 ∨ rd_c J i > 57 := (by first | exact Or.inl c59 | exact Or.inr c66); have hs : (rd_c J i = 44 ∨ rd_c J i = 59) ∧ ¬ f ≤ 0 ∧ ¬ J 2 2 ≥ 6 := ⟨(by first | exact Or.inl c98 | exact Or.inr c105), c110, c122⟩; have e : rd_loop (n + 1) i v f J = (nI i + 1, rd_put J v) := (by rw [rd_loop, if_pos hd, if_pos hs, if_neg (show ¬ rd_c J i ≠ 59 from fun q => q (by first | exact c150 | exact Decidable.not_not.mp c150))]); rw [e]; exact zw_to rfl rfl rfl rfl)
          · have _c := c66
            refine zv_run 11 (pc' := 88) (lo' := [some (.ref 2), some (.ref 1), some (.int (nI l)), some (.int p), some (.int (((10 * v) + (J 1 ((nI i).toNatClampNeg))) - 48)), some (.int (f + 1)), some (.int (nI i)), some (.int (J 1 ((nI i).toNatClampNeg)))]) (st' := [.int 4, .int (f + 1)]) (I' := J) (L' := L) (R' := zw_RC h sp la) rfl ?_
            refine zv_icmp_le (tgt := 170) (zs_at rfl) (by decide) (fun c88 => ?_) (fun c88 => ?_)
            · have _c := c88
              refine zv_run 2 (pc' := 36) (lo' := [some (.ref 2), some (.ref 1), some (.int (nI l)), some (.int p), some (.int (((10 * v) + (J 1 ((nI i).toNatClampNeg))) - 48)), some (.int (f + 1)), some (.int ((nI i) + 1)), some (.int (J 1 ((nI i).toNatClampNeg)))]) (st' := []) (I' := J) (L' := L) (R' := zw_RC h sp la) rfl ?_
              have hd : ¬ (rd_c J i < 48 ∨ rd_c J i > 57) := fun q => q.elim c59 c66
              have e : rd_loop (n + 1) i v f J = rd_loop n (i + 1) (10 * v + rd_c J i - 48) (f + 1) J := by rw [rd_loop, if_neg hd, if_pos c88]
              rw [e, ← nI_succ]
              exact ih (i + 1) _ _ m _ _ (by omega) hm hm6
            · have _c := c88
              refine zv_run 1 (pc' := 93) (lo' := [some (.ref 2), some (.ref 1), some (.int (nI l)), some (.int p), some (.int (((10 * v) + (J 1 ((nI i).toNatClampNeg))) - 48)), some (.int (f + 1)), some (.int (nI i)), some (.int (J 1 ((nI i).toNatClampNeg)))]) (st' := [.int (-4)]) (I' := J) (L' := L) (R' := zw_RC h sp la) rfl ?_
              exact zv_iret (zs_at rfl) rfl ⟨Nat.le_refl _, Nat.le_refl _⟩ (by have hd : ¬ (rd_c J i < 48 ∨ rd_c J i > 57) := (fun q => q.elim c59 c66); have e : rd_loop (n + 1) i v f J = (-4, J) := (by rw [rd_loop, if_neg hd, if_neg c88]); rw [e]; exact zw_to rfl rfl rfl rfl)
theorem ct_X6_readFrom {d : Nat} {I : zx_I} {L : zx_L} {h sp : Nat} {la : Option Nat} {l p : Nat} (hl : l ≤ 400) (hp : p < l) : zx_M0 mm_X6_readFrom (d + 0) 0 0 [.ref 2, .ref 1, .int (nI l), .int (nI p)] zw_SC I L (zw_RC h sp la) (zw_ret (some (.int (fi_read I l p).1)) zw_SC (fi_read I l p).2 L (zw_RC h sp la)) := by
  refine zv_entry gd_X6_readFrom (Nat.le_of_ble_eq_true rfl) ?_
  refine zv_run 4 (pc' := 6) (lo' := [some (.ref 2), some (.ref 1), some (.int (nI l)), some (.int (nI p)), none, none, none, none]) (st' := [.int (nI p)]) (I' := (zx_uI I 2 2 0)) (L' := L) (R' := zw_RC h sp la) rfl ?_
  refine zv_if_lt (tgt := 15) (zs_at rfl) (by decide) (fun c6 => ?_) (fun c6 => ?_)
  · exact absurd c6 (nI_pos (by omega))
  · have _c := c6
    refine zv_run 3 (pc' := 12) (lo' := [some (.ref 2), some (.ref 1), some (.int (nI l)), some (.int (nI p)), none, none, none, none]) (st' := [.int 400, .int (nI p)]) (I' := (zx_uI I 2 2 0)) (L' := L) (R' := zw_RC h sp la) rfl ?_
    refine zv_icmp_lt (tgt := 18) (zs_at rfl) (by decide) (fun c12 => ?_) (fun c12 => ?_)
    · have _c := c12
      refine zv_run 3 (pc' := 21) (lo' := [some (.ref 2), some (.ref 1), some (.int (nI l)), some (.int (nI p)), none, none, none, none]) (st' := [.int (nI p), .ref 1, .ref 2]) (I' := (zx_uI I 2 2 0)) (L' := L) (R' := zw_RC h sp la) rfl ?_
      refine zv_bald (zs_at rfl) rfl (vp_in_nI (by omega) (by decide)) ?_
      refine zv_run 0 (pc' := 22) (lo' := [some (.ref 2), some (.ref 1), some (.int (nI l)), some (.int (nI p)), none, none, none, none]) (st' := [.int (I 1 ((nI p).toNatClampNeg)), .ref 2]) (I' := (zx_uI I 2 2 0)) (L' := L) (R' := zw_RC h sp la) rfl ?_
      refine zv_run 9 (pc' := 36) (lo' := [some (.ref 2), some (.ref 1), some (.int (nI l)), some (.int (nI p)), some (.int 0), some (.int 0), some (.int ((nI p) + 1)), none]) (st' := []) (I' := (zx_uI (zx_uI I 2 2 0) 2 1 (I 1 ((nI p).toNatClampNeg)))) (L' := L) (R' := zw_RC h sp la) rfl ?_
      rw [← nI_succ]
      exact lp_X6_read hl (l - (p + 1)) (p + 1) 0 0 0 _ none (by omega) rfl (by decide)
    · exact absurd (by exact nI_lt (a := p) (b := 400) (by omega) (by decide)) c12
