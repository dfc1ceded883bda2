/-! the run of an evening, step by step -/
def fe_up (I : zx_I) (L : zx_L) (t : Int32) : zx_I := if fa_plans L t = 0 then I else ff_up I
def fe_who (I : zx_I) (la : Option Nat) (a : Nat) (t : Int32) : Option Nat := if t ≥ I 36 5 then (fe_choose I la a t).1 else none
def fe_mem (I : zx_I) (la : Option Nat) (a : Nat) (t : Int32) : zx_I := if t ≥ I 36 5 then (fe_choose I la a t).2 else I
def fe_go (J : zx_I) (la : Option Nat) (a : Nat) (t : Int32) (w : Option Nat) : zx_I := match w with
  | none => J
  | some w => fe_in (fe_canm J la a w t) w t
def fe_la (la w : Option Nat) : Option Nat := match w with
  | none => la
  | some w => some w
def fe_min (x y : Int32) : Int32 := if y < x then y else x
def fe_tap (J : zx_I) (t : Int32) : zx_I := if fa_taps J t = 0 then J else ft_draw J (fe_min (J 34 7) (J 37 1 * J 37 2))
def fe_cool (J : zx_I) (a : Nat) : zx_I := ff_old (ft_lose (ft_warm J (ff_gives J a)) (J a 5)) a
def fe_end (J : zx_I) (a : Nat) : zx_I := zx_uI (fe_cool J a) 36 3 (fe_cool J a 36 3 + 1)
def fe_mid (I : zx_I) (la : Option Nat) (a : Nat) (t : Int32) : zx_I := fe_go (fe_mem I la a t) la a t (fe_who I la a t)
def fe_step (L : zx_L) (I : zx_I) (la : Option Nat) (a : Nat) (t : Int32) : zx_I := fe_end (fe_tap (fe_mid (fe_up I L t) la a t) t) a
def fe_next (L : zx_L) (I : zx_I) (la : Option Nat) (a : Nat) (t : Int32) : Option Nat := fe_la la (fe_who (fe_up I L t) la a t)
theorem rn97_4 {d : Nat} {J : zx_I} {L : zx_L} {h sp : Nat} {la : Option Nat} {t : Int32} {Q : zx_Qt} {x4 : Option Value} (hT : tk_ok J) (k : zx_V mm_X3_run (d + 4) z0 Q zw_SC 11 [some (.ref 36), some (.ref 4), some (.ref 34), some (.int (t + 1)), x4] [] (fe_end J 4) L (zw_RC h sp la)) : zx_V mm_X3_run (d + 4) z0 Q zw_SC 97 [some (.ref 36), some (.ref 4), some (.ref 34), some (.int t), x4] [] J L (zw_RC h sp la) := by
  refine zv_run 5 (pc' := 106) (lo' := [some (.ref 36), some (.ref 4), some (.ref 34), some (.int t), x4]) (st' := [.ref 4, .ref 39, .ref 37]) (I' := J) (L' := L) (R' := zw_RC h sp la) rfl ?_
  refine zv_cV (M' := mm_X4_gives) (ci := 4) (a := 39) (av := [.ref 4]) (st := [.ref 37]) (r := some (.int (ff_gives J 4))) (I' := J) (L' := L) (R' := zw_RC h sp la) rfl zc_3_85 gd_X4_gives rfl rfl rfl (Nat.le_of_ble_eq_true rfl) (ct_X4_gives (d := _) (Or.inl rfl)) ⟨Nat.le_refl _, Nat.le_refl _⟩ ?_
  refine zv_run 0 (pc' := 109) (lo' := [some (.ref 36), some (.ref 4), some (.ref 34), some (.int t), x4]) (st' := [.int (ff_gives J 4), .ref 37]) (I' := J) (L' := L) (R' := zw_RC h sp la) rfl ?_
  refine zv_cV (M' := mm_X7_warm) (ci := 7) (a := 37) (av := [.int (ff_gives J 4)]) (st := []) (r := none) (I' := (ft_warm J (ff_gives J 4))) (L' := L) (R' := zw_RC h sp la) rfl zc_3_89 gd_X7_warm rfl rfl rfl (Nat.le_of_ble_eq_true rfl) (ct_X7_warm (d := _) hT) ⟨Nat.le_refl _, Nat.le_refl _⟩ ?_
  refine zv_run 0 (pc' := 112) (lo' := [some (.ref 36), some (.ref 4), some (.ref 34), some (.int t), x4]) (st' := []) (I' := (ft_warm J (ff_gives J 4))) (L' := L) (R' := zw_RC h sp la) rfl ?_
  refine zv_run 4 (pc' := 120) (lo' := [some (.ref 36), some (.ref 4), some (.ref 34), some (.int t), x4]) (st' := [.int (J 4 5), .ref 37]) (I' := (ft_warm J (ff_gives J 4))) (L' := L) (R' := zw_RC h sp la) rfl ?_
  refine zv_cV (M' := mm_X7_lose) (ci := 7) (a := 37) (av := [.int (J 4 5)]) (st := []) (r := none) (I' := (ft_lose (ft_warm J (ff_gives J 4)) (J 4 5))) (L' := L) (R' := zw_RC h sp la) rfl zc_3_95 gd_X7_lose rfl rfl rfl (Nat.le_of_ble_eq_true rfl) (ct_X7_lose (d := _) (tk_cg (J := (ft_warm J (ff_gives J 4))) (I := J) rfl hT)) ⟨Nat.le_refl _, Nat.le_refl _⟩ ?_
  refine zv_run 0 (pc' := 123) (lo' := [some (.ref 36), some (.ref 4), some (.ref 34), some (.int t), x4]) (st' := []) (I' := (ft_lose (ft_warm J (ff_gives J 4)) (J 4 5))) (L' := L) (R' := zw_RC h sp la) rfl ?_
  refine zv_run 3 (pc' := 128) (lo' := [some (.ref 36), some (.ref 4), some (.ref 34), some (.int t), x4]) (st' := [.ref 4, .ref 39]) (I' := (ft_lose (ft_warm J (ff_gives J 4)) (J 4 5))) (L' := L) (R' := zw_RC h sp la) rfl ?_
  refine zv_cV (M' := mm_X4_getOlder) (ci := 4) (a := 39) (av := [.ref 4]) (st := []) (r := none) (I' := (ff_old (ft_lose (ft_warm J (ff_gives J 4)) (J 4 5)) 4)) (L' := L) (R' := zw_RC h sp la) rfl zc_3_98 gd_X4_getOlder rfl rfl rfl (Nat.le_of_ble_eq_true rfl) (ct_X4_getOlder (d := _) (Or.inl rfl)) ⟨Nat.le_refl _, Nat.le_refl _⟩ ?_
  refine zv_run 0 (pc' := 131) (lo' := [some (.ref 36), some (.ref 4), some (.ref 34), some (.int t), x4]) (st' := []) (I' := (ff_old (ft_lose (ft_warm J (ff_gives J 4)) (J 4 5)) 4)) (L' := L) (R' := zw_RC h sp la) rfl ?_
  refine zv_run 8 (pc' := 11) (lo' := [some (.ref 36), some (.ref 4), some (.ref 34), some (.int (t + 1)), x4]) (st' := []) (I' := (zx_uI (ff_old (ft_lose (ft_warm J (ff_gives J 4)) (J 4 5)) 4) 36 3 (((ff_old (ft_lose (ft_warm J (ff_gives J 4)) (J 4 5)) 4) 36 3) + 1))) (L' := L) (R' := zw_RC h sp la) rfl ?_
  exact k
theorem rn68_4 {d : Nat} {J : zx_I} {L : zx_L} {h sp : Nat} {la : Option Nat} {t : Int32} {Q : zx_Qt} {x4 : Option Value} (hT : tk_ok J) (k : zx_V mm_X3_run (d + 4) z0 Q zw_SC 97 [some (.ref 36), some (.ref 4), some (.ref 34), some (.int t), x4] [] (fe_tap J t) L (zw_RC h sp la)) : zx_V mm_X3_run (d + 4) z0 Q zw_SC 68 [some (.ref 36), some (.ref 4), some (.ref 34), some (.int t), x4] [] J L (zw_RC h sp la) := by
  refine zv_run 2 (pc' := 70) (lo' := [some (.ref 36), some (.ref 4), some (.ref 34), some (.int t), x4]) (st' := [.int t, .ref 34]) (I' := J) (L' := L) (R' := zw_RC h sp la) rfl ?_
  refine zv_cV (M' := mm_X0_tapsAt) (ci := 0) (a := 34) (av := [.int t]) (st := []) (r := some (.int (fa_taps J t))) (I' := J) (L' := L) (R' := zw_RC h sp la) rfl zc_3_65 gd_X0_tapsAt rfl rfl rfl (Nat.le_of_ble_eq_true rfl) (ct_X0_tapsAt (d := _)) ⟨Nat.le_refl _, Nat.le_refl _⟩ ?_
  refine zv_run 0 (pc' := 73) (lo' := [some (.ref 36), some (.ref 4), some (.ref 34), some (.int t), x4]) (st' := [.int (fa_taps J t)]) (I' := J) (L' := L) (R' := zw_RC h sp la) rfl ?_
  refine zv_if_eq (tgt := 97) (zs_at rfl) (by decide) (fun c73 => ?_) (fun c73 => ?_)
  · have _c := c73
    rw [show fe_tap J t = J from by unfold fe_tap; rw [if_pos c73]] at k
    exact k
  · have _c := c73
    refine zv_run 6 (pc' := 88) (lo' := [some (.ref 36), some (.ref 4), some (.ref 34), some (.int t), x4]) (st' := [.ref 37, .int (J 34 7), .ref 37]) (I' := J) (L' := L) (R' := zw_RC h sp la) rfl ?_
    refine zv_cV (M' := mm_X7_holds) (ci := 7) (a := 37) (av := []) (st := [.int (J 34 7), .ref 37]) (r := some (.int (J 37 1 * J 37 2))) (I' := J) (L' := L) (R' := zw_RC h sp la) rfl zc_3_71 gd_X7_holds rfl rfl rfl (Nat.le_of_ble_eq_true rfl) (ct_X7_holds (d := _)) ⟨Nat.le_refl _, Nat.le_refl _⟩ ?_
    refine zv_run 0 (pc' := 91) (lo' := [some (.ref 36), some (.ref 4), some (.ref 34), some (.int t), x4]) (st' := [.int (J 37 1 * J 37 2), .int (J 34 7), .ref 37]) (I' := J) (L' := L) (R' := zw_RC h sp la) rfl ?_
    refine zv_min rfl zm_3_75 (Nat.le_of_ble_eq_true rfl) ⟨Nat.le_refl _, Nat.le_refl _⟩ ?_
    refine zv_cV (M' := mm_X7_draw) (ci := 7) (a := 37) (av := [.int (if (J 37 1 * J 37 2) < (J 34 7) then (J 37 1 * J 37 2) else (J 34 7))]) (st := []) (r := none) (I' := (ft_draw J (if (J 37 1 * J 37 2) < (J 34 7) then (J 37 1 * J 37 2) else (J 34 7)))) (L' := L) (R' := zw_RC h sp la) rfl zc_3_81 gd_X7_draw rfl rfl rfl (Nat.le_of_ble_eq_true rfl) (ct_X7_draw (d := _) hT) ⟨Nat.le_refl _, Nat.le_refl _⟩ ?_
    refine zv_run 0 (pc' := 97) (lo' := [some (.ref 36), some (.ref 4), some (.ref 34), some (.int t), x4]) (st' := []) (I' := (ft_draw J (if (J 37 1 * J 37 2) < (J 34 7) then (J 37 1 * J 37 2) else (J 34 7)))) (L' := L) (R' := zw_RC h sp la) rfl ?_
    rw [show fe_tap J t = ft_draw J (fe_min (J 34 7) (J 37 1 * J 37 2)) from by unfold fe_tap; rw [if_neg c73]] at k
    exact k
theorem rn34_4 {d : Nat} {J : zx_I} {L : zx_L} {h sp : Nat} {la : Option Nat} {t : Int32} {Q : zx_Qt} {x4 : Option Value} (hT : tk_ok J) (hc : hs_ct J 4) (hl : ∀ wl, la = some wl → bt wl) (hok : ok_all J 4 (J 4 13).toInt.toNat) (k : ∀ x4, zx_V mm_X3_run (d + 4) z0 Q zw_SC 68 [some (.ref 36), some (.ref 4), some (.ref 34), some (.int t), x4] [] (fe_mid J la 4 t) L (zw_RC h sp (fe_la la (fe_who J la 4 t)))) : zx_V mm_X3_run (d + 4) z0 Q zw_SC 34 [some (.ref 36), some (.ref 4), some (.ref 34), some (.int t), x4] [] J L (zw_RC h sp la) := by
  refine zv_run 3 (pc' := 39) (lo' := [some (.ref 36), some (.ref 4), some (.ref 34), some (.int t), x4]) (st' := [.int (J 36 5), .int t]) (I' := J) (L' := L) (R' := zw_RC h sp la) rfl ?_
  refine zv_icmp_ge (tgt := 46) (zs_at rfl) (by decide) (fun c39 => ?_) (fun c39 => ?_)
  · have _c := c39
    refine zv_run 4 (pc' := 50) (lo' := [some (.ref 36), some (.ref 4), some (.ref 34), some (.int t), x4]) (st' := [.int t, .ref 34, .ref 4, .ref 36]) (I' := J) (L' := L) (R' := zw_RC h sp la) rfl ?_
    refine zv_cV (M' := mm_X3_chosen) (ci := 3) (a := 36) (av := [.ref 4, .ref 34, .int t]) (st := []) (r := some (va_rf ((fe_choose J la 4 t).1))) (I' := (fe_choose J la 4 t).2) (L' := L) (R' := zw_RC h sp la) rfl zc_3_57 gd_X3_chosen rfl rfl rfl (Nat.le_of_ble_eq_true rfl) (ct_X3_chosen (d := _) (Or.inl rfl) hT hc hl hok) ⟨Nat.le_refl _, Nat.le_refl _⟩ ?_
    rcases hw53 : (fe_choose J la 4 t).1 with _ | w
    · refine zv_run 0 (pc' := 53) (lo' := [some (.ref 36), some (.ref 4), some (.ref 34), some (.int t), x4]) (st' := [.null]) (I' := (fe_choose J la 4 t).2) (L' := L) (R' := zw_RC h sp la) rfl ?_
      refine zv_run 2 (pc' := 57) (lo' := [some (.ref 36), some (.ref 4), some (.ref 34), some (.int t), some (.null)]) (st' := [.null]) (I' := (fe_choose J la 4 t).2) (L' := L) (R' := zw_RC h sp la) rfl ?_
      refine zv_ifnullN (tgt := 68) (zs_at rfl) (by decide) ?_
      have hq : fe_who J la 4 t = none := by unfold fe_who; rw [if_pos c39]; exact hw53
      rw [show fe_mid J la 4 t = (fe_choose J la 4 t).2 from by unfold fe_mid; rw [hq]; unfold fe_mem; rw [if_pos c39]; rfl, hq] at k
      exact k _
    · refine zv_run 0 (pc' := 53) (lo' := [some (.ref 36), some (.ref 4), some (.ref 34), some (.int t), x4]) (st' := [.ref w]) (I' := (fe_choose J la 4 t).2) (L' := L) (R' := zw_RC h sp la) rfl ?_
      obtain ⟨j, hj, hwj, hcan⟩ := (fe_choose_ok (t := t) (Or.inl rfl) hc hl).2 w hw53
      have he := (fe_choose_ok (I := J) (la := la) (t := t) (Or.inl rfl) hc hl).1
      have hb : bt w := by rw [hwj]; unfold bt; have := hc.2; omega
      have hw := ok_w_cg he (Or.inl rfl) hb (by rw [hwj]; exact hok j hj)
      have hcn : ¬ fe_can (fe_choose J la 4 t).2 la 4 w t = 0 := by rw [fe_can_cg he (Or.inl rfl) hb hl]; exact hcan
      refine zv_run 2 (pc' := 57) (lo' := [some (.ref 36), some (.ref 4), some (.ref 34), some (.int t), some (.ref w)]) (st' := [.ref w]) (I' := (fe_choose J la 4 t).2) (L' := L) (R' := zw_RC h sp la) rfl ?_
      refine zv_ifnull (zs_at rfl) ?_
      refine zv_run 4 (pc' := 65) (lo' := [some (.ref 36), some (.ref 4), some (.ref 34), some (.int t), some (.ref w)]) (st' := [.int t, .ref w, .ref 4, .ref 36]) (I' := (fe_choose J la 4 t).2) (L' := L) (R' := zw_RC h sp la) rfl ?_
      refine zv_cV (M' := mm_X3_goesIn) (ci := 3) (a := 36) (av := [.ref 4, .ref w, .int t]) (st := []) (r := none) (I' := (fe_in (fe_canm (fe_choose J la 4 t).2 la 4 w t) w t)) (L' := L) (R' := zw_RC h sp (some w)) rfl zc_3_61 gd_X3_goesIn rfl rfl rfl (Nat.le_of_ble_eq_true rfl) (ct_X3_goesIn (d := _) (Or.inl rfl) (tk_cg (he 37 (by decide)) hT) hb hl hw hcn) ⟨Nat.le_refl _, Nat.le_refl _⟩ ?_
      refine zv_run 0 (pc' := 68) (lo' := [some (.ref 36), some (.ref 4), some (.ref 34), some (.int t), some (.ref w)]) (st' := []) (I' := (fe_in (fe_canm (fe_choose J la 4 t).2 la 4 w t) w t)) (L' := L) (R' := zw_RC h sp (some w)) rfl ?_
      have hq : fe_who J la 4 t = some w := by unfold fe_who; rw [if_pos c39]; exact hw53
      rw [show fe_mid J la 4 t = fe_in (fe_canm (fe_choose J la 4 t).2 la 4 w t) w t from by unfold fe_mid; rw [hq]; unfold fe_mem; rw [if_pos c39]; rfl, hq] at k
      exact k _
  · have _c := c39
    refine zv_run 2 (pc' := 53) (lo' := [some (.ref 36), some (.ref 4), some (.ref 34), some (.int t), x4]) (st' := [.null]) (I' := J) (L' := L) (R' := zw_RC h sp la) rfl ?_
    refine zv_run 2 (pc' := 57) (lo' := [some (.ref 36), some (.ref 4), some (.ref 34), some (.int t), some (.null)]) (st' := [.null]) (I' := J) (L' := L) (R' := zw_RC h sp la) rfl ?_
    refine zv_ifnullN (tgt := 68) (zs_at rfl) (by decide) ?_
    rw [show fe_mid J la 4 t = J from by unfold fe_mid fe_who fe_mem; rw [if_neg c39, if_neg c39]; rfl, show fe_who J la 4 t = none from by unfold fe_who; rw [if_neg c39]] at k
    exact k _
theorem rn97_14 {d : Nat} {J : zx_I} {L : zx_L} {h sp : Nat} {la : Option Nat} {t : Int32} {Q : zx_Qt} {x4 : Option Value} (hT : tk_ok J) (k : zx_V mm_X3_run (d + 4) z0 Q zw_SC 11 [some (.ref 36), some (.ref 14), some (.ref 34), some (.int (t + 1)), x4] [] (fe_end J 14) L (zw_RC h sp la)) : zx_V mm_X3_run (d + 4) z0 Q zw_SC 97 [some (.ref 36), some (.ref 14), some (.ref 34), some (.int t), x4] [] J L (zw_RC h sp la) := by
  refine zv_run 5 (pc' := 106) (lo' := [some (.ref 36), some (.ref 14), some (.ref 34), some (.int t), x4]) (st' := [.ref 14, .ref 39, .ref 37]) (I' := J) (L' := L) (R' := zw_RC h sp la) rfl ?_
  refine zv_cV (M' := mm_X4_gives) (ci := 4) (a := 39) (av := [.ref 14]) (st := [.ref 37]) (r := some (.int (ff_gives J 14))) (I' := J) (L' := L) (R' := zw_RC h sp la) rfl zc_3_85 gd_X4_gives rfl rfl rfl (Nat.le_of_ble_eq_true rfl) (ct_X4_gives (d := _) (Or.inr rfl)) ⟨Nat.le_refl _, Nat.le_refl _⟩ ?_
  refine zv_run 0 (pc' := 109) (lo' := [some (.ref 36), some (.ref 14), some (.ref 34), some (.int t), x4]) (st' := [.int (ff_gives J 14), .ref 37]) (I' := J) (L' := L) (R' := zw_RC h sp la) rfl ?_
  refine zv_cV (M' := mm_X7_warm) (ci := 7) (a := 37) (av := [.int (ff_gives J 14)]) (st := []) (r := none) (I' := (ft_warm J (ff_gives J 14))) (L' := L) (R' := zw_RC h sp la) rfl zc_3_89 gd_X7_warm rfl rfl rfl (Nat.le_of_ble_eq_true rfl) (ct_X7_warm (d := _) hT) ⟨Nat.le_refl _, Nat.le_refl _⟩ ?_
  refine zv_run 0 (pc' := 112) (lo' := [some (.ref 36), some (.ref 14), some (.ref 34), some (.int t), x4]) (st' := []) (I' := (ft_warm J (ff_gives J 14))) (L' := L) (R' := zw_RC h sp la) rfl ?_
  refine zv_run 4 (pc' := 120) (lo' := [some (.ref 36), some (.ref 14), some (.ref 34), some (.int t), x4]) (st' := [.int (J 14 5), .ref 37]) (I' := (ft_warm J (ff_gives J 14))) (L' := L) (R' := zw_RC h sp la) rfl ?_
  refine zv_cV (M' := mm_X7_lose) (ci := 7) (a := 37) (av := [.int (J 14 5)]) (st := []) (r := none) (I' := (ft_lose (ft_warm J (ff_gives J 14)) (J 14 5))) (L' := L) (R' := zw_RC h sp la) rfl zc_3_95 gd_X7_lose rfl rfl rfl (Nat.le_of_ble_eq_true rfl) (ct_X7_lose (d := _) (tk_cg (J := (ft_warm J (ff_gives J 14))) (I := J) rfl hT)) ⟨Nat.le_refl _, Nat.le_refl _⟩ ?_
  refine zv_run 0 (pc' := 123) (lo' := [some (.ref 36), some (.ref 14), some (.ref 34), some (.int t), x4]) (st' := []) (I' := (ft_lose (ft_warm J (ff_gives J 14)) (J 14 5))) (L' := L) (R' := zw_RC h sp la) rfl ?_
  refine zv_run 3 (pc' := 128) (lo' := [some (.ref 36), some (.ref 14), some (.ref 34), some (.int t), x4]) (st' := [.ref 14, .ref 39]) (I' := (ft_lose (ft_warm J (ff_gives J 14)) (J 14 5))) (L' := L) (R' := zw_RC h sp la) rfl ?_
  refine zv_cV (M' := mm_X4_getOlder) (ci := 4) (a := 39) (av := [.ref 14]) (st := []) (r := none) (I' := (ff_old (ft_lose (ft_warm J (ff_gives J 14)) (J 14 5)) 14)) (L' := L) (R' := zw_RC h sp la) rfl zc_3_98 gd_X4_getOlder rfl rfl rfl (Nat.le_of_ble_eq_true rfl) (ct_X4_getOlder (d := _) (Or.inr rfl)) ⟨Nat.le_refl _, Nat.le_refl _⟩ ?_
  refine zv_run 0 (pc' := 131) (lo' := [some (.ref 36), some (.ref 14), some (.ref 34), some (.int t), x4]) (st' := []) (I' := (ff_old (ft_lose (ft_warm J (ff_gives J 14)) (J 14 5)) 14)) (L' := L) (R' := zw_RC h sp la) rfl ?_
  refine zv_run 8 (pc' := 11) (lo' := [some (.ref 36), some (.ref 14), some (.ref 34), some (.int (t + 1)), x4]) (st' := []) (I' := (zx_uI (ff_old (ft_lose (ft_warm J (ff_gives J 14)) (J 14 5)) 14) 36 3 (((ff_old (ft_lose (ft_warm J (ff_gives J 14)) (J 14 5)) 14) 36 3) + 1))) (L' := L) (R' := zw_RC h sp la) rfl ?_
  exact k
theorem rn68_14 {d : Nat} {J : zx_I} {L : zx_L} {h sp : Nat} {la : Option Nat} {t : Int32} {Q : zx_Qt} {x4 : Option Value} (hT : tk_ok J) (k : zx_V mm_X3_run (d + 4) z0 Q zw_SC 97 [some (.ref 36), some (.ref 14), some (.ref 34), some (.int t), x4] [] (fe_tap J t) L (zw_RC h sp la)) : zx_V mm_X3_run (d + 4) z0 Q zw_SC 68 [some (.ref 36), some (.ref 14), some (.ref 34), some (.int t), x4] [] J L (zw_RC h sp la) := by
  refine zv_run 2 (pc' := 70) (lo' := [some (.ref 36), some (.ref 14), some (.ref 34), some (.int t), x4]) (st' := [.int t, .ref 34]) (I' := J) (L' := L) (R' := zw_RC h sp la) rfl ?_
  refine zv_cV (M' := mm_X0_tapsAt) (ci := 0) (a := 34) (av := [.int t]) (st := []) (r := some (.int (fa_taps J t))) (I' := J) (L' := L) (R' := zw_RC h sp la) rfl zc_3_65 gd_X0_tapsAt rfl rfl rfl (Nat.le_of_ble_eq_true rfl) (ct_X0_tapsAt (d := _)) ⟨Nat.le_refl _, Nat.le_refl _⟩ ?_
  refine zv_run 0 (pc' := 73) (lo' := [some (.ref 36), some (.ref 14), some (.ref 34), some (.int t), x4]) (st' := [.int (fa_taps J t)]) (I' := J) (L' := L) (R' := zw_RC h sp la) rfl ?_
  refine zv_if_eq (tgt := 97) (zs_at rfl) (by decide) (fun c73 => ?_) (fun c73 => ?_)
  · have _c := c73
    rw [show fe_tap J t = J from by unfold fe_tap; rw [if_pos c73]] at k
    exact k
  · have _c := c73
    refine zv_run 6 (pc' := 88) (lo' := [some (.ref 36), some (.ref 14), some (.ref 34), some (.int t), x4]) (st' := [.ref 37, .int (J 34 7), .ref 37]) (I' := J) (L' := L) (R' := zw_RC h sp la) rfl ?_
    refine zv_cV (M' := mm_X7_holds) (ci := 7) (a := 37) (av := []) (st := [.int (J 34 7), .ref 37]) (r := some (.int (J 37 1 * J 37 2))) (I' := J) (L' := L) (R' := zw_RC h sp la) rfl zc_3_71 gd_X7_holds rfl rfl rfl (Nat.le_of_ble_eq_true rfl) (ct_X7_holds (d := _)) ⟨Nat.le_refl _, Nat.le_refl _⟩ ?_
    refine zv_run 0 (pc' := 91) (lo' := [some (.ref 36), some (.ref 14), some (.ref 34), some (.int t), x4]) (st' := [.int (J 37 1 * J 37 2), .int (J 34 7), .ref 37]) (I' := J) (L' := L) (R' := zw_RC h sp la) rfl ?_
    refine zv_min rfl zm_3_75 (Nat.le_of_ble_eq_true rfl) ⟨Nat.le_refl _, Nat.le_refl _⟩ ?_
    refine zv_cV (M' := mm_X7_draw) (ci := 7) (a := 37) (av := [.int (if (J 37 1 * J 37 2) < (J 34 7) then (J 37 1 * J 37 2) else (J 34 7))]) (st := []) (r := none) (I' := (ft_draw J (if (J 37 1 * J 37 2) < (J 34 7) then (J 37 1 * J 37 2) else (J 34 7)))) (L' := L) (R' := zw_RC h sp la) rfl zc_3_81 gd_X7_draw rfl rfl rfl (Nat.le_of_ble_eq_true rfl) (ct_X7_draw (d := _) hT) ⟨Nat.le_refl _, Nat.le_refl _⟩ ?_
    refine zv_run 0 (pc' := 97) (lo' := [some (.ref 36), some (.ref 14), some (.ref 34), some (.int t), x4]) (st' := []) (I' := (ft_draw J (if (J 37 1 * J 37 2) < (J 34 7) then (J 37 1 * J 37 2) else (J 34 7)))) (L' := L) (R' := zw_RC h sp la) rfl ?_
    rw [show fe_tap J t = ft_draw J (fe_min (J 34 7) (J 37 1 * J 37 2)) from by unfold fe_tap; rw [if_neg c73]] at k
    exact k
theorem rn34_14 {d : Nat} {J : zx_I} {L : zx_L} {h sp : Nat} {la : Option Nat} {t : Int32} {Q : zx_Qt} {x4 : Option Value} (hT : tk_ok J) (hc : hs_ct J 14) (hl : ∀ wl, la = some wl → bt wl) (hok : ok_all J 14 (J 14 13).toInt.toNat) (k : ∀ x4, zx_V mm_X3_run (d + 4) z0 Q zw_SC 68 [some (.ref 36), some (.ref 14), some (.ref 34), some (.int t), x4] [] (fe_mid J la 14 t) L (zw_RC h sp (fe_la la (fe_who J la 14 t)))) : zx_V mm_X3_run (d + 4) z0 Q zw_SC 34 [some (.ref 36), some (.ref 14), some (.ref 34), some (.int t), x4] [] J L (zw_RC h sp la) := by
  refine zv_run 3 (pc' := 39) (lo' := [some (.ref 36), some (.ref 14), some (.ref 34), some (.int t), x4]) (st' := [.int (J 36 5), .int t]) (I' := J) (L' := L) (R' := zw_RC h sp la) rfl ?_
  refine zv_icmp_ge (tgt := 46) (zs_at rfl) (by decide) (fun c39 => ?_) (fun c39 => ?_)
  · have _c := c39
    refine zv_run 4 (pc' := 50) (lo' := [some (.ref 36), some (.ref 14), some (.ref 34), some (.int t), x4]) (st' := [.int t, .ref 34, .ref 14, .ref 36]) (I' := J) (L' := L) (R' := zw_RC h sp la) rfl ?_
    refine zv_cV (M' := mm_X3_chosen) (ci := 3) (a := 36) (av := [.ref 14, .ref 34, .int t]) (st := []) (r := some (va_rf ((fe_choose J la 14 t).1))) (I' := (fe_choose J la 14 t).2) (L' := L) (R' := zw_RC h sp la) rfl zc_3_57 gd_X3_chosen rfl rfl rfl (Nat.le_of_ble_eq_true rfl) (ct_X3_chosen (d := _) (Or.inr rfl) hT hc hl hok) ⟨Nat.le_refl _, Nat.le_refl _⟩ ?_
    rcases hw53 : (fe_choose J la 14 t).1 with _ | w
    · refine zv_run 0 (pc' := 53) (lo' := [some (.ref 36), some (.ref 14), some (.ref 34), some (.int t), x4]) (st' := [.null]) (I' := (fe_choose J la 14 t).2) (L' := L) (R' := zw_RC h sp la) rfl ?_
      refine zv_run 2 (pc' := 57) (lo' := [some (.ref 36), some (.ref 14), some (.ref 34), some (.int t), some (.null)]) (st' := [.null]) (I' := (fe_choose J la 14 t).2) (L' := L) (R' := zw_RC h sp la) rfl ?_
      refine zv_ifnullN (tgt := 68) (zs_at rfl) (by decide) ?_
      have hq : fe_who J la 14 t = none := by unfold fe_who; rw [if_pos c39]; exact hw53
      rw [show fe_mid J la 14 t = (fe_choose J la 14 t).2 from by unfold fe_mid; rw [hq]; unfold fe_mem; rw [if_pos c39]; rfl, hq] at k
      exact k _
    · refine zv_run 0 (pc' := 53) (lo' := [some (.ref 36), some (.ref 14), some (.ref 34), some (.int t), x4]) (st' := [.ref w]) (I' := (fe_choose J la 14 t).2) (L' := L) (R' := zw_RC h sp la) rfl ?_
      obtain ⟨j, hj, hwj, hcan⟩ := (fe_choose_ok (t := t) (Or.inr rfl) hc hl).2 w hw53
      have he := (fe_choose_ok (I := J) (la := la) (t := t) (Or.inr rfl) hc hl).1
      have hb : bt w := by rw [hwj]; unfold bt; have := hc.2; omega
      have hw := ok_w_cg he (Or.inr rfl) hb (by rw [hwj]; exact hok j hj)
      have hcn : ¬ fe_can (fe_choose J la 14 t).2 la 14 w t = 0 := by rw [fe_can_cg he (Or.inr rfl) hb hl]; exact hcan
      refine zv_run 2 (pc' := 57) (lo' := [some (.ref 36), some (.ref 14), some (.ref 34), some (.int t), some (.ref w)]) (st' := [.ref w]) (I' := (fe_choose J la 14 t).2) (L' := L) (R' := zw_RC h sp la) rfl ?_
      refine zv_ifnull (zs_at rfl) ?_
      refine zv_run 4 (pc' := 65) (lo' := [some (.ref 36), some (.ref 14), some (.ref 34), some (.int t), some (.ref w)]) (st' := [.int t, .ref w, .ref 14, .ref 36]) (I' := (fe_choose J la 14 t).2) (L' := L) (R' := zw_RC h sp la) rfl ?_
      refine zv_cV (M' := mm_X3_goesIn) (ci := 3) (a := 36) (av := [.ref 14, .ref w, .int t]) (st := []) (r := none) (I' := (fe_in (fe_canm (fe_choose J la 14 t).2 la 14 w t) w t)) (L' := L) (R' := zw_RC h sp (some w)) rfl zc_3_61 gd_X3_goesIn rfl rfl rfl (Nat.le_of_ble_eq_true rfl) (ct_X3_goesIn (d := _) (Or.inr rfl) (tk_cg (he 37 (by decide)) hT) hb hl hw hcn) ⟨Nat.le_refl _, Nat.le_refl _⟩ ?_
      refine zv_run 0 (pc' := 68) (lo' := [some (.ref 36), some (.ref 14), some (.ref 34), some (.int t), some (.ref w)]) (st' := []) (I' := (fe_in (fe_canm (fe_choose J la 14 t).2 la 14 w t) w t)) (L' := L) (R' := zw_RC h sp (some w)) rfl ?_
      have hq : fe_who J la 14 t = some w := by unfold fe_who; rw [if_pos c39]; exact hw53
      rw [show fe_mid J la 14 t = fe_in (fe_canm (fe_choose J la 14 t).2 la 14 w t) w t from by unfold fe_mid; rw [hq]; unfold fe_mem; rw [if_pos c39]; rfl, hq] at k
      exact k _
  · have _c := c39
    refine zv_run 2 (pc' := 53) (lo' := [some (.ref 36), some (.ref 14), some (.ref 34), some (.int t), x4]) (st' := [.null]) (I' := J) (L' := L) (R' := zw_RC h sp la) rfl ?_
    refine zv_run 2 (pc' := 57) (lo' := [some (.ref 36), some (.ref 14), some (.ref 34), some (.int t), some (.null)]) (st' := [.null]) (I' := J) (L' := L) (R' := zw_RC h sp la) rfl ?_
    refine zv_ifnullN (tgt := 68) (zs_at rfl) (by decide) ?_
    rw [show fe_mid J la 14 t = J from by unfold fe_mid fe_who fe_mem; rw [if_neg c39, if_neg c39]; rfl, show fe_who J la 14 t = none from by unfold fe_who; rw [if_neg c39]] at k
    exact k _
def ok_in (I : zx_I) (la : Option Nat) (a : Nat) : Prop := tk_ok I ∧ hs_ct I a ∧ (∀ wl, la = some wl → bt wl) ∧ ok_all I a (I a 13).toInt.toNat
def fe_loop (L : zx_L) (a : Nat) : Nat → Nat → zx_I → Option Nat → zx_I × Option Nat
  | 0, _, J, la => (J, la)
  | n + 1, k, J, la => fe_loop L a n (k + 1) (fe_step L J la a (nI k)) (fe_next L J la a (nI k))
theorem fe_up_ne {I : zx_I} {L : zx_L} {t : Int32} {b : Nat} (hb : b ≠ 39) : fe_up I L t b = I b := by
  unfold fe_up
  split
  · rfl
  · unfold ff_up
    split
    · rfl
    · rw [zx_uI_ne hb, zx_uI_ne hb, zx_uI_ne hb]
theorem fc_p_cg {I J : zx_I} {ww : Nat} {g : Int32} (h37 : J 37 = I 37) (h38 : J 38 = I 38) (hw : J ww = I ww) : fc_p J ww g = fc_p I ww g := (fc_cg h37 h38 hw).1
theorem ok_in_up {I : zx_I} {L : zx_L} {t : Int32} {la : Option Nat} {a : Nat} (ha : a = 4 ∨ a = 14) (h : ok_in I la a) : ok_in (fe_up I L t) la a := by
  obtain ⟨h1, h2, h3, h4⟩ := h
  have haa : fe_up I L t a = I a := fe_up_ne (by omega)
  refine ⟨tk_cg (fe_up_ne (by decide)) h1, by unfold hs_ct at h2 ⊢; rw [haa]; exact h2, h3, ?_⟩
  rw [haa]
  intro i hi
  have hb : bt (a + 4 + i) := by unfold bt; have := h2.2; omega
  have hw : fe_up I L t (a + 4 + i) = I (a + 4 + i) := fe_up_ne (by unfold bt at hb; omega)
  have h37 : fe_up I L t 37 = I 37 := fe_up_ne (by decide)
  have h38 : fe_up I L t 38 = I 38 := fe_up_ne (by decide)
  have hg : fe_g (fe_up I L t) a = fe_g I a := by unfold fe_g; rw [fe_up_ne (b := 36) (by decide), haa]
  have q := h4 i hi
  unfold ok_w at q ⊢
  rw [hw, hg, fc_p_cg h37 h38 hw, h37]
  exact q
theorem tk_tap {J : zx_I} {t : Int32} (h : tk_ok J) : tk_ok (fe_tap J t) := by
  unfold fe_tap
  split
  · exact h
  · exact h
theorem lp_X3_run_4 {d : Nat} {L : zx_L} {h sp : Nat} {N : Nat} (hN : N ≤ 60) (P : Nat → zx_I → Option Nat → Prop) (hP : ∀ k J la, P k J la → ok_in J la 4) (hT : ∀ k J la, P k J la → tk_ok (fe_mid (fe_up J L (nI k)) la 4 (nI k))) (hS : ∀ k J la, k < N → P k J la → P (k + 1) (fe_step L J la 4 (nI k)) (fe_next L J la 4 (nI k))) (hst : ∀ k J la, P k J la → J 4 12 = nI N) : ∀ (n k : Nat) (J : zx_I) (la : Option Nat) (x4 : Option Value), k + n = N → P k J la → zx_V mm_X3_run (d + 4) z0 (zw_ret (some (.int (fh_score (fe_loop L 4 n k J la).1 4))) zw_SC (fe_loop L 4 n k J la).1 L (zw_RC h sp (fe_loop L 4 n k J la).2)) zw_SC 11 [some (.ref 36), some (.ref 4), some (.ref 34), some (.int (nI k)), x4] [] J L (zw_RC h sp la) := by
  intro n
  induction n with
  | zero =>
    intro k J la x4 hk hI
    have hc := (hP k J la hI).2.1
    refine zv_run 3 (pc' := 16) (lo' := [some (.ref 36), some (.ref 4), some (.ref 34), some (.int (nI k)), x4]) (st' := [.int (J 4 12), .int (nI k)]) (I' := J) (L' := L) (R' := zw_RC h sp la) rfl ?_
    refine zv_icmp_ge (tgt := 147) (zs_at rfl) (by decide) (fun c16 => ?_) (fun c16 => ?_)
    · have _c := c16
      refine zv_run 1 (pc' := 148) (lo' := [some (.ref 36), some (.ref 4), some (.ref 34), some (.int (nI k)), x4]) (st' := [.ref 4]) (I' := J) (L' := L) (R' := zw_RC h sp la) rfl ?_
      refine zv_cV (M' := mm_X5_scoreOfEvening) (ci := 5) (a := 4) (av := []) (st := []) (r := some (.int (fh_score J 4))) (I' := J) (L' := L) (R' := zw_RC h sp la) rfl zc_3_105 gd_X5_scoreOfEvening rfl rfl rfl (Nat.le_of_ble_eq_true rfl) (ct_X5_scoreOfEvening (d := _) (Or.inl rfl) hc) ⟨Nat.le_refl _, Nat.le_refl _⟩ ?_
      refine zv_run 0 (pc' := 151) (lo' := [some (.ref 36), some (.ref 4), some (.ref 34), some (.int (nI k)), x4]) (st' := [.int (fh_score J 4)]) (I' := J) (L' := L) (R' := zw_RC h sp la) rfl ?_
      exact zv_iret (zs_at rfl) rfl ⟨Nat.le_refl _, Nat.le_refl _⟩ (zw_to rfl rfl rfl rfl)
    · exact absurd (by rw [hst k J la hI]; exact nI_le (by omega) (by omega)) c16
  | succ n ih =>
    intro k J la x4 hk hI
    refine zv_run 3 (pc' := 16) (lo' := [some (.ref 36), some (.ref 4), some (.ref 34), some (.int (nI k)), x4]) (st' := [.int (J 4 12), .int (nI k)]) (I' := J) (L' := L) (R' := zw_RC h sp la) rfl ?_
    refine zv_icmp_ge (tgt := 147) (zs_at rfl) (by decide) (fun c16 => ?_) (fun c16 => ?_)
    · exact absurd c16 (by rw [hst k J la hI]; exact nI_ge (by omega) (by omega))
    · have _c := c16
      refine zv_run 2 (pc' := 21) (lo' := [some (.ref 36), some (.ref 4), some (.ref 34), some (.int (nI k)), x4]) (st' := [.int (nI k), .ref 34]) (I' := J) (L' := L) (R' := zw_RC h sp la) rfl ?_
      refine zv_cV (M' := mm_X0_plansFor) (ci := 0) (a := 34) (av := [.int (nI k)]) (st := []) (r := some (.int (fa_plans L (nI k)))) (I' := J) (L' := L) (R' := zw_RC h sp la) rfl zc_3_47 gd_X0_plansFor rfl rfl rfl (Nat.le_of_ble_eq_true rfl) (ct_X0_plansFor (d := _)) ⟨Nat.le_refl _, Nat.le_refl _⟩ ?_
      refine zv_run 0 (pc' := 24) (lo' := [some (.ref 36), some (.ref 4), some (.ref 34), some (.int (nI k)), x4]) (st' := [.int (fa_plans L (nI k))]) (I' := J) (L' := L) (R' := zw_RC h sp la) rfl ?_
      refine zv_if_eq (tgt := 34) (zs_at rfl) (by decide) (fun c24 => ?_) (fun c24 => ?_)
      · have _c := c24
        have e : fe_up J L (nI k) = J := by unfold fe_up; rw [if_pos c24]
        have ho := ok_in_up (L := L) (t := nI k) (Or.inl rfl) (hP k J la hI)
        rw [e] at ho
        obtain ⟨g1, g2, g3, g4⟩ := ho
        refine rn34_4 g1 g2 g3 g4 (fun x4 => ?_)
        have hm : tk_ok (fe_mid (J) la 4 (nI k)) := by have q := hT k J la hI; unfold fe_next at q; rw [e] at q; exact q
        refine rn68_4 hm ?_
        refine rn97_4 (tk_tap hm) ?_
        have hq : fe_step L J la 4 (nI k) = fe_end (fe_tap (fe_mid (J) la 4 (nI k)) (nI k)) 4 := by unfold fe_step; rw [e]
        have hn : fe_next L J la 4 (nI k) = fe_la la (fe_who (J) la 4 (nI k)) := by unfold fe_next; rw [e]
        rw [← nI_succ, ← hq, ← hn, show fe_loop L 4 (n + 1) k J la = fe_loop L 4 n (k + 1) (fe_step L J la 4 (nI k)) (fe_next L J la 4 (nI k)) from rfl]
        exact ih (k + 1) _ _ _ (by omega) (hS k J la (by omega) hI)
      · have _c := c24
        refine zv_run 2 (pc' := 31) (lo' := [some (.ref 36), some (.ref 4), some (.ref 34), some (.int (nI k)), x4]) (st' := [.ref 39]) (I' := J) (L' := L) (R' := zw_RC h sp la) rfl ?_
        refine zv_cV (M' := mm_X4_makeUp) (ci := 4) (a := 39) (av := []) (st := []) (r := none) (I' := (ff_up J)) (L' := L) (R' := zw_RC h sp la) rfl zc_3_51 gd_X4_makeUp rfl rfl rfl (Nat.le_of_ble_eq_true rfl) (ct_X4_makeUp (d := _)) ⟨Nat.le_refl _, Nat.le_refl _⟩ ?_
        refine zv_run 0 (pc' := 34) (lo' := [some (.ref 36), some (.ref 4), some (.ref 34), some (.int (nI k)), x4]) (st' := []) (I' := (ff_up J)) (L' := L) (R' := zw_RC h sp la) rfl ?_
        have e : fe_up J L (nI k) = ff_up J := by unfold fe_up; rw [if_neg c24]
        have ho := ok_in_up (L := L) (t := nI k) (Or.inl rfl) (hP k J la hI)
        rw [e] at ho
        obtain ⟨g1, g2, g3, g4⟩ := ho
        refine rn34_4 g1 g2 g3 g4 (fun x4 => ?_)
        have hm : tk_ok (fe_mid (ff_up J) la 4 (nI k)) := by have q := hT k J la hI; unfold fe_next at q; rw [e] at q; exact q
        refine rn68_4 hm ?_
        refine rn97_4 (tk_tap hm) ?_
        have hq : fe_step L J la 4 (nI k) = fe_end (fe_tap (fe_mid (ff_up J) la 4 (nI k)) (nI k)) 4 := by unfold fe_step; rw [e]
        have hn : fe_next L J la 4 (nI k) = fe_la la (fe_who (ff_up J) la 4 (nI k)) := by unfold fe_next; rw [e]
        rw [← nI_succ, ← hq, ← hn, show fe_loop L 4 (n + 1) k J la = fe_loop L 4 n (k + 1) (fe_step L J la 4 (nI k)) (fe_next L J la 4 (nI k)) from rfl]
        exact ih (k + 1) _ _ _ (by omega) (hS k J la (by omega) hI)
theorem ct_X3_run_4 {d : Nat} {I : zx_I} {L : zx_L} {h sp : Nat} {la : Option Nat} {N : Nat} (hN : N ≤ 60) (P : Nat → zx_I → Option Nat → Prop) (hP : ∀ k J la, P k J la → ok_in J la 4) (hT : ∀ k J la, P k J la → tk_ok (fe_mid (fe_up J L (nI k)) la 4 (nI k))) (hS : ∀ k J la, k < N → P k J la → P (k + 1) (fe_step L J la 4 (nI k)) (fe_next L J la 4 (nI k))) (hst : ∀ k J la, P k J la → J 4 12 = nI N) (hH : hs_tk I 4) (h0 : P 0 (fe_begin I 4 (I 34 2)) none) : zx_M0 mm_X3_run (d + 4) 0 0 [.ref 36, .ref 4, .ref 34] zw_SC I L (zw_RC h sp la) (zw_ret (some (.int (fh_score (fe_loop L 4 N 0 (fe_begin I 4 (I 34 2)) none).1 4))) zw_SC (fe_loop L 4 N 0 (fe_begin I 4 (I 34 2)) none).1 L (zw_RC h sp (fe_loop L 4 N 0 (fe_begin I 4 (I 34 2)) none).2)) := by
  refine zv_entry gd_X3_run (Nat.le_of_ble_eq_true rfl) ?_
  refine zv_run 4 (pc' := 6) (lo' := [some (.ref 36), some (.ref 4), some (.ref 34), none, none]) (st' := [.int (I 34 2), .ref 4, .ref 36]) (I' := I) (L' := L) (R' := zw_RC h sp la) rfl ?_
  refine zv_cV (M' := mm_X3_begin) (ci := 3) (a := 36) (av := [.ref 4, .int (I 34 2)]) (st := []) (r := none) (I' := (fe_begin I 4 (I 34 2))) (L' := L) (R' := zw_RC h sp none) rfl zc_3_38 gd_X3_begin rfl rfl rfl (Nat.le_of_ble_eq_true rfl) (ct_X3_begin (d := _) (Or.inl rfl) hH) ⟨Nat.le_refl _, Nat.le_refl _⟩ ?_
  refine zv_run 0 (pc' := 9) (lo' := [some (.ref 36), some (.ref 4), some (.ref 34), none, none]) (st' := []) (I' := (fe_begin I 4 (I 34 2))) (L' := L) (R' := zw_RC h sp none) rfl ?_
  refine zv_run 2 (pc' := 11) (lo' := [some (.ref 36), some (.ref 4), some (.ref 34), some (.int 0), none]) (st' := []) (I' := (fe_begin I 4 (I 34 2))) (L' := L) (R' := zw_RC h sp none) rfl ?_
  exact lp_X3_run_4 hN P hP hT hS hst N 0 _ none none (Nat.zero_add N) h0
theorem lp_X3_run_14 {d : Nat} {L : zx_L} {h sp : Nat} {N : Nat} (hN : N ≤ 60) (P : Nat → zx_I → Option Nat → Prop) (hP : ∀ k J la, P k J la → ok_in J la 14) (hT : ∀ k J la, P k J la → tk_ok (fe_mid (fe_up J L (nI k)) la 14 (nI k))) (hS : ∀ k J la, k < N → P k J la → P (k + 1) (fe_step L J la 14 (nI k)) (fe_next L J la 14 (nI k))) (hst : ∀ k J la, P k J la → J 14 12 = nI N) : ∀ (n k : Nat) (J : zx_I) (la : Option Nat) (x4 : Option Value), k + n = N → P k J la → zx_V mm_X3_run (d + 4) z0 (zw_ret (some (.int (fh_score (fe_loop L 14 n k J la).1 14))) zw_SC (fe_loop L 14 n k J la).1 L (zw_RC h sp (fe_loop L 14 n k J la).2)) zw_SC 11 [some (.ref 36), some (.ref 14), some (.ref 34), some (.int (nI k)), x4] [] J L (zw_RC h sp la) := by
  intro n
  induction n with
  | zero =>
    intro k J la x4 hk hI
    have hc := (hP k J la hI).2.1
    refine zv_run 3 (pc' := 16) (lo' := [some (.ref 36), some (.ref 14), some (.ref 34), some (.int (nI k)), x4]) (st' := [.int (J 14 12), .int (nI k)]) (I' := J) (L' := L) (R' := zw_RC h sp la) rfl ?_
    refine zv_icmp_ge (tgt := 147) (zs_at rfl) (by decide) (fun c16 => ?_) (fun c16 => ?_)
    · have _c := c16
      refine zv_run 1 (pc' := 148) (lo' := [some (.ref 36), some (.ref 14), some (.ref 34), some (.int (nI k)), x4]) (st' := [.ref 14]) (I' := J) (L' := L) (R' := zw_RC h sp la) rfl ?_
      refine zv_cV (M' := mm_X5_scoreOfEvening) (ci := 5) (a := 14) (av := []) (st := []) (r := some (.int (fh_score J 14))) (I' := J) (L' := L) (R' := zw_RC h sp la) rfl zc_3_105 gd_X5_scoreOfEvening rfl rfl rfl (Nat.le_of_ble_eq_true rfl) (ct_X5_scoreOfEvening (d := _) (Or.inr rfl) hc) ⟨Nat.le_refl _, Nat.le_refl _⟩ ?_
      refine zv_run 0 (pc' := 151) (lo' := [some (.ref 36), some (.ref 14), some (.ref 34), some (.int (nI k)), x4]) (st' := [.int (fh_score J 14)]) (I' := J) (L' := L) (R' := zw_RC h sp la) rfl ?_
      exact zv_iret (zs_at rfl) rfl ⟨Nat.le_refl _, Nat.le_refl _⟩ (zw_to rfl rfl rfl rfl)
    · exact absurd (by rw [hst k J la hI]; exact nI_le (by omega) (by omega)) c16
  | succ n ih =>
    intro k J la x4 hk hI
    refine zv_run 3 (pc' := 16) (lo' := [some (.ref 36), some (.ref 14), some (.ref 34), some (.int (nI k)), x4]) (st' := [.int (J 14 12), .int (nI k)]) (I' := J) (L' := L) (R' := zw_RC h sp la) rfl ?_
    refine zv_icmp_ge (tgt := 147) (zs_at rfl) (by decide) (fun c16 => ?_) (fun c16 => ?_)
    · exact absurd c16 (by rw [hst k J la hI]; exact nI_ge (by omega) (by omega))
    · have _c := c16
      refine zv_run 2 (pc' := 21) (lo' := [some (.ref 36), some (.ref 14), some (.ref 34), some (.int (nI k)), x4]) (st' := [.int (nI k), .ref 34]) (I' := J) (L' := L) (R' := zw_RC h sp la) rfl ?_
      refine zv_cV (M' := mm_X0_plansFor) (ci := 0) (a := 34) (av := [.int (nI k)]) (st := []) (r := some (.int (fa_plans L (nI k)))) (I' := J) (L' := L) (R' := zw_RC h sp la) rfl zc_3_47 gd_X0_plansFor rfl rfl rfl (Nat.le_of_ble_eq_true rfl) (ct_X0_plansFor (d := _)) ⟨Nat.le_refl _, Nat.le_refl _⟩ ?_
      refine zv_run 0 (pc' := 24) (lo' := [some (.ref 36), some (.ref 14), some (.ref 34), some (.int (nI k)), x4]) (st' := [.int (fa_plans L (nI k))]) (I' := J) (L' := L) (R' := zw_RC h sp la) rfl ?_
      refine zv_if_eq (tgt := 34) (zs_at rfl) (by decide) (fun c24 => ?_) (fun c24 => ?_)
      · have _c := c24
        have e : fe_up J L (nI k) = J := by unfold fe_up; rw [if_pos c24]
        have ho := ok_in_up (L := L) (t := nI k) (Or.inr rfl) (hP k J la hI)
        rw [e] at ho
        obtain ⟨g1, g2, g3, g4⟩ := ho
        refine rn34_14 g1 g2 g3 g4 (fun x4 => ?_)
        have hm : tk_ok (fe_mid (J) la 14 (nI k)) := by have q := hT k J la hI; unfold fe_next at q; rw [e] at q; exact q
        refine rn68_14 hm ?_
        refine rn97_14 (tk_tap hm) ?_
        have hq : fe_step L J la 14 (nI k) = fe_end (fe_tap (fe_mid (J) la 14 (nI k)) (nI k)) 14 := by unfold fe_step; rw [e]
        have hn : fe_next L J la 14 (nI k) = fe_la la (fe_who (J) la 14 (nI k)) := by unfold fe_next; rw [e]
        rw [← nI_succ, ← hq, ← hn, show fe_loop L 14 (n + 1) k J la = fe_loop L 14 n (k + 1) (fe_step L J la 14 (nI k)) (fe_next L J la 14 (nI k)) from rfl]
        exact ih (k + 1) _ _ _ (by omega) (hS k J la (by omega) hI)
      · have _c := c24
        refine zv_run 2 (pc' := 31) (lo' := [some (.ref 36), some (.ref 14), some (.ref 34), some (.int (nI k)), x4]) (st' := [.ref 39]) (I' := J) (L' := L) (R' := zw_RC h sp la) rfl ?_
        refine zv_cV (M' := mm_X4_makeUp) (ci := 4) (a := 39) (av := []) (st := []) (r := none) (I' := (ff_up J)) (L' := L) (R' := zw_RC h sp la) rfl zc_3_51 gd_X4_makeUp rfl rfl rfl (Nat.le_of_ble_eq_true rfl) (ct_X4_makeUp (d := _)) ⟨Nat.le_refl _, Nat.le_refl _⟩ ?_
        refine zv_run 0 (pc' := 34) (lo' := [some (.ref 36), some (.ref 14), some (.ref 34), some (.int (nI k)), x4]) (st' := []) (I' := (ff_up J)) (L' := L) (R' := zw_RC h sp la) rfl ?_
        have e : fe_up J L (nI k) = ff_up J := by unfold fe_up; rw [if_neg c24]
        have ho := ok_in_up (L := L) (t := nI k) (Or.inr rfl) (hP k J la hI)
        rw [e] at ho
        obtain ⟨g1, g2, g3, g4⟩ := ho
        refine rn34_14 g1 g2 g3 g4 (fun x4 => ?_)
        have hm : tk_ok (fe_mid (ff_up J) la 14 (nI k)) := by have q := hT k J la hI; unfold fe_next at q; rw [e] at q; exact q
        refine rn68_14 hm ?_
        refine rn97_14 (tk_tap hm) ?_
        have hq : fe_step L J la 14 (nI k) = fe_end (fe_tap (fe_mid (ff_up J) la 14 (nI k)) (nI k)) 14 := by unfold fe_step; rw [e]
        have hn : fe_next L J la 14 (nI k) = fe_la la (fe_who (ff_up J) la 14 (nI k)) := by unfold fe_next; rw [e]
        rw [← nI_succ, ← hq, ← hn, show fe_loop L 14 (n + 1) k J la = fe_loop L 14 n (k + 1) (fe_step L J la 14 (nI k)) (fe_next L J la 14 (nI k)) from rfl]
        exact ih (k + 1) _ _ _ (by omega) (hS k J la (by omega) hI)
theorem ct_X3_run_14 {d : Nat} {I : zx_I} {L : zx_L} {h sp : Nat} {la : Option Nat} {N : Nat} (hN : N ≤ 60) (P : Nat → zx_I → Option Nat → Prop) (hP : ∀ k J la, P k J la → ok_in J la 14) (hT : ∀ k J la, P k J la → tk_ok (fe_mid (fe_up J L (nI k)) la 14 (nI k))) (hS : ∀ k J la, k < N → P k J la → P (k + 1) (fe_step L J la 14 (nI k)) (fe_next L J la 14 (nI k))) (hst : ∀ k J la, P k J la → J 14 12 = nI N) (hH : hs_tk I 14) (h0 : P 0 (fe_begin I 14 (I 34 2)) none) : zx_M0 mm_X3_run (d + 4) 0 0 [.ref 36, .ref 14, .ref 34] zw_SC I L (zw_RC h sp la) (zw_ret (some (.int (fh_score (fe_loop L 14 N 0 (fe_begin I 14 (I 34 2)) none).1 14))) zw_SC (fe_loop L 14 N 0 (fe_begin I 14 (I 34 2)) none).1 L (zw_RC h sp (fe_loop L 14 N 0 (fe_begin I 14 (I 34 2)) none).2)) := by
  refine zv_entry gd_X3_run (Nat.le_of_ble_eq_true rfl) ?_
  refine zv_run 4 (pc' := 6) (lo' := [some (.ref 36), some (.ref 14), some (.ref 34), none, none]) (st' := [.int (I 34 2), .ref 14, .ref 36]) (I' := I) (L' := L) (R' := zw_RC h sp la) rfl ?_
  refine zv_cV (M' := mm_X3_begin) (ci := 3) (a := 36) (av := [.ref 14, .int (I 34 2)]) (st := []) (r := none) (I' := (fe_begin I 14 (I 34 2))) (L' := L) (R' := zw_RC h sp none) rfl zc_3_38 gd_X3_begin rfl rfl rfl (Nat.le_of_ble_eq_true rfl) (ct_X3_begin (d := _) (Or.inr rfl) hH) ⟨Nat.le_refl _, Nat.le_refl _⟩ ?_
  refine zv_run 0 (pc' := 9) (lo' := [some (.ref 36), some (.ref 14), some (.ref 34), none, none]) (st' := []) (I' := (fe_begin I 14 (I 34 2))) (L' := L) (R' := zw_RC h sp none) rfl ?_
  refine zv_run 2 (pc' := 11) (lo' := [some (.ref 36), some (.ref 14), some (.ref 34), some (.int 0), none]) (st' := []) (I' := (fe_begin I 14 (I 34 2))) (L' := L) (R' := zw_RC h sp none) rfl ?_
  exact lp_X3_run_14 hN P hP hT hS hst N 0 _ none none (Nat.zero_add N) h0
