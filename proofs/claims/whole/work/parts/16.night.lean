/-! the evening: who goes in -/
theorem fb_leftm_ne {I : zx_I} {wl b : Nat} {c : Int32} (hb : b ≠ 40) : fb_leftm I wl c b = I b := by
  unfold fb_leftm
  rw [zx_uI_ne hb, zx_uI_ne hb, zx_uI_ne hb, zx_uI_ne hb]
theorem fe_J_ne {I : zx_I} {la : Option Nat} {a b : Nat} {t : Int32} (hb : b ≠ 40) : fe_J I la a t b = I b := by
  unfold fe_J
  cases la with
  | none => rfl
  | some wl =>
    dsimp only
    split
    · exact fb_leftm_ne hb
    · rfl
theorem fc_m_ne {I : zx_I} {ww b : Nat} {g : Int32} (hb : b ≠ 40) : fc_m I ww g b = I b := by
  unfold fc_m
  split
  · rw [zx_uI_ne hb, zx_uI_ne hb, zx_uI_ne hb]
  · rw [zx_uI_ne hb, zx_uI_ne hb, zx_uI_ne hb, zx_uI_ne hb]
theorem fe_canm_ne {I : zx_I} {la : Option Nat} {a ww b : Nat} {t : Int32} (hb : b ≠ 40) : fe_canm I la a ww t b = I b := by
  unfold fe_canm
  split
  · rfl
  · split
    · split
      · split
        · rw [fc_m_ne hb, fe_J_ne hb]
        · exact fe_J_ne hb
      · rfl
    · rfl
theorem tk_cg {I J : zx_I} (h : J 37 = I 37) (hT : tk_ok I) : tk_ok J := by
  unfold tk_ok at hT ⊢
  rw [h]
  exact hT
theorem bt_40 {w : Nat} (h : bt w) : w ≠ 40 := by unfold bt at h; omega
/-- the same but for the bath -/
def eq40 (J I : zx_I) : Prop := ∀ b, b ≠ 40 → J b = I b
theorem ok_w_cg {I J : zx_I} {a w : Nat} (h : eq40 J I) (ha : a = 4 ∨ a = 14) (hb : bt w) (hw : ok_w I a w) : ok_w J a w := by
  have h36 := h 36 (by decide)
  have h37 := h 37 (by decide)
  have h38 := h 38 (by decide)
  have hww := h w (bt_40 hb)
  have haa := h a (by omega)
  have hg : fe_g J a = fe_g I a := by unfold fe_g; rw [h36, haa]
  unfold ok_w at hw ⊢
  rw [hww, hg, (fc_cg h37 h38 hww).1, h37]
  exact hw
theorem fe_can_cg {I J : zx_I} {la : Option Nat} {a w : Nat} {t : Int32} (h : eq40 J I) (ha : a = 4 ∨ a = 14) (hb : bt w) (hl : ∀ wl, la = some wl → bt wl) : fe_can J la a w t = fe_can I la a w t := by
  have h36 := h 36 (by decide)
  have h37 := h 37 (by decide)
  have h38 := h 38 (by decide)
  have hww := h w (bt_40 hb)
  have haa := h a (by omega)
  have hg : fe_g J a = fe_g I a := by unfold fe_g; rw [h36, haa]
  have hlf : fe_lf J la a w t = fe_lf I la a w t := by
    unfold fe_lf
    cases la with
    | none => rfl
    | some wl =>
      have hwl := h wl (bt_40 (hl wl rfl))
      dsimp only
      unfold fb_left fb_heat
      rw [hwl, hww, haa]
  unfold fe_can
  rw [hww, h36, hlf, hg, (fc_cg h37 h38 hww).2]
def fe_w (E C : zx_I) (ww : Nat) (t : Int32) : zx_I := zx_uI (zx_uI (zx_uI (zx_uI (zx_uI (zx_uI (zx_uI E ww 10 t) ww 11 (t + C ww 4)) ww 12 (C 40 1)) ww 13 (C 40 0)) 36 5 (t + C ww 4)) 36 6 (C 36 6 ||| C ww 0)) 36 7 (C 36 7 + 1)
def fe_in (C : zx_I) (ww : Nat) (t : Int32) : zx_I := fe_w (if C 40 2 ≤ 0 then ft_draw C (C 40 0) else zx_uI (ft_draw C (C 40 0)) 36 3 0) C ww t
theorem ct_X3_goesIn {d : Nat} {I : zx_I} {L : zx_L} {h sp : Nat} {la : Option Nat} {ww a : Nat} {t : Int32} (ha : a = 4 ∨ a = 14) (hT : tk_ok I) (hb : bt ww) (hl : ∀ wl, la = some wl → bt wl) (hw : ok_w I a ww) (hcan : ¬ fe_can I la a ww t = 0) : zx_M0 mm_X3_goesIn (d + 3) 0 0 [.ref 36, .ref a, .ref ww, .int t] zw_SC I L (zw_RC h sp la) (zw_ret none zw_SC (fe_in (fe_canm I la a ww t) ww t) L (zw_RC h sp (some ww))) := by
  rcases ha with rfl | rfl
  · refine zv_entry gd_X3_goesIn (Nat.le_of_ble_eq_true rfl) ?_
    refine zv_run 4 (pc' := 4) (lo' := [some (.ref 36), some (.ref 4), some (.ref ww), some (.int t)]) (st' := [.int t, .ref ww, .ref 4, .ref 36]) (I' := I) (L' := L) (R' := zw_RC h sp la) rfl ?_
    refine zv_cV (M' := mm_X3_can) (ci := 3) (a := 36) (av := [.ref 4, .ref ww, .int t]) (st := []) (r := some (.int (fe_can I la 4 ww t))) (I' := (fe_canm I la 4 ww t)) (L' := L) (R' := zw_RC h sp la) rfl zc_3_143 gd_X3_can rfl rfl rfl (Nat.le_of_ble_eq_true rfl) (ct_X3_can (d := _) (Or.inl rfl) hT hb hl hw) ⟨Nat.le_refl _, Nat.le_refl _⟩ ?_
    refine zv_run 0 (pc' := 7) (lo' := [some (.ref 36), some (.ref 4), some (.ref ww), some (.int t)]) (st' := [.int (fe_can I la 4 ww t)]) (I' := (fe_canm I la 4 ww t)) (L' := L) (R' := zw_RC h sp la) rfl ?_
    refine zv_if_ne (tgt := 11) (zs_at rfl) (by decide) (fun c7 => ?_) (fun c7 => ?_)
    · have _c := c7
      refine zv_run 5 (pc' := 22) (lo' := [some (.ref 36), some (.ref 4), some (.ref ww), some (.int t)]) (st' := [.int ((fe_canm I la 4 ww t) 40 0), .ref 37]) (I' := (fe_canm I la 4 ww t)) (L' := L) (R' := zw_RC h sp la) rfl ?_
      refine zv_cV (M' := mm_X7_draw) (ci := 7) (a := 37) (av := [.int ((fe_canm I la 4 ww t) 40 0)]) (st := []) (r := none) (I' := (ft_draw (fe_canm I la 4 ww t) ((fe_canm I la 4 ww t) 40 0))) (L' := L) (R' := zw_RC h sp la) rfl zc_3_81 gd_X7_draw rfl rfl rfl (Nat.le_of_ble_eq_true rfl) (ct_X7_draw (d := _) (tk_cg (fe_canm_ne (by decide)) hT)) ⟨Nat.le_refl _, Nat.le_refl _⟩ ?_
      refine zv_run 0 (pc' := 25) (lo' := [some (.ref 36), some (.ref 4), some (.ref ww), some (.int t)]) (st' := []) (I' := (ft_draw (fe_canm I la 4 ww t) ((fe_canm I la 4 ww t) 40 0))) (L' := L) (R' := zw_RC h sp la) rfl ?_
      refine zv_run 3 (pc' := 32) (lo' := [some (.ref 36), some (.ref 4), some (.ref ww), some (.int t)]) (st' := [.int ((fe_canm I la 4 ww t) 40 2)]) (I' := (ft_draw (fe_canm I la 4 ww t) ((fe_canm I la 4 ww t) 40 0))) (L' := L) (R' := zw_RC h sp la) rfl ?_
      refine zv_if_le (tgt := 40) (zs_at rfl) (by decide) (fun c32 => ?_) (fun c32 => ?_)
      · have _c := c32
        refine zv_run 2 (pc' := 42) (lo' := [some (.ref 36), some (.ref 4), some (.ref ww), some (.int t)]) (st' := [.int t, .ref ww]) (I' := (ft_draw (fe_canm I la 4 ww t) ((fe_canm I la 4 ww t) 40 0))) (L' := L) (R' := zw_RC h sp la) rfl ?_
        refine zs_putI (ci := 2) (k := 10) (zs_at rfl) (zf_ok rfl) (bt_S hb) (Or.inl rfl) rfl (fun q => absurd q (by decide)) ?_
        refine zv_run 3 (pc' := 48) (lo' := [some (.ref 36), some (.ref 4), some (.ref ww), some (.int t)]) (st' := [.ref ww, .int t, .ref ww]) (I' := (zx_uI (ft_draw (fe_canm I la 4 ww t) ((fe_canm I la 4 ww t) 40 0)) ww 10 t)) (L' := L) (R' := zw_RC h sp la) rfl ?_
        refine zv_get (ci := 2) (k := 4) (t := 0) (zs_at rfl) (zf_ok rfl) (bt_S hb) rfl ?_
        refine zv_run 0 (pc' := 51) (lo' := [some (.ref 36), some (.ref 4), some (.ref ww), some (.int t)]) (st' := [.int ((fe_canm I la 4 ww t) ww 4), .int t, .ref ww]) (I' := (zx_uI (ft_draw (fe_canm I la 4 ww t) ((fe_canm I la 4 ww t) 40 0)) ww 10 t)) (L' := L) (R' := zw_RC h sp la) (by rw [show (zx_uI (ft_draw (fe_canm I la 4 ww t) ((fe_canm I la 4 ww t) 40 0)) ww 10 t) ww 4 = (fe_canm I la 4 ww t) ww 4 from by simp [zx_uI, zr, zmap, ft_draw, show ww ≠ 38 from by (unfold bt at hb; omega)]]; rfl) ?_
        refine zv_run 1 (pc' := 52) (lo' := [some (.ref 36), some (.ref 4), some (.ref ww), some (.int t)]) (st' := [.int (t + ((fe_canm I la 4 ww t) ww 4)), .ref ww]) (I' := (zx_uI (ft_draw (fe_canm I la 4 ww t) ((fe_canm I la 4 ww t) 40 0)) ww 10 t)) (L' := L) (R' := zw_RC h sp la) rfl ?_
        refine zs_putI (ci := 2) (k := 11) (zs_at rfl) (zf_ok rfl) (bt_S hb) (Or.inl rfl) rfl (fun q => absurd q (by decide)) ?_
        refine zv_run 3 (pc' := 60) (lo' := [some (.ref 36), some (.ref 4), some (.ref ww), some (.int t)]) (st' := [.ref 40, .ref ww]) (I' := (zx_uI (zx_uI (ft_draw (fe_canm I la 4 ww t) ((fe_canm I la 4 ww t) 40 0)) ww 10 t) ww 11 (t + ((fe_canm I la 4 ww t) ww 4)))) (L' := L) (R' := zw_RC h sp la) rfl ?_
        refine zv_get (ci := 1) (k := 1) (t := 0) (zs_at rfl) (zf_ok rfl) rfl rfl ?_
        refine zv_run 0 (pc' := 63) (lo' := [some (.ref 36), some (.ref 4), some (.ref ww), some (.int t)]) (st' := [.int ((fe_canm I la 4 ww t) 40 1), .ref ww]) (I' := (zx_uI (zx_uI (ft_draw (fe_canm I la 4 ww t) ((fe_canm I la 4 ww t) 40 0)) ww 10 t) ww 11 (t + ((fe_canm I la 4 ww t) ww 4)))) (L' := L) (R' := zw_RC h sp la) (by rw [show (zx_uI (zx_uI (ft_draw (fe_canm I la 4 ww t) ((fe_canm I la 4 ww t) 40 0)) ww 10 t) ww 11 (t + ((fe_canm I la 4 ww t) ww 4))) 40 1 = (fe_canm I la 4 ww t) 40 1 from by simp [zx_uI, zr, zmap, ft_draw, show (40 : Nat) ≠ ww from by (unfold bt at hb; omega)]]; rfl) ?_
        refine zs_putI (ci := 2) (k := 12) (zs_at rfl) (zf_ok rfl) (bt_S hb) (Or.inl rfl) rfl (fun q => absurd q (by decide)) ?_
        refine zv_run 3 (pc' := 71) (lo' := [some (.ref 36), some (.ref 4), some (.ref ww), some (.int t)]) (st' := [.ref 40, .ref ww]) (I' := (zx_uI (zx_uI (zx_uI (ft_draw (fe_canm I la 4 ww t) ((fe_canm I la 4 ww t) 40 0)) ww 10 t) ww 11 (t + ((fe_canm I la 4 ww t) ww 4))) ww 12 ((fe_canm I la 4 ww t) 40 1))) (L' := L) (R' := zw_RC h sp la) rfl ?_
        refine zv_get (ci := 1) (k := 0) (t := 0) (zs_at rfl) (zf_ok rfl) rfl rfl ?_
        refine zv_run 0 (pc' := 74) (lo' := [some (.ref 36), some (.ref 4), some (.ref ww), some (.int t)]) (st' := [.int ((fe_canm I la 4 ww t) 40 0), .ref ww]) (I' := (zx_uI (zx_uI (zx_uI (ft_draw (fe_canm I la 4 ww t) ((fe_canm I la 4 ww t) 40 0)) ww 10 t) ww 11 (t + ((fe_canm I la 4 ww t) ww 4))) ww 12 ((fe_canm I la 4 ww t) 40 1))) (L' := L) (R' := zw_RC h sp la) (by rw [show (zx_uI (zx_uI (zx_uI (ft_draw (fe_canm I la 4 ww t) ((fe_canm I la 4 ww t) 40 0)) ww 10 t) ww 11 (t + ((fe_canm I la 4 ww t) ww 4))) ww 12 ((fe_canm I la 4 ww t) 40 1)) 40 0 = (fe_canm I la 4 ww t) 40 0 from by simp [zx_uI, zr, zmap, ft_draw, show (40 : Nat) ≠ ww from by (unfold bt at hb; omega)]]; rfl) ?_
        refine zs_putI (ci := 2) (k := 13) (zs_at rfl) (zf_ok rfl) (bt_S hb) (Or.inl rfl) rfl (fun q => absurd q (by decide)) ?_
        refine zv_run 5 (pc' := 84) (lo' := [some (.ref 36), some (.ref 4), some (.ref ww), some (.int t)]) (st' := [.ref ww, .ref 36]) (I' := (zx_uI (zx_uI (zx_uI (zx_uI (ft_draw (fe_canm I la 4 ww t) ((fe_canm I la 4 ww t) 40 0)) ww 10 t) ww 11 (t + ((fe_canm I la 4 ww t) ww 4))) ww 12 ((fe_canm I la 4 ww t) 40 1)) ww 13 ((fe_canm I la 4 ww t) 40 0))) (L' := L) (R' := (zx_uR (zw_RC h sp la) 36 4 (some ww))) rfl ?_
        refine zv_get (ci := 2) (k := 11) (t := 0) (zs_at rfl) (zf_ok rfl) (bt_S hb) rfl ?_
        refine zv_run 0 (pc' := 87) (lo' := [some (.ref 36), some (.ref 4), some (.ref ww), some (.int t)]) (st' := [.int (t + ((fe_canm I la 4 ww t) ww 4)), .ref 36]) (I' := (zx_uI (zx_uI (zx_uI (zx_uI (ft_draw (fe_canm I la 4 ww t) ((fe_canm I la 4 ww t) 40 0)) ww 10 t) ww 11 (t + ((fe_canm I la 4 ww t) ww 4))) ww 12 ((fe_canm I la 4 ww t) 40 1)) ww 13 ((fe_canm I la 4 ww t) 40 0))) (L' := L) (R' := (zx_uR (zw_RC h sp la) 36 4 (some ww))) (by rw [show (zx_uI (zx_uI (zx_uI (zx_uI (ft_draw (fe_canm I la 4 ww t) ((fe_canm I la 4 ww t) 40 0)) ww 10 t) ww 11 (t + ((fe_canm I la 4 ww t) ww 4))) ww 12 ((fe_canm I la 4 ww t) 40 1)) ww 13 ((fe_canm I la 4 ww t) 40 0)) ww 11 = t + ((fe_canm I la 4 ww t) ww 4) from by simp [zx_uI, zr, zmap, ft_draw, show ww ≠ 38 from by (unfold bt at hb; omega)]]; rfl) ?_
        refine zv_run 3 (pc' := 92) (lo' := [some (.ref 36), some (.ref 4), some (.ref ww), some (.int t)]) (st' := [.ref 36, .ref 36]) (I' := (zx_uI (zx_uI (zx_uI (zx_uI (zx_uI (ft_draw (fe_canm I la 4 ww t) ((fe_canm I la 4 ww t) 40 0)) ww 10 t) ww 11 (t + ((fe_canm I la 4 ww t) ww 4))) ww 12 ((fe_canm I la 4 ww t) 40 1)) ww 13 ((fe_canm I la 4 ww t) 40 0)) 36 5 (t + ((fe_canm I la 4 ww t) ww 4)))) (L' := L) (R' := (zx_uR (zw_RC h sp la) 36 4 (some ww))) rfl ?_
        refine zv_get (ci := 3) (k := 6) (t := 0) (zs_at rfl) (zf_ok rfl) rfl rfl ?_
        refine zv_run 0 (pc' := 95) (lo' := [some (.ref 36), some (.ref 4), some (.ref ww), some (.int t)]) (st' := [.int ((fe_canm I la 4 ww t) 36 6), .ref 36]) (I' := (zx_uI (zx_uI (zx_uI (zx_uI (zx_uI (ft_draw (fe_canm I la 4 ww t) ((fe_canm I la 4 ww t) 40 0)) ww 10 t) ww 11 (t + ((fe_canm I la 4 ww t) ww 4))) ww 12 ((fe_canm I la 4 ww t) 40 1)) ww 13 ((fe_canm I la 4 ww t) 40 0)) 36 5 (t + ((fe_canm I la 4 ww t) ww 4)))) (L' := L) (R' := (zx_uR (zw_RC h sp la) 36 4 (some ww))) (by rw [show (zx_uI (zx_uI (zx_uI (zx_uI (zx_uI (ft_draw (fe_canm I la 4 ww t) ((fe_canm I la 4 ww t) 40 0)) ww 10 t) ww 11 (t + ((fe_canm I la 4 ww t) ww 4))) ww 12 ((fe_canm I la 4 ww t) 40 1)) ww 13 ((fe_canm I la 4 ww t) 40 0)) 36 5 (t + ((fe_canm I la 4 ww t) ww 4))) 36 6 = (fe_canm I la 4 ww t) 36 6 from by simp [zx_uI, zr, zmap, ft_draw, show (36 : Nat) ≠ ww from by (unfold bt at hb; omega)]]; rfl) ?_
        refine zv_run 1 (pc' := 96) (lo' := [some (.ref 36), some (.ref 4), some (.ref ww), some (.int t)]) (st' := [.ref ww, .int ((fe_canm I la 4 ww t) 36 6), .ref 36]) (I' := (zx_uI (zx_uI (zx_uI (zx_uI (zx_uI (ft_draw (fe_canm I la 4 ww t) ((fe_canm I la 4 ww t) 40 0)) ww 10 t) ww 11 (t + ((fe_canm I la 4 ww t) ww 4))) ww 12 ((fe_canm I la 4 ww t) 40 1)) ww 13 ((fe_canm I la 4 ww t) 40 0)) 36 5 (t + ((fe_canm I la 4 ww t) ww 4)))) (L' := L) (R' := (zx_uR (zw_RC h sp la) 36 4 (some ww))) rfl ?_
        refine zv_get (ci := 2) (k := 0) (t := 0) (zs_at rfl) (zf_ok rfl) (bt_S hb) rfl ?_
        refine zv_run 0 (pc' := 99) (lo' := [some (.ref 36), some (.ref 4), some (.ref ww), some (.int t)]) (st' := [.int ((fe_canm I la 4 ww t) ww 0), .int ((fe_canm I la 4 ww t) 36 6), .ref 36]) (I' := (zx_uI (zx_uI (zx_uI (zx_uI (zx_uI (ft_draw (fe_canm I la 4 ww t) ((fe_canm I la 4 ww t) 40 0)) ww 10 t) ww 11 (t + ((fe_canm I la 4 ww t) ww 4))) ww 12 ((fe_canm I la 4 ww t) 40 1)) ww 13 ((fe_canm I la 4 ww t) 40 0)) 36 5 (t + ((fe_canm I la 4 ww t) ww 4)))) (L' := L) (R' := (zx_uR (zw_RC h sp la) 36 4 (some ww))) (by rw [show (zx_uI (zx_uI (zx_uI (zx_uI (zx_uI (ft_draw (fe_canm I la 4 ww t) ((fe_canm I la 4 ww t) 40 0)) ww 10 t) ww 11 (t + ((fe_canm I la 4 ww t) ww 4))) ww 12 ((fe_canm I la 4 ww t) 40 1)) ww 13 ((fe_canm I la 4 ww t) 40 0)) 36 5 (t + ((fe_canm I la 4 ww t) ww 4))) ww 0 = (fe_canm I la 4 ww t) ww 0 from by simp [zx_uI, zr, zmap, ft_draw, show ww ≠ 36 ∧ ww ≠ 38 from by (unfold bt at hb; omega)]]; rfl) ?_
        refine zv_run 4 (pc' := 105) (lo' := [some (.ref 36), some (.ref 4), some (.ref ww), some (.int t)]) (st' := [.ref 36, .ref 36]) (I' := (zx_uI (zx_uI (zx_uI (zx_uI (zx_uI (zx_uI (ft_draw (fe_canm I la 4 ww t) ((fe_canm I la 4 ww t) 40 0)) ww 10 t) ww 11 (t + ((fe_canm I la 4 ww t) ww 4))) ww 12 ((fe_canm I la 4 ww t) 40 1)) ww 13 ((fe_canm I la 4 ww t) 40 0)) 36 5 (t + ((fe_canm I la 4 ww t) ww 4))) 36 6 (((fe_canm I la 4 ww t) 36 6) ||| ((fe_canm I la 4 ww t) ww 0)))) (L' := L) (R' := (zx_uR (zw_RC h sp la) 36 4 (some ww))) rfl ?_
        refine zv_get (ci := 3) (k := 7) (t := 0) (zs_at rfl) (zf_ok rfl) rfl rfl ?_
        refine zv_run 0 (pc' := 108) (lo' := [some (.ref 36), some (.ref 4), some (.ref ww), some (.int t)]) (st' := [.int ((fe_canm I la 4 ww t) 36 7), .ref 36]) (I' := (zx_uI (zx_uI (zx_uI (zx_uI (zx_uI (zx_uI (ft_draw (fe_canm I la 4 ww t) ((fe_canm I la 4 ww t) 40 0)) ww 10 t) ww 11 (t + ((fe_canm I la 4 ww t) ww 4))) ww 12 ((fe_canm I la 4 ww t) 40 1)) ww 13 ((fe_canm I la 4 ww t) 40 0)) 36 5 (t + ((fe_canm I la 4 ww t) ww 4))) 36 6 (((fe_canm I la 4 ww t) 36 6) ||| ((fe_canm I la 4 ww t) ww 0)))) (L' := L) (R' := (zx_uR (zw_RC h sp la) 36 4 (some ww))) (by rw [show (zx_uI (zx_uI (zx_uI (zx_uI (zx_uI (zx_uI (ft_draw (fe_canm I la 4 ww t) ((fe_canm I la 4 ww t) 40 0)) ww 10 t) ww 11 (t + ((fe_canm I la 4 ww t) ww 4))) ww 12 ((fe_canm I la 4 ww t) 40 1)) ww 13 ((fe_canm I la 4 ww t) 40 0)) 36 5 (t + ((fe_canm I la 4 ww t) ww 4))) 36 6 (((fe_canm I la 4 ww t) 36 6) ||| ((fe_canm I la 4 ww t) ww 0))) 36 7 = (fe_canm I la 4 ww t) 36 7 from by simp [zx_uI, zr, zmap, ft_draw, show (36 : Nat) ≠ ww from by (unfold bt at hb; omega)]]; rfl) ?_
        refine zv_run 3 (pc' := 113) (lo' := [some (.ref 36), some (.ref 4), some (.ref ww), some (.int t)]) (st' := []) (I' := (zx_uI (zx_uI (zx_uI (zx_uI (zx_uI (zx_uI (zx_uI (ft_draw (fe_canm I la 4 ww t) ((fe_canm I la 4 ww t) 40 0)) ww 10 t) ww 11 (t + ((fe_canm I la 4 ww t) ww 4))) ww 12 ((fe_canm I la 4 ww t) 40 1)) ww 13 ((fe_canm I la 4 ww t) 40 0)) 36 5 (t + ((fe_canm I la 4 ww t) ww 4))) 36 6 (((fe_canm I la 4 ww t) 36 6) ||| ((fe_canm I la 4 ww t) ww 0))) 36 7 (((fe_canm I la 4 ww t) 36 7) + 1))) (L' := L) (R' := (zx_uR (zw_RC h sp la) 36 4 (some ww))) rfl ?_
        exact zv_vret (zs_at rfl) rfl ⟨Nat.le_refl _, Nat.le_refl _⟩ (zw_to rfl (by unfold fe_in; rw [if_pos c32]; rfl) rfl rc_last)
      · have _c := c32
        refine zv_run 5 (pc' := 42) (lo' := [some (.ref 36), some (.ref 4), some (.ref ww), some (.int t)]) (st' := [.int t, .ref ww]) (I' := (zx_uI (ft_draw (fe_canm I la 4 ww t) ((fe_canm I la 4 ww t) 40 0)) 36 3 0)) (L' := L) (R' := zw_RC h sp la) rfl ?_
        refine zs_putI (ci := 2) (k := 10) (zs_at rfl) (zf_ok rfl) (bt_S hb) (Or.inl rfl) rfl (fun q => absurd q (by decide)) ?_
        refine zv_run 3 (pc' := 48) (lo' := [some (.ref 36), some (.ref 4), some (.ref ww), some (.int t)]) (st' := [.ref ww, .int t, .ref ww]) (I' := (zx_uI (zx_uI (ft_draw (fe_canm I la 4 ww t) ((fe_canm I la 4 ww t) 40 0)) 36 3 0) ww 10 t)) (L' := L) (R' := zw_RC h sp la) rfl ?_
        refine zv_get (ci := 2) (k := 4) (t := 0) (zs_at rfl) (zf_ok rfl) (bt_S hb) rfl ?_
        refine zv_run 0 (pc' := 51) (lo' := [some (.ref 36), some (.ref 4), some (.ref ww), some (.int t)]) (st' := [.int ((fe_canm I la 4 ww t) ww 4), .int t, .ref ww]) (I' := (zx_uI (zx_uI (ft_draw (fe_canm I la 4 ww t) ((fe_canm I la 4 ww t) 40 0)) 36 3 0) ww 10 t)) (L' := L) (R' := zw_RC h sp la) (by rw [show (zx_uI (zx_uI (ft_draw (fe_canm I la 4 ww t) ((fe_canm I la 4 ww t) 40 0)) 36 3 0) ww 10 t) ww 4 = (fe_canm I la 4 ww t) ww 4 from by simp [zx_uI, zr, zmap, ft_draw, show ww ≠ 36 ∧ ww ≠ 38 from by (unfold bt at hb; omega)]]; rfl) ?_
        refine zv_run 1 (pc' := 52) (lo' := [some (.ref 36), some (.ref 4), some (.ref ww), some (.int t)]) (st' := [.int (t + ((fe_canm I la 4 ww t) ww 4)), .ref ww]) (I' := (zx_uI (zx_uI (ft_draw (fe_canm I la 4 ww t) ((fe_canm I la 4 ww t) 40 0)) 36 3 0) ww 10 t)) (L' := L) (R' := zw_RC h sp la) rfl ?_
        refine zs_putI (ci := 2) (k := 11) (zs_at rfl) (zf_ok rfl) (bt_S hb) (Or.inl rfl) rfl (fun q => absurd q (by decide)) ?_
        refine zv_run 3 (pc' := 60) (lo' := [some (.ref 36), some (.ref 4), some (.ref ww), some (.int t)]) (st' := [.ref 40, .ref ww]) (I' := (zx_uI (zx_uI (zx_uI (ft_draw (fe_canm I la 4 ww t) ((fe_canm I la 4 ww t) 40 0)) 36 3 0) ww 10 t) ww 11 (t + ((fe_canm I la 4 ww t) ww 4)))) (L' := L) (R' := zw_RC h sp la) rfl ?_
        refine zv_get (ci := 1) (k := 1) (t := 0) (zs_at rfl) (zf_ok rfl) rfl rfl ?_
        refine zv_run 0 (pc' := 63) (lo' := [some (.ref 36), some (.ref 4), some (.ref ww), some (.int t)]) (st' := [.int ((fe_canm I la 4 ww t) 40 1), .ref ww]) (I' := (zx_uI (zx_uI (zx_uI (ft_draw (fe_canm I la 4 ww t) ((fe_canm I la 4 ww t) 40 0)) 36 3 0) ww 10 t) ww 11 (t + ((fe_canm I la 4 ww t) ww 4)))) (L' := L) (R' := zw_RC h sp la) (by rw [show (zx_uI (zx_uI (zx_uI (ft_draw (fe_canm I la 4 ww t) ((fe_canm I la 4 ww t) 40 0)) 36 3 0) ww 10 t) ww 11 (t + ((fe_canm I la 4 ww t) ww 4))) 40 1 = (fe_canm I la 4 ww t) 40 1 from by simp [zx_uI, zr, zmap, ft_draw, show (40 : Nat) ≠ ww from by (unfold bt at hb; omega)]]; rfl) ?_
        refine zs_putI (ci := 2) (k := 12) (zs_at rfl) (zf_ok rfl) (bt_S hb) (Or.inl rfl) rfl (fun q => absurd q (by decide)) ?_
        refine zv_run 3 (pc' := 71) (lo' := [some (.ref 36), some (.ref 4), some (.ref ww), some (.int t)]) (st' := [.ref 40, .ref ww]) (I' := (zx_uI (zx_uI (zx_uI (zx_uI (ft_draw (fe_canm I la 4 ww t) ((fe_canm I la 4 ww t) 40 0)) 36 3 0) ww 10 t) ww 11 (t + ((fe_canm I la 4 ww t) ww 4))) ww 12 ((fe_canm I la 4 ww t) 40 1))) (L' := L) (R' := zw_RC h sp la) rfl ?_
        refine zv_get (ci := 1) (k := 0) (t := 0) (zs_at rfl) (zf_ok rfl) rfl rfl ?_
        refine zv_run 0 (pc' := 74) (lo' := [some (.ref 36), some (.ref 4), some (.ref ww), some (.int t)]) (st' := [.int ((fe_canm I la 4 ww t) 40 0), .ref ww]) (I' := (zx_uI (zx_uI (zx_uI (zx_uI (ft_draw (fe_canm I la 4 ww t) ((fe_canm I la 4 ww t) 40 0)) 36 3 0) ww 10 t) ww 11 (t + ((fe_canm I la 4 ww t) ww 4))) ww 12 ((fe_canm I la 4 ww t) 40 1))) (L' := L) (R' := zw_RC h sp la) (by rw [show (zx_uI (zx_uI (zx_uI (zx_uI (ft_draw (fe_canm I la 4 ww t) ((fe_canm I la 4 ww t) 40 0)) 36 3 0) ww 10 t) ww 11 (t + ((fe_canm I la 4 ww t) ww 4))) ww 12 ((fe_canm I la 4 ww t) 40 1)) 40 0 = (fe_canm I la 4 ww t) 40 0 from by simp [zx_uI, zr, zmap, ft_draw, show (40 : Nat) ≠ ww from by (unfold bt at hb; omega)]]; rfl) ?_
        refine zs_putI (ci := 2) (k := 13) (zs_at rfl) (zf_ok rfl) (bt_S hb) (Or.inl rfl) rfl (fun q => absurd q (by decide)) ?_
        refine zv_run 5 (pc' := 84) (lo' := [some (.ref 36), some (.ref 4), some (.ref ww), some (.int t)]) (st' := [.ref ww, .ref 36]) (I' := (zx_uI (zx_uI (zx_uI (zx_uI (zx_uI (ft_draw (fe_canm I la 4 ww t) ((fe_canm I la 4 ww t) 40 0)) 36 3 0) ww 10 t) ww 11 (t + ((fe_canm I la 4 ww t) ww 4))) ww 12 ((fe_canm I la 4 ww t) 40 1)) ww 13 ((fe_canm I la 4 ww t) 40 0))) (L' := L) (R' := (zx_uR (zw_RC h sp la) 36 4 (some ww))) rfl ?_
        refine zv_get (ci := 2) (k := 11) (t := 0) (zs_at rfl) (zf_ok rfl) (bt_S hb) rfl ?_
        refine zv_run 0 (pc' := 87) (lo' := [some (.ref 36), some (.ref 4), some (.ref ww), some (.int t)]) (st' := [.int (t + ((fe_canm I la 4 ww t) ww 4)), .ref 36]) (I' := (zx_uI (zx_uI (zx_uI (zx_uI (zx_uI (ft_draw (fe_canm I la 4 ww t) ((fe_canm I la 4 ww t) 40 0)) 36 3 0) ww 10 t) ww 11 (t + ((fe_canm I la 4 ww t) ww 4))) ww 12 ((fe_canm I la 4 ww t) 40 1)) ww 13 ((fe_canm I la 4 ww t) 40 0))) (L' := L) (R' := (zx_uR (zw_RC h sp la) 36 4 (some ww))) (by rw [show (zx_uI (zx_uI (zx_uI (zx_uI (zx_uI (ft_draw (fe_canm I la 4 ww t) ((fe_canm I la 4 ww t) 40 0)) 36 3 0) ww 10 t) ww 11 (t + ((fe_canm I la 4 ww t) ww 4))) ww 12 ((fe_canm I la 4 ww t) 40 1)) ww 13 ((fe_canm I la 4 ww t) 40 0)) ww 11 = t + ((fe_canm I la 4 ww t) ww 4) from by simp [zx_uI, zr, zmap, ft_draw, show ww ≠ 36 ∧ ww ≠ 38 from by (unfold bt at hb; omega)]]; rfl) ?_
        refine zv_run 3 (pc' := 92) (lo' := [some (.ref 36), some (.ref 4), some (.ref ww), some (.int t)]) (st' := [.ref 36, .ref 36]) (I' := (zx_uI (zx_uI (zx_uI (zx_uI (zx_uI (zx_uI (ft_draw (fe_canm I la 4 ww t) ((fe_canm I la 4 ww t) 40 0)) 36 3 0) ww 10 t) ww 11 (t + ((fe_canm I la 4 ww t) ww 4))) ww 12 ((fe_canm I la 4 ww t) 40 1)) ww 13 ((fe_canm I la 4 ww t) 40 0)) 36 5 (t + ((fe_canm I la 4 ww t) ww 4)))) (L' := L) (R' := (zx_uR (zw_RC h sp la) 36 4 (some ww))) rfl ?_
        refine zv_get (ci := 3) (k := 6) (t := 0) (zs_at rfl) (zf_ok rfl) rfl rfl ?_
        refine zv_run 0 (pc' := 95) (lo' := [some (.ref 36), some (.ref 4), some (.ref ww), some (.int t)]) (st' := [.int ((fe_canm I la 4 ww t) 36 6), .ref 36]) (I' := (zx_uI (zx_uI (zx_uI (zx_uI (zx_uI (zx_uI (ft_draw (fe_canm I la 4 ww t) ((fe_canm I la 4 ww t) 40 0)) 36 3 0) ww 10 t) ww 11 (t + ((fe_canm I la 4 ww t) ww 4))) ww 12 ((fe_canm I la 4 ww t) 40 1)) ww 13 ((fe_canm I la 4 ww t) 40 0)) 36 5 (t + ((fe_canm I la 4 ww t) ww 4)))) (L' := L) (R' := (zx_uR (zw_RC h sp la) 36 4 (some ww))) (by rw [show (zx_uI (zx_uI (zx_uI (zx_uI (zx_uI (zx_uI (ft_draw (fe_canm I la 4 ww t) ((fe_canm I la 4 ww t) 40 0)) 36 3 0) ww 10 t) ww 11 (t + ((fe_canm I la 4 ww t) ww 4))) ww 12 ((fe_canm I la 4 ww t) 40 1)) ww 13 ((fe_canm I la 4 ww t) 40 0)) 36 5 (t + ((fe_canm I la 4 ww t) ww 4))) 36 6 = (fe_canm I la 4 ww t) 36 6 from by simp [zx_uI, zr, zmap, ft_draw, show (36 : Nat) ≠ ww from by (unfold bt at hb; omega)]]; rfl) ?_
        refine zv_run 1 (pc' := 96) (lo' := [some (.ref 36), some (.ref 4), some (.ref ww), some (.int t)]) (st' := [.ref ww, .int ((fe_canm I la 4 ww t) 36 6), .ref 36]) (I' := (zx_uI (zx_uI (zx_uI (zx_uI (zx_uI (zx_uI (ft_draw (fe_canm I la 4 ww t) ((fe_canm I la 4 ww t) 40 0)) 36 3 0) ww 10 t) ww 11 (t + ((fe_canm I la 4 ww t) ww 4))) ww 12 ((fe_canm I la 4 ww t) 40 1)) ww 13 ((fe_canm I la 4 ww t) 40 0)) 36 5 (t + ((fe_canm I la 4 ww t) ww 4)))) (L' := L) (R' := (zx_uR (zw_RC h sp la) 36 4 (some ww))) rfl ?_
        refine zv_get (ci := 2) (k := 0) (t := 0) (zs_at rfl) (zf_ok rfl) (bt_S hb) rfl ?_
        refine zv_run 0 (pc' := 99) (lo' := [some (.ref 36), some (.ref 4), some (.ref ww), some (.int t)]) (st' := [.int ((fe_canm I la 4 ww t) ww 0), .int ((fe_canm I la 4 ww t) 36 6), .ref 36]) (I' := (zx_uI (zx_uI (zx_uI (zx_uI (zx_uI (zx_uI (ft_draw (fe_canm I la 4 ww t) ((fe_canm I la 4 ww t) 40 0)) 36 3 0) ww 10 t) ww 11 (t + ((fe_canm I la 4 ww t) ww 4))) ww 12 ((fe_canm I la 4 ww t) 40 1)) ww 13 ((fe_canm I la 4 ww t) 40 0)) 36 5 (t + ((fe_canm I la 4 ww t) ww 4)))) (L' := L) (R' := (zx_uR (zw_RC h sp la) 36 4 (some ww))) (by rw [show (zx_uI (zx_uI (zx_uI (zx_uI (zx_uI (zx_uI (ft_draw (fe_canm I la 4 ww t) ((fe_canm I la 4 ww t) 40 0)) 36 3 0) ww 10 t) ww 11 (t + ((fe_canm I la 4 ww t) ww 4))) ww 12 ((fe_canm I la 4 ww t) 40 1)) ww 13 ((fe_canm I la 4 ww t) 40 0)) 36 5 (t + ((fe_canm I la 4 ww t) ww 4))) ww 0 = (fe_canm I la 4 ww t) ww 0 from by simp [zx_uI, zr, zmap, ft_draw, show ww ≠ 36 ∧ ww ≠ 38 from by (unfold bt at hb; omega)]]; rfl) ?_
        refine zv_run 4 (pc' := 105) (lo' := [some (.ref 36), some (.ref 4), some (.ref ww), some (.int t)]) (st' := [.ref 36, .ref 36]) (I' := (zx_uI (zx_uI (zx_uI (zx_uI (zx_uI (zx_uI (zx_uI (ft_draw (fe_canm I la 4 ww t) ((fe_canm I la 4 ww t) 40 0)) 36 3 0) ww 10 t) ww 11 (t + ((fe_canm I la 4 ww t) ww 4))) ww 12 ((fe_canm I la 4 ww t) 40 1)) ww 13 ((fe_canm I la 4 ww t) 40 0)) 36 5 (t + ((fe_canm I la 4 ww t) ww 4))) 36 6 (((fe_canm I la 4 ww t) 36 6) ||| ((fe_canm I la 4 ww t) ww 0)))) (L' := L) (R' := (zx_uR (zw_RC h sp la) 36 4 (some ww))) rfl ?_
        refine zv_get (ci := 3) (k := 7) (t := 0) (zs_at rfl) (zf_ok rfl) rfl rfl ?_
        refine zv_run 0 (pc' := 108) (lo' := [some (.ref 36), some (.ref 4), some (.ref ww), some (.int t)]) (st' := [.int ((fe_canm I la 4 ww t) 36 7), .ref 36]) (I' := (zx_uI (zx_uI (zx_uI (zx_uI (zx_uI (zx_uI (zx_uI (ft_draw (fe_canm I la 4 ww t) ((fe_canm I la 4 ww t) 40 0)) 36 3 0) ww 10 t) ww 11 (t + ((fe_canm I la 4 ww t) ww 4))) ww 12 ((fe_canm I la 4 ww t) 40 1)) ww 13 ((fe_canm I la 4 ww t) 40 0)) 36 5 (t + ((fe_canm I la 4 ww t) ww 4))) 36 6 (((fe_canm I la 4 ww t) 36 6) ||| ((fe_canm I la 4 ww t) ww 0)))) (L' := L) (R' := (zx_uR (zw_RC h sp la) 36 4 (some ww))) (by rw [show (zx_uI (zx_uI (zx_uI (zx_uI (zx_uI (zx_uI (zx_uI (ft_draw (fe_canm I la 4 ww t) ((fe_canm I la 4 ww t) 40 0)) 36 3 0) ww 10 t) ww 11 (t + ((fe_canm I la 4 ww t) ww 4))) ww 12 ((fe_canm I la 4 ww t) 40 1)) ww 13 ((fe_canm I la 4 ww t) 40 0)) 36 5 (t + ((fe_canm I la 4 ww t) ww 4))) 36 6 (((fe_canm I la 4 ww t) 36 6) ||| ((fe_canm I la 4 ww t) ww 0))) 36 7 = (fe_canm I la 4 ww t) 36 7 from by simp [zx_uI, zr, zmap, ft_draw, show (36 : Nat) ≠ ww from by (unfold bt at hb; omega)]]; rfl) ?_
        refine zv_run 3 (pc' := 113) (lo' := [some (.ref 36), some (.ref 4), some (.ref ww), some (.int t)]) (st' := []) (I' := (zx_uI (zx_uI (zx_uI (zx_uI (zx_uI (zx_uI (zx_uI (zx_uI (ft_draw (fe_canm I la 4 ww t) ((fe_canm I la 4 ww t) 40 0)) 36 3 0) ww 10 t) ww 11 (t + ((fe_canm I la 4 ww t) ww 4))) ww 12 ((fe_canm I la 4 ww t) 40 1)) ww 13 ((fe_canm I la 4 ww t) 40 0)) 36 5 (t + ((fe_canm I la 4 ww t) ww 4))) 36 6 (((fe_canm I la 4 ww t) 36 6) ||| ((fe_canm I la 4 ww t) ww 0))) 36 7 (((fe_canm I la 4 ww t) 36 7) + 1))) (L' := L) (R' := (zx_uR (zw_RC h sp la) 36 4 (some ww))) rfl ?_
        exact zv_vret (zs_at rfl) rfl ⟨Nat.le_refl _, Nat.le_refl _⟩ (zw_to rfl (by unfold fe_in; rw [if_neg c32]; rfl) rfl rc_last)
    · exact absurd c7 hcan
  · refine zv_entry gd_X3_goesIn (Nat.le_of_ble_eq_true rfl) ?_
    refine zv_run 4 (pc' := 4) (lo' := [some (.ref 36), some (.ref 14), some (.ref ww), some (.int t)]) (st' := [.int t, .ref ww, .ref 14, .ref 36]) (I' := I) (L' := L) (R' := zw_RC h sp la) rfl ?_
    refine zv_cV (M' := mm_X3_can) (ci := 3) (a := 36) (av := [.ref 14, .ref ww, .int t]) (st := []) (r := some (.int (fe_can I la 14 ww t))) (I' := (fe_canm I la 14 ww t)) (L' := L) (R' := zw_RC h sp la) rfl zc_3_143 gd_X3_can rfl rfl rfl (Nat.le_of_ble_eq_true rfl) (ct_X3_can (d := _) (Or.inr rfl) hT hb hl hw) ⟨Nat.le_refl _, Nat.le_refl _⟩ ?_
    refine zv_run 0 (pc' := 7) (lo' := [some (.ref 36), some (.ref 14), some (.ref ww), some (.int t)]) (st' := [.int (fe_can I la 14 ww t)]) (I' := (fe_canm I la 14 ww t)) (L' := L) (R' := zw_RC h sp la) rfl ?_
    refine zv_if_ne (tgt := 11) (zs_at rfl) (by decide) (fun c7 => ?_) (fun c7 => ?_)
    · have _c := c7
      refine zv_run 5 (pc' := 22) (lo' := [some (.ref 36), some (.ref 14), some (.ref ww), some (.int t)]) (st' := [.int ((fe_canm I la 14 ww t) 40 0), .ref 37]) (I' := (fe_canm I la 14 ww t)) (L' := L) (R' := zw_RC h sp la) rfl ?_
      refine zv_cV (M' := mm_X7_draw) (ci := 7) (a := 37) (av := [.int ((fe_canm I la 14 ww t) 40 0)]) (st := []) (r := none) (I' := (ft_draw (fe_canm I la 14 ww t) ((fe_canm I la 14 ww t) 40 0))) (L' := L) (R' := zw_RC h sp la) rfl zc_3_81 gd_X7_draw rfl rfl rfl (Nat.le_of_ble_eq_true rfl) (ct_X7_draw (d := _) (tk_cg (fe_canm_ne (by decide)) hT)) ⟨Nat.le_refl _, Nat.le_refl _⟩ ?_
      refine zv_run 0 (pc' := 25) (lo' := [some (.ref 36), some (.ref 14), some (.ref ww), some (.int t)]) (st' := []) (I' := (ft_draw (fe_canm I la 14 ww t) ((fe_canm I la 14 ww t) 40 0))) (L' := L) (R' := zw_RC h sp la) rfl ?_
      refine zv_run 3 (pc' := 32) (lo' := [some (.ref 36), some (.ref 14), some (.ref ww), some (.int t)]) (st' := [.int ((fe_canm I la 14 ww t) 40 2)]) (I' := (ft_draw (fe_canm I la 14 ww t) ((fe_canm I la 14 ww t) 40 0))) (L' := L) (R' := zw_RC h sp la) rfl ?_
      refine zv_if_le (tgt := 40) (zs_at rfl) (by decide) (fun c32 => ?_) (fun c32 => ?_)
      · have _c := c32
        refine zv_run 2 (pc' := 42) (lo' := [some (.ref 36), some (.ref 14), some (.ref ww), some (.int t)]) (st' := [.int t, .ref ww]) (I' := (ft_draw (fe_canm I la 14 ww t) ((fe_canm I la 14 ww t) 40 0))) (L' := L) (R' := zw_RC h sp la) rfl ?_
        refine zs_putI (ci := 2) (k := 10) (zs_at rfl) (zf_ok rfl) (bt_S hb) (Or.inl rfl) rfl (fun q => absurd q (by decide)) ?_
        refine zv_run 3 (pc' := 48) (lo' := [some (.ref 36), some (.ref 14), some (.ref ww), some (.int t)]) (st' := [.ref ww, .int t, .ref ww]) (I' := (zx_uI (ft_draw (fe_canm I la 14 ww t) ((fe_canm I la 14 ww t) 40 0)) ww 10 t)) (L' := L) (R' := zw_RC h sp la) rfl ?_
        refine zv_get (ci := 2) (k := 4) (t := 0) (zs_at rfl) (zf_ok rfl) (bt_S hb) rfl ?_
        refine zv_run 0 (pc' := 51) (lo' := [some (.ref 36), some (.ref 14), some (.ref ww), some (.int t)]) (st' := [.int ((fe_canm I la 14 ww t) ww 4), .int t, .ref ww]) (I' := (zx_uI (ft_draw (fe_canm I la 14 ww t) ((fe_canm I la 14 ww t) 40 0)) ww 10 t)) (L' := L) (R' := zw_RC h sp la) (by rw [show (zx_uI (ft_draw (fe_canm I la 14 ww t) ((fe_canm I la 14 ww t) 40 0)) ww 10 t) ww 4 = (fe_canm I la 14 ww t) ww 4 from by simp [zx_uI, zr, zmap, ft_draw, show ww ≠ 38 from by (unfold bt at hb; omega)]]; rfl) ?_
        refine zv_run 1 (pc' := 52) (lo' := [some (.ref 36), some (.ref 14), some (.ref ww), some (.int t)]) (st' := [.int (t + ((fe_canm I la 14 ww t) ww 4)), .ref ww]) (I' := (zx_uI (ft_draw (fe_canm I la 14 ww t) ((fe_canm I la 14 ww t) 40 0)) ww 10 t)) (L' := L) (R' := zw_RC h sp la) rfl ?_
        refine zs_putI (ci := 2) (k := 11) (zs_at rfl) (zf_ok rfl) (bt_S hb) (Or.inl rfl) rfl (fun q => absurd q (by decide)) ?_
        refine zv_run 3 (pc' := 60) (lo' := [some (.ref 36), some (.ref 14), some (.ref ww), some (.int t)]) (st' := [.ref 40, .ref ww]) (I' := (zx_uI (zx_uI (ft_draw (fe_canm I la 14 ww t) ((fe_canm I la 14 ww t) 40 0)) ww 10 t) ww 11 (t + ((fe_canm I la 14 ww t) ww 4)))) (L' := L) (R' := zw_RC h sp la) rfl ?_
        refine zv_get (ci := 1) (k := 1) (t := 0) (zs_at rfl) (zf_ok rfl) rfl rfl ?_
        refine zv_run 0 (pc' := 63) (lo' := [some (.ref 36), some (.ref 14), some (.ref ww), some (.int t)]) (st' := [.int ((fe_canm I la 14 ww t) 40 1), .ref ww]) (I' := (zx_uI (zx_uI (ft_draw (fe_canm I la 14 ww t) ((fe_canm I la 14 ww t) 40 0)) ww 10 t) ww 11 (t + ((fe_canm I la 14 ww t) ww 4)))) (L' := L) (R' := zw_RC h sp la) (by rw [show (zx_uI (zx_uI (ft_draw (fe_canm I la 14 ww t) ((fe_canm I la 14 ww t) 40 0)) ww 10 t) ww 11 (t + ((fe_canm I la 14 ww t) ww 4))) 40 1 = (fe_canm I la 14 ww t) 40 1 from by simp [zx_uI, zr, zmap, ft_draw, show (40 : Nat) ≠ ww from by (unfold bt at hb; omega)]]; rfl) ?_
        refine zs_putI (ci := 2) (k := 12) (zs_at rfl) (zf_ok rfl) (bt_S hb) (Or.inl rfl) rfl (fun q => absurd q (by decide)) ?_
        refine zv_run 3 (pc' := 71) (lo' := [some (.ref 36), some (.ref 14), some (.ref ww), some (.int t)]) (st' := [.ref 40, .ref ww]) (I' := (zx_uI (zx_uI (zx_uI (ft_draw (fe_canm I la 14 ww t) ((fe_canm I la 14 ww t) 40 0)) ww 10 t) ww 11 (t + ((fe_canm I la 14 ww t) ww 4))) ww 12 ((fe_canm I la 14 ww t) 40 1))) (L' := L) (R' := zw_RC h sp la) rfl ?_
        refine zv_get (ci := 1) (k := 0) (t := 0) (zs_at rfl) (zf_ok rfl) rfl rfl ?_
        refine zv_run 0 (pc' := 74) (lo' := [some (.ref 36), some (.ref 14), some (.ref ww), some (.int t)]) (st' := [.int ((fe_canm I la 14 ww t) 40 0), .ref ww]) (I' := (zx_uI (zx_uI (zx_uI (ft_draw (fe_canm I la 14 ww t) ((fe_canm I la 14 ww t) 40 0)) ww 10 t) ww 11 (t + ((fe_canm I la 14 ww t) ww 4))) ww 12 ((fe_canm I la 14 ww t) 40 1))) (L' := L) (R' := zw_RC h sp la) (by rw [show (zx_uI (zx_uI (zx_uI (ft_draw (fe_canm I la 14 ww t) ((fe_canm I la 14 ww t) 40 0)) ww 10 t) ww 11 (t + ((fe_canm I la 14 ww t) ww 4))) ww 12 ((fe_canm I la 14 ww t) 40 1)) 40 0 = (fe_canm I la 14 ww t) 40 0 from by simp [zx_uI, zr, zmap, ft_draw, show (40 : Nat) ≠ ww from by (unfold bt at hb; omega)]]; rfl) ?_
        refine zs_putI (ci := 2) (k := 13) (zs_at rfl) (zf_ok rfl) (bt_S hb) (Or.inl rfl) rfl (fun q => absurd q (by decide)) ?_
        refine zv_run 5 (pc' := 84) (lo' := [some (.ref 36), some (.ref 14), some (.ref ww), some (.int t)]) (st' := [.ref ww, .ref 36]) (I' := (zx_uI (zx_uI (zx_uI (zx_uI (ft_draw (fe_canm I la 14 ww t) ((fe_canm I la 14 ww t) 40 0)) ww 10 t) ww 11 (t + ((fe_canm I la 14 ww t) ww 4))) ww 12 ((fe_canm I la 14 ww t) 40 1)) ww 13 ((fe_canm I la 14 ww t) 40 0))) (L' := L) (R' := (zx_uR (zw_RC h sp la) 36 4 (some ww))) rfl ?_
        refine zv_get (ci := 2) (k := 11) (t := 0) (zs_at rfl) (zf_ok rfl) (bt_S hb) rfl ?_
        refine zv_run 0 (pc' := 87) (lo' := [some (.ref 36), some (.ref 14), some (.ref ww), some (.int t)]) (st' := [.int (t + ((fe_canm I la 14 ww t) ww 4)), .ref 36]) (I' := (zx_uI (zx_uI (zx_uI (zx_uI (ft_draw (fe_canm I la 14 ww t) ((fe_canm I la 14 ww t) 40 0)) ww 10 t) ww 11 (t + ((fe_canm I la 14 ww t) ww 4))) ww 12 ((fe_canm I la 14 ww t) 40 1)) ww 13 ((fe_canm I la 14 ww t) 40 0))) (L' := L) (R' := (zx_uR (zw_RC h sp la) 36 4 (some ww))) (by rw [show (zx_uI (zx_uI (zx_uI (zx_uI (ft_draw (fe_canm I la 14 ww t) ((fe_canm I la 14 ww t) 40 0)) ww 10 t) ww 11 (t + ((fe_canm I la 14 ww t) ww 4))) ww 12 ((fe_canm I la 14 ww t) 40 1)) ww 13 ((fe_canm I la 14 ww t) 40 0)) ww 11 = t + ((fe_canm I la 14 ww t) ww 4) from by simp [zx_uI, zr, zmap, ft_draw, show ww ≠ 38 from by (unfold bt at hb; omega)]]; rfl) ?_
        refine zv_run 3 (pc' := 92) (lo' := [some (.ref 36), some (.ref 14), some (.ref ww), some (.int t)]) (st' := [.ref 36, .ref 36]) (I' := (zx_uI (zx_uI (zx_uI (zx_uI (zx_uI (ft_draw (fe_canm I la 14 ww t) ((fe_canm I la 14 ww t) 40 0)) ww 10 t) ww 11 (t + ((fe_canm I la 14 ww t) ww 4))) ww 12 ((fe_canm I la 14 ww t) 40 1)) ww 13 ((fe_canm I la 14 ww t) 40 0)) 36 5 (t + ((fe_canm I la 14 ww t) ww 4)))) (L' := L) (R' := (zx_uR (zw_RC h sp la) 36 4 (some ww))) rfl ?_
        refine zv_get (ci := 3) (k := 6) (t := 0) (zs_at rfl) (zf_ok rfl) rfl rfl ?_
        refine zv_run 0 (pc' := 95) (lo' := [some (.ref 36), some (.ref 14), some (.ref ww), some (.int t)]) (st' := [.int ((fe_canm I la 14 ww t) 36 6), .ref 36]) (I' := (zx_uI (zx_uI (zx_uI (zx_uI (zx_uI (ft_draw (fe_canm I la 14 ww t) ((fe_canm I la 14 ww t) 40 0)) ww 10 t) ww 11 (t + ((fe_canm I la 14 ww t) ww 4))) ww 12 ((fe_canm I la 14 ww t) 40 1)) ww 13 ((fe_canm I la 14 ww t) 40 0)) 36 5 (t + ((fe_canm I la 14 ww t) ww 4)))) (L' := L) (R' := (zx_uR (zw_RC h sp la) 36 4 (some ww))) (by rw [show (zx_uI (zx_uI (zx_uI (zx_uI (zx_uI (ft_draw (fe_canm I la 14 ww t) ((fe_canm I la 14 ww t) 40 0)) ww 10 t) ww 11 (t + ((fe_canm I la 14 ww t) ww 4))) ww 12 ((fe_canm I la 14 ww t) 40 1)) ww 13 ((fe_canm I la 14 ww t) 40 0)) 36 5 (t + ((fe_canm I la 14 ww t) ww 4))) 36 6 = (fe_canm I la 14 ww t) 36 6 from by simp [zx_uI, zr, zmap, ft_draw, show (36 : Nat) ≠ ww from by (unfold bt at hb; omega)]]; rfl) ?_
        refine zv_run 1 (pc' := 96) (lo' := [some (.ref 36), some (.ref 14), some (.ref ww), some (.int t)]) (st' := [.ref ww, .int ((fe_canm I la 14 ww t) 36 6), .ref 36]) (I' := (zx_uI (zx_uI (zx_uI (zx_uI (zx_uI (ft_draw (fe_canm I la 14 ww t) ((fe_canm I la 14 ww t) 40 0)) ww 10 t) ww 11 (t + ((fe_canm I la 14 ww t) ww 4))) ww 12 ((fe_canm I la 14 ww t) 40 1)) ww 13 ((fe_canm I la 14 ww t) 40 0)) 36 5 (t + ((fe_canm I la 14 ww t) ww 4)))) (L' := L) (R' := (zx_uR (zw_RC h sp la) 36 4 (some ww))) rfl ?_
        refine zv_get (ci := 2) (k := 0) (t := 0) (zs_at rfl) (zf_ok rfl) (bt_S hb) rfl ?_
        refine zv_run 0 (pc' := 99) (lo' := [some (.ref 36), some (.ref 14), some (.ref ww), some (.int t)]) (st' := [.int ((fe_canm I la 14 ww t) ww 0), .int ((fe_canm I la 14 ww t) 36 6), .ref 36]) (I' := (zx_uI (zx_uI (zx_uI (zx_uI (zx_uI (ft_draw (fe_canm I la 14 ww t) ((fe_canm I la 14 ww t) 40 0)) ww 10 t) ww 11 (t + ((fe_canm I la 14 ww t) ww 4))) ww 12 ((fe_canm I la 14 ww t) 40 1)) ww 13 ((fe_canm I la 14 ww t) 40 0)) 36 5 (t + ((fe_canm I la 14 ww t) ww 4)))) (L' := L) (R' := (zx_uR (zw_RC h sp la) 36 4 (some ww))) (by rw [show (zx_uI (zx_uI (zx_uI (zx_uI (zx_uI (ft_draw (fe_canm I la 14 ww t) ((fe_canm I la 14 ww t) 40 0)) ww 10 t) ww 11 (t + ((fe_canm I la 14 ww t) ww 4))) ww 12 ((fe_canm I la 14 ww t) 40 1)) ww 13 ((fe_canm I la 14 ww t) 40 0)) 36 5 (t + ((fe_canm I la 14 ww t) ww 4))) ww 0 = (fe_canm I la 14 ww t) ww 0 from by simp [zx_uI, zr, zmap, ft_draw, show ww ≠ 36 ∧ ww ≠ 38 from by (unfold bt at hb; omega)]]; rfl) ?_
        refine zv_run 4 (pc' := 105) (lo' := [some (.ref 36), some (.ref 14), some (.ref ww), some (.int t)]) (st' := [.ref 36, .ref 36]) (I' := (zx_uI (zx_uI (zx_uI (zx_uI (zx_uI (zx_uI (ft_draw (fe_canm I la 14 ww t) ((fe_canm I la 14 ww t) 40 0)) ww 10 t) ww 11 (t + ((fe_canm I la 14 ww t) ww 4))) ww 12 ((fe_canm I la 14 ww t) 40 1)) ww 13 ((fe_canm I la 14 ww t) 40 0)) 36 5 (t + ((fe_canm I la 14 ww t) ww 4))) 36 6 (((fe_canm I la 14 ww t) 36 6) ||| ((fe_canm I la 14 ww t) ww 0)))) (L' := L) (R' := (zx_uR (zw_RC h sp la) 36 4 (some ww))) rfl ?_
        refine zv_get (ci := 3) (k := 7) (t := 0) (zs_at rfl) (zf_ok rfl) rfl rfl ?_
        refine zv_run 0 (pc' := 108) (lo' := [some (.ref 36), some (.ref 14), some (.ref ww), some (.int t)]) (st' := [.int ((fe_canm I la 14 ww t) 36 7), .ref 36]) (I' := (zx_uI (zx_uI (zx_uI (zx_uI (zx_uI (zx_uI (ft_draw (fe_canm I la 14 ww t) ((fe_canm I la 14 ww t) 40 0)) ww 10 t) ww 11 (t + ((fe_canm I la 14 ww t) ww 4))) ww 12 ((fe_canm I la 14 ww t) 40 1)) ww 13 ((fe_canm I la 14 ww t) 40 0)) 36 5 (t + ((fe_canm I la 14 ww t) ww 4))) 36 6 (((fe_canm I la 14 ww t) 36 6) ||| ((fe_canm I la 14 ww t) ww 0)))) (L' := L) (R' := (zx_uR (zw_RC h sp la) 36 4 (some ww))) (by rw [show (zx_uI (zx_uI (zx_uI (zx_uI (zx_uI (zx_uI (ft_draw (fe_canm I la 14 ww t) ((fe_canm I la 14 ww t) 40 0)) ww 10 t) ww 11 (t + ((fe_canm I la 14 ww t) ww 4))) ww 12 ((fe_canm I la 14 ww t) 40 1)) ww 13 ((fe_canm I la 14 ww t) 40 0)) 36 5 (t + ((fe_canm I la 14 ww t) ww 4))) 36 6 (((fe_canm I la 14 ww t) 36 6) ||| ((fe_canm I la 14 ww t) ww 0))) 36 7 = (fe_canm I la 14 ww t) 36 7 from by simp [zx_uI, zr, zmap, ft_draw, show (36 : Nat) ≠ ww from by (unfold bt at hb; omega)]]; rfl) ?_
        refine zv_run 3 (pc' := 113) (lo' := [some (.ref 36), some (.ref 14), some (.ref ww), some (.int t)]) (st' := []) (I' := (zx_uI (zx_uI (zx_uI (zx_uI (zx_uI (zx_uI (zx_uI (ft_draw (fe_canm I la 14 ww t) ((fe_canm I la 14 ww t) 40 0)) ww 10 t) ww 11 (t + ((fe_canm I la 14 ww t) ww 4))) ww 12 ((fe_canm I la 14 ww t) 40 1)) ww 13 ((fe_canm I la 14 ww t) 40 0)) 36 5 (t + ((fe_canm I la 14 ww t) ww 4))) 36 6 (((fe_canm I la 14 ww t) 36 6) ||| ((fe_canm I la 14 ww t) ww 0))) 36 7 (((fe_canm I la 14 ww t) 36 7) + 1))) (L' := L) (R' := (zx_uR (zw_RC h sp la) 36 4 (some ww))) rfl ?_
        exact zv_vret (zs_at rfl) rfl ⟨Nat.le_refl _, Nat.le_refl _⟩ (zw_to rfl (by unfold fe_in; rw [if_pos c32]; rfl) rfl rc_last)
      · have _c := c32
        refine zv_run 5 (pc' := 42) (lo' := [some (.ref 36), some (.ref 14), some (.ref ww), some (.int t)]) (st' := [.int t, .ref ww]) (I' := (zx_uI (ft_draw (fe_canm I la 14 ww t) ((fe_canm I la 14 ww t) 40 0)) 36 3 0)) (L' := L) (R' := zw_RC h sp la) rfl ?_
        refine zs_putI (ci := 2) (k := 10) (zs_at rfl) (zf_ok rfl) (bt_S hb) (Or.inl rfl) rfl (fun q => absurd q (by decide)) ?_
        refine zv_run 3 (pc' := 48) (lo' := [some (.ref 36), some (.ref 14), some (.ref ww), some (.int t)]) (st' := [.ref ww, .int t, .ref ww]) (I' := (zx_uI (zx_uI (ft_draw (fe_canm I la 14 ww t) ((fe_canm I la 14 ww t) 40 0)) 36 3 0) ww 10 t)) (L' := L) (R' := zw_RC h sp la) rfl ?_
        refine zv_get (ci := 2) (k := 4) (t := 0) (zs_at rfl) (zf_ok rfl) (bt_S hb) rfl ?_
        refine zv_run 0 (pc' := 51) (lo' := [some (.ref 36), some (.ref 14), some (.ref ww), some (.int t)]) (st' := [.int ((fe_canm I la 14 ww t) ww 4), .int t, .ref ww]) (I' := (zx_uI (zx_uI (ft_draw (fe_canm I la 14 ww t) ((fe_canm I la 14 ww t) 40 0)) 36 3 0) ww 10 t)) (L' := L) (R' := zw_RC h sp la) (by rw [show (zx_uI (zx_uI (ft_draw (fe_canm I la 14 ww t) ((fe_canm I la 14 ww t) 40 0)) 36 3 0) ww 10 t) ww 4 = (fe_canm I la 14 ww t) ww 4 from by simp [zx_uI, zr, zmap, ft_draw, show ww ≠ 36 ∧ ww ≠ 38 from by (unfold bt at hb; omega)]]; rfl) ?_
        refine zv_run 1 (pc' := 52) (lo' := [some (.ref 36), some (.ref 14), some (.ref ww), some (.int t)]) (st' := [.int (t + ((fe_canm I la 14 ww t) ww 4)), .ref ww]) (I' := (zx_uI (zx_uI (ft_draw (fe_canm I la 14 ww t) ((fe_canm I la 14 ww t) 40 0)) 36 3 0) ww 10 t)) (L' := L) (R' := zw_RC h sp la) rfl ?_
        refine zs_putI (ci := 2) (k := 11) (zs_at rfl) (zf_ok rfl) (bt_S hb) (Or.inl rfl) rfl (fun q => absurd q (by decide)) ?_
        refine zv_run 3 (pc' := 60) (lo' := [some (.ref 36), some (.ref 14), some (.ref ww), some (.int t)]) (st' := [.ref 40, .ref ww]) (I' := (zx_uI (zx_uI (zx_uI (ft_draw (fe_canm I la 14 ww t) ((fe_canm I la 14 ww t) 40 0)) 36 3 0) ww 10 t) ww 11 (t + ((fe_canm I la 14 ww t) ww 4)))) (L' := L) (R' := zw_RC h sp la) rfl ?_
        refine zv_get (ci := 1) (k := 1) (t := 0) (zs_at rfl) (zf_ok rfl) rfl rfl ?_
        refine zv_run 0 (pc' := 63) (lo' := [some (.ref 36), some (.ref 14), some (.ref ww), some (.int t)]) (st' := [.int ((fe_canm I la 14 ww t) 40 1), .ref ww]) (I' := (zx_uI (zx_uI (zx_uI (ft_draw (fe_canm I la 14 ww t) ((fe_canm I la 14 ww t) 40 0)) 36 3 0) ww 10 t) ww 11 (t + ((fe_canm I la 14 ww t) ww 4)))) (L' := L) (R' := zw_RC h sp la) (by rw [show (zx_uI (zx_uI (zx_uI (ft_draw (fe_canm I la 14 ww t) ((fe_canm I la 14 ww t) 40 0)) 36 3 0) ww 10 t) ww 11 (t + ((fe_canm I la 14 ww t) ww 4))) 40 1 = (fe_canm I la 14 ww t) 40 1 from by simp [zx_uI, zr, zmap, ft_draw, show (40 : Nat) ≠ ww from by (unfold bt at hb; omega)]]; rfl) ?_
        refine zs_putI (ci := 2) (k := 12) (zs_at rfl) (zf_ok rfl) (bt_S hb) (Or.inl rfl) rfl (fun q => absurd q (by decide)) ?_
        refine zv_run 3 (pc' := 71) (lo' := [some (.ref 36), some (.ref 14), some (.ref ww), some (.int t)]) (st' := [.ref 40, .ref ww]) (I' := (zx_uI (zx_uI (zx_uI (zx_uI (ft_draw (fe_canm I la 14 ww t) ((fe_canm I la 14 ww t) 40 0)) 36 3 0) ww 10 t) ww 11 (t + ((fe_canm I la 14 ww t) ww 4))) ww 12 ((fe_canm I la 14 ww t) 40 1))) (L' := L) (R' := zw_RC h sp la) rfl ?_
        refine zv_get (ci := 1) (k := 0) (t := 0) (zs_at rfl) (zf_ok rfl) rfl rfl ?_
        refine zv_run 0 (pc' := 74) (lo' := [some (.ref 36), some (.ref 14), some (.ref ww), some (.int t)]) (st' := [.int ((fe_canm I la 14 ww t) 40 0), .ref ww]) (I' := (zx_uI (zx_uI (zx_uI (zx_uI (ft_draw (fe_canm I la 14 ww t) ((fe_canm I la 14 ww t) 40 0)) 36 3 0) ww 10 t) ww 11 (t + ((fe_canm I la 14 ww t) ww 4))) ww 12 ((fe_canm I la 14 ww t) 40 1))) (L' := L) (R' := zw_RC h sp la) (by rw [show (zx_uI (zx_uI (zx_uI (zx_uI (ft_draw (fe_canm I la 14 ww t) ((fe_canm I la 14 ww t) 40 0)) 36 3 0) ww 10 t) ww 11 (t + ((fe_canm I la 14 ww t) ww 4))) ww 12 ((fe_canm I la 14 ww t) 40 1)) 40 0 = (fe_canm I la 14 ww t) 40 0 from by simp [zx_uI, zr, zmap, ft_draw, show (40 : Nat) ≠ ww from by (unfold bt at hb; omega)]]; rfl) ?_
        refine zs_putI (ci := 2) (k := 13) (zs_at rfl) (zf_ok rfl) (bt_S hb) (Or.inl rfl) rfl (fun q => absurd q (by decide)) ?_
        refine zv_run 5 (pc' := 84) (lo' := [some (.ref 36), some (.ref 14), some (.ref ww), some (.int t)]) (st' := [.ref ww, .ref 36]) (I' := (zx_uI (zx_uI (zx_uI (zx_uI (zx_uI (ft_draw (fe_canm I la 14 ww t) ((fe_canm I la 14 ww t) 40 0)) 36 3 0) ww 10 t) ww 11 (t + ((fe_canm I la 14 ww t) ww 4))) ww 12 ((fe_canm I la 14 ww t) 40 1)) ww 13 ((fe_canm I la 14 ww t) 40 0))) (L' := L) (R' := (zx_uR (zw_RC h sp la) 36 4 (some ww))) rfl ?_
        refine zv_get (ci := 2) (k := 11) (t := 0) (zs_at rfl) (zf_ok rfl) (bt_S hb) rfl ?_
        refine zv_run 0 (pc' := 87) (lo' := [some (.ref 36), some (.ref 14), some (.ref ww), some (.int t)]) (st' := [.int (t + ((fe_canm I la 14 ww t) ww 4)), .ref 36]) (I' := (zx_uI (zx_uI (zx_uI (zx_uI (zx_uI (ft_draw (fe_canm I la 14 ww t) ((fe_canm I la 14 ww t) 40 0)) 36 3 0) ww 10 t) ww 11 (t + ((fe_canm I la 14 ww t) ww 4))) ww 12 ((fe_canm I la 14 ww t) 40 1)) ww 13 ((fe_canm I la 14 ww t) 40 0))) (L' := L) (R' := (zx_uR (zw_RC h sp la) 36 4 (some ww))) (by rw [show (zx_uI (zx_uI (zx_uI (zx_uI (zx_uI (ft_draw (fe_canm I la 14 ww t) ((fe_canm I la 14 ww t) 40 0)) 36 3 0) ww 10 t) ww 11 (t + ((fe_canm I la 14 ww t) ww 4))) ww 12 ((fe_canm I la 14 ww t) 40 1)) ww 13 ((fe_canm I la 14 ww t) 40 0)) ww 11 = t + ((fe_canm I la 14 ww t) ww 4) from by simp [zx_uI, zr, zmap, ft_draw, show ww ≠ 36 ∧ ww ≠ 38 from by (unfold bt at hb; omega)]]; rfl) ?_
        refine zv_run 3 (pc' := 92) (lo' := [some (.ref 36), some (.ref 14), some (.ref ww), some (.int t)]) (st' := [.ref 36, .ref 36]) (I' := (zx_uI (zx_uI (zx_uI (zx_uI (zx_uI (zx_uI (ft_draw (fe_canm I la 14 ww t) ((fe_canm I la 14 ww t) 40 0)) 36 3 0) ww 10 t) ww 11 (t + ((fe_canm I la 14 ww t) ww 4))) ww 12 ((fe_canm I la 14 ww t) 40 1)) ww 13 ((fe_canm I la 14 ww t) 40 0)) 36 5 (t + ((fe_canm I la 14 ww t) ww 4)))) (L' := L) (R' := (zx_uR (zw_RC h sp la) 36 4 (some ww))) rfl ?_
        refine zv_get (ci := 3) (k := 6) (t := 0) (zs_at rfl) (zf_ok rfl) rfl rfl ?_
        refine zv_run 0 (pc' := 95) (lo' := [some (.ref 36), some (.ref 14), some (.ref ww), some (.int t)]) (st' := [.int ((fe_canm I la 14 ww t) 36 6), .ref 36]) (I' := (zx_uI (zx_uI (zx_uI (zx_uI (zx_uI (zx_uI (ft_draw (fe_canm I la 14 ww t) ((fe_canm I la 14 ww t) 40 0)) 36 3 0) ww 10 t) ww 11 (t + ((fe_canm I la 14 ww t) ww 4))) ww 12 ((fe_canm I la 14 ww t) 40 1)) ww 13 ((fe_canm I la 14 ww t) 40 0)) 36 5 (t + ((fe_canm I la 14 ww t) ww 4)))) (L' := L) (R' := (zx_uR (zw_RC h sp la) 36 4 (some ww))) (by rw [show (zx_uI (zx_uI (zx_uI (zx_uI (zx_uI (zx_uI (ft_draw (fe_canm I la 14 ww t) ((fe_canm I la 14 ww t) 40 0)) 36 3 0) ww 10 t) ww 11 (t + ((fe_canm I la 14 ww t) ww 4))) ww 12 ((fe_canm I la 14 ww t) 40 1)) ww 13 ((fe_canm I la 14 ww t) 40 0)) 36 5 (t + ((fe_canm I la 14 ww t) ww 4))) 36 6 = (fe_canm I la 14 ww t) 36 6 from by simp [zx_uI, zr, zmap, ft_draw, show (36 : Nat) ≠ ww from by (unfold bt at hb; omega)]]; rfl) ?_
        refine zv_run 1 (pc' := 96) (lo' := [some (.ref 36), some (.ref 14), some (.ref ww), some (.int t)]) (st' := [.ref ww, .int ((fe_canm I la 14 ww t) 36 6), .ref 36]) (I' := (zx_uI (zx_uI (zx_uI (zx_uI (zx_uI (zx_uI (ft_draw (fe_canm I la 14 ww t) ((fe_canm I la 14 ww t) 40 0)) 36 3 0) ww 10 t) ww 11 (t + ((fe_canm I la 14 ww t) ww 4))) ww 12 ((fe_canm I la 14 ww t) 40 1)) ww 13 ((fe_canm I la 14 ww t) 40 0)) 36 5 (t + ((fe_canm I la 14 ww t) ww 4)))) (L' := L) (R' := (zx_uR (zw_RC h sp la) 36 4 (some ww))) rfl ?_
        refine zv_get (ci := 2) (k := 0) (t := 0) (zs_at rfl) (zf_ok rfl) (bt_S hb) rfl ?_
        refine zv_run 0 (pc' := 99) (lo' := [some (.ref 36), some (.ref 14), some (.ref ww), some (.int t)]) (st' := [.int ((fe_canm I la 14 ww t) ww 0), .int ((fe_canm I la 14 ww t) 36 6), .ref 36]) (I' := (zx_uI (zx_uI (zx_uI (zx_uI (zx_uI (zx_uI (ft_draw (fe_canm I la 14 ww t) ((fe_canm I la 14 ww t) 40 0)) 36 3 0) ww 10 t) ww 11 (t + ((fe_canm I la 14 ww t) ww 4))) ww 12 ((fe_canm I la 14 ww t) 40 1)) ww 13 ((fe_canm I la 14 ww t) 40 0)) 36 5 (t + ((fe_canm I la 14 ww t) ww 4)))) (L' := L) (R' := (zx_uR (zw_RC h sp la) 36 4 (some ww))) (by rw [show (zx_uI (zx_uI (zx_uI (zx_uI (zx_uI (zx_uI (ft_draw (fe_canm I la 14 ww t) ((fe_canm I la 14 ww t) 40 0)) 36 3 0) ww 10 t) ww 11 (t + ((fe_canm I la 14 ww t) ww 4))) ww 12 ((fe_canm I la 14 ww t) 40 1)) ww 13 ((fe_canm I la 14 ww t) 40 0)) 36 5 (t + ((fe_canm I la 14 ww t) ww 4))) ww 0 = (fe_canm I la 14 ww t) ww 0 from by simp [zx_uI, zr, zmap, ft_draw, show ww ≠ 36 ∧ ww ≠ 38 from by (unfold bt at hb; omega)]]; rfl) ?_
        refine zv_run 4 (pc' := 105) (lo' := [some (.ref 36), some (.ref 14), some (.ref ww), some (.int t)]) (st' := [.ref 36, .ref 36]) (I' := (zx_uI (zx_uI (zx_uI (zx_uI (zx_uI (zx_uI (zx_uI (ft_draw (fe_canm I la 14 ww t) ((fe_canm I la 14 ww t) 40 0)) 36 3 0) ww 10 t) ww 11 (t + ((fe_canm I la 14 ww t) ww 4))) ww 12 ((fe_canm I la 14 ww t) 40 1)) ww 13 ((fe_canm I la 14 ww t) 40 0)) 36 5 (t + ((fe_canm I la 14 ww t) ww 4))) 36 6 (((fe_canm I la 14 ww t) 36 6) ||| ((fe_canm I la 14 ww t) ww 0)))) (L' := L) (R' := (zx_uR (zw_RC h sp la) 36 4 (some ww))) rfl ?_
        refine zv_get (ci := 3) (k := 7) (t := 0) (zs_at rfl) (zf_ok rfl) rfl rfl ?_
        refine zv_run 0 (pc' := 108) (lo' := [some (.ref 36), some (.ref 14), some (.ref ww), some (.int t)]) (st' := [.int ((fe_canm I la 14 ww t) 36 7), .ref 36]) (I' := (zx_uI (zx_uI (zx_uI (zx_uI (zx_uI (zx_uI (zx_uI (ft_draw (fe_canm I la 14 ww t) ((fe_canm I la 14 ww t) 40 0)) 36 3 0) ww 10 t) ww 11 (t + ((fe_canm I la 14 ww t) ww 4))) ww 12 ((fe_canm I la 14 ww t) 40 1)) ww 13 ((fe_canm I la 14 ww t) 40 0)) 36 5 (t + ((fe_canm I la 14 ww t) ww 4))) 36 6 (((fe_canm I la 14 ww t) 36 6) ||| ((fe_canm I la 14 ww t) ww 0)))) (L' := L) (R' := (zx_uR (zw_RC h sp la) 36 4 (some ww))) (by rw [show (zx_uI (zx_uI (zx_uI (zx_uI (zx_uI (zx_uI (zx_uI (ft_draw (fe_canm I la 14 ww t) ((fe_canm I la 14 ww t) 40 0)) 36 3 0) ww 10 t) ww 11 (t + ((fe_canm I la 14 ww t) ww 4))) ww 12 ((fe_canm I la 14 ww t) 40 1)) ww 13 ((fe_canm I la 14 ww t) 40 0)) 36 5 (t + ((fe_canm I la 14 ww t) ww 4))) 36 6 (((fe_canm I la 14 ww t) 36 6) ||| ((fe_canm I la 14 ww t) ww 0))) 36 7 = (fe_canm I la 14 ww t) 36 7 from by simp [zx_uI, zr, zmap, ft_draw, show (36 : Nat) ≠ ww from by (unfold bt at hb; omega)]]; rfl) ?_
        refine zv_run 3 (pc' := 113) (lo' := [some (.ref 36), some (.ref 14), some (.ref ww), some (.int t)]) (st' := []) (I' := (zx_uI (zx_uI (zx_uI (zx_uI (zx_uI (zx_uI (zx_uI (zx_uI (ft_draw (fe_canm I la 14 ww t) ((fe_canm I la 14 ww t) 40 0)) 36 3 0) ww 10 t) ww 11 (t + ((fe_canm I la 14 ww t) ww 4))) ww 12 ((fe_canm I la 14 ww t) 40 1)) ww 13 ((fe_canm I la 14 ww t) 40 0)) 36 5 (t + ((fe_canm I la 14 ww t) ww 4))) 36 6 (((fe_canm I la 14 ww t) 36 6) ||| ((fe_canm I la 14 ww t) ww 0))) 36 7 (((fe_canm I la 14 ww t) 36 7) + 1))) (L' := L) (R' := (zx_uR (zw_RC h sp la) 36 4 (some ww))) rfl ?_
        exact zv_vret (zs_at rfl) rfl ⟨Nat.le_refl _, Nat.le_refl _⟩ (zw_to rfl (by unfold fe_in; rw [if_neg c32]; rfl) rfl rc_last)
    · exact absurd c7 hcan
theorem fh_who_at {I : zx_I} {a i m : Nat} (hm : I a 13 = nI m) (hi : i < m) (hm6 : m ≤ 6) : fh_who I a (nI i) = some (a + 4 + i) := by
  unfold fh_who
  rw [if_neg (nI_pos (by omega)), if_neg (by rw [hm]; exact nI_ge hi (by omega)), if_pos (show nI i < 6 from nI_lt (a := i) (b := 6) (by omega) (by decide)), nI_clamp (by omega)]
theorem ct2_X5_who {d : Nat} {I : zx_I} {L : zx_L} {h sp : Nat} {la : Option Nat} {a i m : Nat} (ha : a = 4 ∨ a = 14) (hm : I a 13 = nI m) (hi : i < m) (hm6 : m ≤ 6) : zx_M0 mm_X5_who (d + 0) 0 0 [.ref a, .int (nI i)] zw_SC I L (zw_RC h sp la) (zw_ret (some (.ref (a + 4 + i))) zw_SC I L (zw_RC h sp la)) := by
  have q := ct_X5_who (d := d) (I := I) (L := L) (h := h) (sp := sp) (la := la) (i := nI i) ha
  rw [fh_who_at hm hi hm6] at q
  exact q
def ch_pf (J : zx_I) (w : Nat) (first : Option Nat) : Int32 := match first with
  | none => 1
  | some f => fa_pref J w f
def ch_loop (la : Option Nat) (a : Nat) (t hot : Int32) : Nat → Nat → Option Nat → zx_I → Option Nat × zx_I
  | 0, _, first, J => (first, J)
  | n + 1, i, first, J => if ch_pf J (a + 4 + i) first = 0 then ch_loop la a t hot n (i + 1) first J
    else if fe_can J la a (a + 4 + i) t = 0 then ch_loop la a t hot n (i + 1) first (fe_canm J la a (a + 4 + i) t)
    else if hot = 0 then (if fe_canm J la a (a + 4 + i) t 40 3 = 0 then ch_loop la a t hot n (i + 1) first (fe_canm J la a (a + 4 + i) t) else ch_loop la a t hot n (i + 1) (some (a + 4 + i)) (fe_canm J la a (a + 4 + i) t))
    else ch_loop la a t hot n (i + 1) (some (a + 4 + i)) (fe_canm J la a (a + 4 + i) t)
def fe_hot (I : zx_I) : Int32 := if I 34 0 = 2 then (if ft_unitsIn I 0 / I 37 2 < I 34 1 then 0 else 1) else 1
def fe_choose (I : zx_I) (la : Option Nat) (a : Nat) (t : Int32) : Option Nat × zx_I := if I 34 0 = 0 then (match fh_who I a (fa_place I (I 36 7)) with
  | none => (none, I)
  | some w => if fe_can I la a w t = 0 then (none, fe_canm I la a w t) else (some w, fe_canm I la a w t)) else ch_loop la a t (fe_hot I) (I a 13).toInt.toNat 0 none I
theorem eq40_canm {I J : zx_I} {la : Option Nat} {a w : Nat} {t : Int32} (h : eq40 J I) : eq40 (fe_canm J la a w t) I := fun b hb => (fe_canm_ne hb).trans (h b hb)
theorem lp_X3_chosen_4 {d : Nat} {I : zx_I} {L : zx_L} {h sp : Nat} {la : Option Nat} {m : Nat} {t hot : Int32} (hT : tk_ok I) (hl : ∀ wl, la = some wl → bt wl) (hm : I 4 13 = nI m) (hm6 : m ≤ 6) (hok : ∀ i, i < m → ok_w I 4 (8 + i)) : ∀ (n i : Nat) (first : Option Nat) (J : zx_I) (x7 : Option Value), i + n = m → eq40 J I → (∀ f, first = some f → bt f) → zx_V mm_X3_chosen (d + 3) z0 (zw_ret (some (va_rf (ch_loop la 4 t hot n i first J).1)) zw_SC (ch_loop la 4 t hot n i first J).2 L (zw_RC h sp la)) zw_SC 80 [some (.ref 36), some (.ref 4), some (.ref 34), some (.int t), some (.int hot), some (va_rf first), some (.int (nI i)), x7] [] J L (zw_RC h sp la) := by
  intro n
  induction n with
  | zero =>
    intro i first J x7 hi hJ hf
    rcases first with _ | f
    · skip
      refine zv_run 3 (pc' := 86) (lo' := [some (.ref 36), some (.ref 4), some (.ref 34), some (.int t), some (.int hot), some (.null), some (.int (nI i)), x7]) (st' := [.int (J 4 13), .int (nI i)]) (I' := J) (L' := L) (R' := zw_RC h sp la) rfl ?_
      refine zv_icmp_ge (tgt := 154) (zs_at rfl) (by decide) (fun c86 => ?_) (fun c86 => ?_)
      · have _c := c86
        refine zv_run 1 (pc' := 156) (lo' := [some (.ref 36), some (.ref 4), some (.ref 34), some (.int t), some (.int hot), some (.null), some (.int (nI i)), x7]) (st' := [.null]) (I' := J) (L' := L) (R' := zw_RC h sp la) rfl ?_
        exact zv_aret (r := none) (zs_at rfl) rfl ⟨Nat.le_refl _, Nat.le_refl _⟩ (zw_to rfl rfl rfl rfl)
      · exact absurd (by rw [hJ 4 (by decide), hm]; exact nI_le (by omega) (by omega)) c86
    · skip
      refine zv_run 3 (pc' := 86) (lo' := [some (.ref 36), some (.ref 4), some (.ref 34), some (.int t), some (.int hot), some (.ref f), some (.int (nI i)), x7]) (st' := [.int (J 4 13), .int (nI i)]) (I' := J) (L' := L) (R' := zw_RC h sp la) rfl ?_
      refine zv_icmp_ge (tgt := 154) (zs_at rfl) (by decide) (fun c86 => ?_) (fun c86 => ?_)
      · have _c := c86
        refine zv_run 1 (pc' := 156) (lo' := [some (.ref 36), some (.ref 4), some (.ref 34), some (.int t), some (.int hot), some (.ref f), some (.int (nI i)), x7]) (st' := [.ref f]) (I' := J) (L' := L) (R' := zw_RC h sp la) rfl ?_
        exact zv_aret (r := some f) (zs_at rfl) rfl ⟨Nat.le_refl _, Nat.le_refl _⟩ (zw_to rfl rfl rfl rfl)
      · exact absurd (by rw [hJ 4 (by decide), hm]; exact nI_le (by omega) (by omega)) c86
  | succ n ih =>
    intro i first J x7 hi hJ hf
    have hbi : bt (8 + i) := by unfold bt; omega
    rcases first with _ | f
    · skip
      refine zv_run 3 (pc' := 86) (lo' := [some (.ref 36), some (.ref 4), some (.ref 34), some (.int t), some (.int hot), some (.null), some (.int (nI i)), x7]) (st' := [.int (J 4 13), .int (nI i)]) (I' := J) (L' := L) (R' := zw_RC h sp la) rfl ?_
      refine zv_icmp_ge (tgt := 154) (zs_at rfl) (by decide) (fun c86 => ?_) (fun c86 => ?_)
      · exact absurd c86 (by rw [hJ 4 (by decide), hm]; exact nI_ge (by omega) (by omega))
      · have _c := c86
        refine zv_run 2 (pc' := 92) (lo' := [some (.ref 36), some (.ref 4), some (.ref 34), some (.int t), some (.int hot), some (.null), some (.int (nI i)), x7]) (st' := [.int (nI i), .ref 4]) (I' := J) (L' := L) (R' := zw_RC h sp la) rfl ?_
        refine zv_cV (M' := mm_X5_who) (ci := 5) (a := 4) (av := [.int (nI i)]) (st := []) (r := some (.ref (8 + i))) (I' := J) (L' := L) (R' := zw_RC h sp la) rfl zc_3_139 gd_X5_who rfl rfl rfl (Nat.le_of_ble_eq_true rfl) (ct2_X5_who (d := _) (Or.inl rfl) (by rw [hJ 4 (by decide)]; exact hm) (show i < m by omega) hm6) ⟨Nat.le_refl _, Nat.le_refl _⟩ ?_
        refine zv_run 0 (pc' := 95) (lo' := [some (.ref 36), some (.ref 4), some (.ref 34), some (.int t), some (.int hot), some (.null), some (.int (nI i)), x7]) (st' := [.ref (8 + i)]) (I' := J) (L' := L) (R' := zw_RC h sp la) rfl ?_
        refine zv_run 2 (pc' := 99) (lo' := [some (.ref 36), some (.ref 4), some (.ref 34), some (.int t), some (.int hot), some (.null), some (.int (nI i)), some (.ref (8 + i))]) (st' := [.ref (8 + i)]) (I' := J) (L' := L) (R' := zw_RC h sp la) rfl ?_
        refine zv_ifnull (zs_at rfl) ?_
        refine zv_run 1 (pc' := 104) (lo' := [some (.ref 36), some (.ref 4), some (.ref 34), some (.int t), some (.int hot), some (.null), some (.int (nI i)), some (.ref (8 + i))]) (st' := [.null]) (I' := J) (L' := L) (R' := zw_RC h sp la) rfl ?_
        refine zv_ifnullN (tgt := 118) (zs_at rfl) (by decide) ?_
        refine zv_run 4 (pc' := 123) (lo' := [some (.ref 36), some (.ref 4), some (.ref 34), some (.int t), some (.int hot), some (.null), some (.int (nI i)), some (.ref (8 + i))]) (st' := [.int t, .ref (8 + i), .ref 4, .ref 36]) (I' := J) (L' := L) (R' := zw_RC h sp la) rfl ?_
        refine zv_cV (M' := mm_X3_can) (ci := 3) (a := 36) (av := [.ref 4, .ref (8 + i), .int t]) (st := []) (r := some (.int (fe_can J la 4 (8 + i) t))) (I' := (fe_canm J la 4 (8 + i) t)) (L' := L) (R' := zw_RC h sp la) rfl zc_3_143 gd_X3_can rfl rfl rfl (Nat.le_of_ble_eq_true rfl) (ct_X3_can (d := _) (Or.inl rfl) (tk_cg (hJ 37 (by decide)) hT) hbi hl (ok_w_cg hJ (Or.inl rfl) hbi (hok i (by omega)))) ⟨Nat.le_refl _, Nat.le_refl _⟩ ?_
        refine zv_run 0 (pc' := 126) (lo' := [some (.ref 36), some (.ref 4), some (.ref 34), some (.int t), some (.int hot), some (.null), some (.int (nI i)), some (.ref (8 + i))]) (st' := [.int (fe_can J la 4 (8 + i) t)]) (I' := (fe_canm J la 4 (8 + i) t)) (L' := L) (R' := zw_RC h sp la) rfl ?_
        refine zv_if_eq (tgt := 148) (zs_at rfl) (by decide) (fun c126 => ?_) (fun c126 => ?_)
        · have _c := c126
          refine zv_run 2 (pc' := 80) (lo' := [some (.ref 36), some (.ref 4), some (.ref 34), some (.int t), some (.int hot), some (.null), some (.int ((nI i) + 1)), some (.ref (8 + i))]) (st' := []) (I' := (fe_canm J la 4 (8 + i) t)) (L' := L) (R' := zw_RC h sp la) rfl ?_
          rw [show ch_loop la 4 t hot (n + 1) i none J = ch_loop la 4 t hot n (i + 1) none (fe_canm J la 4 (8 + i) t) from by show (if ch_pf J (4 + 4 + i) none = 0 then _ else _) = _; rw [if_neg (show ¬ ch_pf J (8 + i) none = 0 from (fun q => absurd (show (1 : Int32) = 0 from q) (by decide))), if_pos c126], ← nI_succ]
          exact ih (i + 1) _ _ _ (by omega) (eq40_canm hJ) hf
        · have _c := c126
          refine zv_run 1 (pc' := 131) (lo' := [some (.ref 36), some (.ref 4), some (.ref 34), some (.int t), some (.int hot), some (.null), some (.int (nI i)), some (.ref (8 + i))]) (st' := [.int hot]) (I' := (fe_canm J la 4 (8 + i) t)) (L' := L) (R' := zw_RC h sp la) rfl ?_
          refine zv_if_ne (tgt := 144) (zs_at rfl) (by decide) (fun c131 => ?_) (fun c131 => ?_)
          · have _c := c131
            refine zv_run 4 (pc' := 80) (lo' := [some (.ref 36), some (.ref 4), some (.ref 34), some (.int t), some (.int hot), some (.ref (8 + i)), some (.int ((nI i) + 1)), some (.ref (8 + i))]) (st' := []) (I' := (fe_canm J la 4 (8 + i) t)) (L' := L) (R' := zw_RC h sp la) rfl ?_
            rw [show ch_loop la 4 t hot (n + 1) i none J = ch_loop la 4 t hot n (i + 1) (some (8 + i)) (fe_canm J la 4 (8 + i) t) from by show (if ch_pf J (4 + 4 + i) none = 0 then _ else _) = _; rw [if_neg (show ¬ ch_pf J (8 + i) none = 0 from (fun q => absurd (show (1 : Int32) = 0 from q) (by decide))), if_neg c126, if_neg c131], ← nI_succ]
            exact ih (i + 1) _ _ _ (by omega) (eq40_canm hJ) (fun z hz => by cases hz; exact hbi)
          · have _c := c131
            refine zv_run 3 (pc' := 141) (lo' := [some (.ref 36), some (.ref 4), some (.ref 34), some (.int t), some (.int hot), some (.null), some (.int (nI i)), some (.ref (8 + i))]) (st' := [.int ((fe_canm J la 4 (8 + i) t) 40 3)]) (I' := (fe_canm J la 4 (8 + i) t)) (L' := L) (R' := zw_RC h sp la) rfl ?_
            refine zv_if_eq (tgt := 148) (zs_at rfl) (by decide) (fun c141 => ?_) (fun c141 => ?_)
            · have _c := c141
              refine zv_run 2 (pc' := 80) (lo' := [some (.ref 36), some (.ref 4), some (.ref 34), some (.int t), some (.int hot), some (.null), some (.int ((nI i) + 1)), some (.ref (8 + i))]) (st' := []) (I' := (fe_canm J la 4 (8 + i) t)) (L' := L) (R' := zw_RC h sp la) rfl ?_
              rw [show ch_loop la 4 t hot (n + 1) i none J = ch_loop la 4 t hot n (i + 1) none (fe_canm J la 4 (8 + i) t) from by show (if ch_pf J (4 + 4 + i) none = 0 then _ else _) = _; rw [if_neg (show ¬ ch_pf J (8 + i) none = 0 from (fun q => absurd (show (1 : Int32) = 0 from q) (by decide))), if_neg c126, if_pos c131, if_pos c141], ← nI_succ]
              exact ih (i + 1) _ _ _ (by omega) (eq40_canm hJ) hf
            · have _c := c141
              refine zv_run 4 (pc' := 80) (lo' := [some (.ref 36), some (.ref 4), some (.ref 34), some (.int t), some (.int hot), some (.ref (8 + i)), some (.int ((nI i) + 1)), some (.ref (8 + i))]) (st' := []) (I' := (fe_canm J la 4 (8 + i) t)) (L' := L) (R' := zw_RC h sp la) rfl ?_
              rw [show ch_loop la 4 t hot (n + 1) i none J = ch_loop la 4 t hot n (i + 1) (some (8 + i)) (fe_canm J la 4 (8 + i) t) from by show (if ch_pf J (4 + 4 + i) none = 0 then _ else _) = _; rw [if_neg (show ¬ ch_pf J (8 + i) none = 0 from (fun q => absurd (show (1 : Int32) = 0 from q) (by decide))), if_neg c126, if_pos c131, if_neg c141], ← nI_succ]
              exact ih (i + 1) _ _ _ (by omega) (eq40_canm hJ) (fun z hz => by cases hz; exact hbi)
    · skip
      have hbf : bt f := hf f rfl
      refine zv_run 3 (pc' := 86) (lo' := [some (.ref 36), some (.ref 4), some (.ref 34), some (.int t), some (.int hot), some (.ref f), some (.int (nI i)), x7]) (st' := [.int (J 4 13), .int (nI i)]) (I' := J) (L' := L) (R' := zw_RC h sp la) rfl ?_
      refine zv_icmp_ge (tgt := 154) (zs_at rfl) (by decide) (fun c86 => ?_) (fun c86 => ?_)
      · exact absurd c86 (by rw [hJ 4 (by decide), hm]; exact nI_ge (by omega) (by omega))
      · have _c := c86
        refine zv_run 2 (pc' := 92) (lo' := [some (.ref 36), some (.ref 4), some (.ref 34), some (.int t), some (.int hot), some (.ref f), some (.int (nI i)), x7]) (st' := [.int (nI i), .ref 4]) (I' := J) (L' := L) (R' := zw_RC h sp la) rfl ?_
        refine zv_cV (M' := mm_X5_who) (ci := 5) (a := 4) (av := [.int (nI i)]) (st := []) (r := some (.ref (8 + i))) (I' := J) (L' := L) (R' := zw_RC h sp la) rfl zc_3_139 gd_X5_who rfl rfl rfl (Nat.le_of_ble_eq_true rfl) (ct2_X5_who (d := _) (Or.inl rfl) (by rw [hJ 4 (by decide)]; exact hm) (show i < m by omega) hm6) ⟨Nat.le_refl _, Nat.le_refl _⟩ ?_
        refine zv_run 0 (pc' := 95) (lo' := [some (.ref 36), some (.ref 4), some (.ref 34), some (.int t), some (.int hot), some (.ref f), some (.int (nI i)), x7]) (st' := [.ref (8 + i)]) (I' := J) (L' := L) (R' := zw_RC h sp la) rfl ?_
        refine zv_run 2 (pc' := 99) (lo' := [some (.ref 36), some (.ref 4), some (.ref 34), some (.int t), some (.int hot), some (.ref f), some (.int (nI i)), some (.ref (8 + i))]) (st' := [.ref (8 + i)]) (I' := J) (L' := L) (R' := zw_RC h sp la) rfl ?_
        refine zv_ifnull (zs_at rfl) ?_
        refine zv_run 1 (pc' := 104) (lo' := [some (.ref 36), some (.ref 4), some (.ref 34), some (.int t), some (.int hot), some (.ref f), some (.int (nI i)), some (.ref (8 + i))]) (st' := [.ref f]) (I' := J) (L' := L) (R' := zw_RC h sp la) rfl ?_
        refine zv_ifnull (zs_at rfl) ?_
        refine zv_run 3 (pc' := 112) (lo' := [some (.ref 36), some (.ref 4), some (.ref 34), some (.int t), some (.int hot), some (.ref f), some (.int (nI i)), some (.ref (8 + i))]) (st' := [.ref f, .ref (8 + i), .ref 34]) (I' := J) (L' := L) (R' := zw_RC h sp la) rfl ?_
        refine zv_cV (M' := mm_X0_prefers) (ci := 0) (a := 34) (av := [.ref (8 + i), .ref f]) (st := []) (r := some (.int (fa_pref J (8 + i) f))) (I' := J) (L' := L) (R' := zw_RC h sp la) rfl zc_3_156 gd_X0_prefers rfl rfl rfl (Nat.le_of_ble_eq_true rfl) (ct_X0_prefers (d := _) hbi hbf) ⟨Nat.le_refl _, Nat.le_refl _⟩ ?_
        refine zv_run 0 (pc' := 115) (lo' := [some (.ref 36), some (.ref 4), some (.ref 34), some (.int t), some (.int hot), some (.ref f), some (.int (nI i)), some (.ref (8 + i))]) (st' := [.int (fa_pref J (8 + i) f)]) (I' := J) (L' := L) (R' := zw_RC h sp la) rfl ?_
        refine zv_if_eq (tgt := 148) (zs_at rfl) (by decide) (fun c115 => ?_) (fun c115 => ?_)
        · have _c := c115
          refine zv_run 2 (pc' := 80) (lo' := [some (.ref 36), some (.ref 4), some (.ref 34), some (.int t), some (.int hot), some (.ref f), some (.int ((nI i) + 1)), some (.ref (8 + i))]) (st' := []) (I' := J) (L' := L) (R' := zw_RC h sp la) rfl ?_
          rw [show ch_loop la 4 t hot (n + 1) i (some f) J = ch_loop la 4 t hot n (i + 1) (some f) J from by show (if ch_pf J (4 + 4 + i) (some f) = 0 then _ else _) = _; rw [if_pos (show ch_pf J (8 + i) (some f) = 0 from c115)], ← nI_succ]
          exact ih (i + 1) _ _ _ (by omega) hJ hf
        · have _c := c115
          refine zv_run 4 (pc' := 123) (lo' := [some (.ref 36), some (.ref 4), some (.ref 34), some (.int t), some (.int hot), some (.ref f), some (.int (nI i)), some (.ref (8 + i))]) (st' := [.int t, .ref (8 + i), .ref 4, .ref 36]) (I' := J) (L' := L) (R' := zw_RC h sp la) rfl ?_
          refine zv_cV (M' := mm_X3_can) (ci := 3) (a := 36) (av := [.ref 4, .ref (8 + i), .int t]) (st := []) (r := some (.int (fe_can J la 4 (8 + i) t))) (I' := (fe_canm J la 4 (8 + i) t)) (L' := L) (R' := zw_RC h sp la) rfl zc_3_143 gd_X3_can rfl rfl rfl (Nat.le_of_ble_eq_true rfl) (ct_X3_can (d := _) (Or.inl rfl) (tk_cg (hJ 37 (by decide)) hT) hbi hl (ok_w_cg hJ (Or.inl rfl) hbi (hok i (by omega)))) ⟨Nat.le_refl _, Nat.le_refl _⟩ ?_
          refine zv_run 0 (pc' := 126) (lo' := [some (.ref 36), some (.ref 4), some (.ref 34), some (.int t), some (.int hot), some (.ref f), some (.int (nI i)), some (.ref (8 + i))]) (st' := [.int (fe_can J la 4 (8 + i) t)]) (I' := (fe_canm J la 4 (8 + i) t)) (L' := L) (R' := zw_RC h sp la) rfl ?_
          refine zv_if_eq (tgt := 148) (zs_at rfl) (by decide) (fun c126 => ?_) (fun c126 => ?_)
          · have _c := c126
            refine zv_run 2 (pc' := 80) (lo' := [some (.ref 36), some (.ref 4), some (.ref 34), some (.int t), some (.int hot), some (.ref f), some (.int ((nI i) + 1)), some (.ref (8 + i))]) (st' := []) (I' := (fe_canm J la 4 (8 + i) t)) (L' := L) (R' := zw_RC h sp la) rfl ?_
            rw [show ch_loop la 4 t hot (n + 1) i (some f) J = ch_loop la 4 t hot n (i + 1) (some f) (fe_canm J la 4 (8 + i) t) from by show (if ch_pf J (4 + 4 + i) (some f) = 0 then _ else _) = _; rw [if_neg (show ¬ ch_pf J (8 + i) (some f) = 0 from c115), if_pos c126], ← nI_succ]
            exact ih (i + 1) _ _ _ (by omega) (eq40_canm hJ) hf
          · have _c := c126
            refine zv_run 1 (pc' := 131) (lo' := [some (.ref 36), some (.ref 4), some (.ref 34), some (.int t), some (.int hot), some (.ref f), some (.int (nI i)), some (.ref (8 + i))]) (st' := [.int hot]) (I' := (fe_canm J la 4 (8 + i) t)) (L' := L) (R' := zw_RC h sp la) rfl ?_
            refine zv_if_ne (tgt := 144) (zs_at rfl) (by decide) (fun c131 => ?_) (fun c131 => ?_)
            · have _c := c131
              refine zv_run 4 (pc' := 80) (lo' := [some (.ref 36), some (.ref 4), some (.ref 34), some (.int t), some (.int hot), some (.ref (8 + i)), some (.int ((nI i) + 1)), some (.ref (8 + i))]) (st' := []) (I' := (fe_canm J la 4 (8 + i) t)) (L' := L) (R' := zw_RC h sp la) rfl ?_
              rw [show ch_loop la 4 t hot (n + 1) i (some f) J = ch_loop la 4 t hot n (i + 1) (some (8 + i)) (fe_canm J la 4 (8 + i) t) from by show (if ch_pf J (4 + 4 + i) (some f) = 0 then _ else _) = _; rw [if_neg (show ¬ ch_pf J (8 + i) (some f) = 0 from c115), if_neg c126, if_neg c131], ← nI_succ]
              exact ih (i + 1) _ _ _ (by omega) (eq40_canm hJ) (fun z hz => by cases hz; exact hbi)
            · have _c := c131
              refine zv_run 3 (pc' := 141) (lo' := [some (.ref 36), some (.ref 4), some (.ref 34), some (.int t), some (.int hot), some (.ref f), some (.int (nI i)), some (.ref (8 + i))]) (st' := [.int ((fe_canm J la 4 (8 + i) t) 40 3)]) (I' := (fe_canm J la 4 (8 + i) t)) (L' := L) (R' := zw_RC h sp la) rfl ?_
              refine zv_if_eq (tgt := 148) (zs_at rfl) (by decide) (fun c141 => ?_) (fun c141 => ?_)
              · have _c := c141
                refine zv_run 2 (pc' := 80) (lo' := [some (.ref 36), some (.ref 4), some (.ref 34), some (.int t), some (.int hot), some (.ref f), some (.int ((nI i) + 1)), some (.ref (8 + i))]) (st' := []) (I' := (fe_canm J la 4 (8 + i) t)) (L' := L) (R' := zw_RC h sp la) rfl ?_
                rw [show ch_loop la 4 t hot (n + 1) i (some f) J = ch_loop la 4 t hot n (i + 1) (some f) (fe_canm J la 4 (8 + i) t) from by show (if ch_pf J (4 + 4 + i) (some f) = 0 then _ else _) = _; rw [if_neg (show ¬ ch_pf J (8 + i) (some f) = 0 from c115), if_neg c126, if_pos c131, if_pos c141], ← nI_succ]
                exact ih (i + 1) _ _ _ (by omega) (eq40_canm hJ) hf
              · have _c := c141
                refine zv_run 4 (pc' := 80) (lo' := [some (.ref 36), some (.ref 4), some (.ref 34), some (.int t), some (.int hot), some (.ref (8 + i)), some (.int ((nI i) + 1)), some (.ref (8 + i))]) (st' := []) (I' := (fe_canm J la 4 (8 + i) t)) (L' := L) (R' := zw_RC h sp la) rfl ?_
                rw [show ch_loop la 4 t hot (n + 1) i (some f) J = ch_loop la 4 t hot n (i + 1) (some (8 + i)) (fe_canm J la 4 (8 + i) t) from by show (if ch_pf J (4 + 4 + i) (some f) = 0 then _ else _) = _; rw [if_neg (show ¬ ch_pf J (8 + i) (some f) = 0 from c115), if_neg c126, if_pos c131, if_neg c141], ← nI_succ]
                exact ih (i + 1) _ _ _ (by omega) (eq40_canm hJ) (fun z hz => by cases hz; exact hbi)
theorem lp_X3_chosen_14 {d : Nat} {I : zx_I} {L : zx_L} {h sp : Nat} {la : Option Nat} {m : Nat} {t hot : Int32} (hT : tk_ok I) (hl : ∀ wl, la = some wl → bt wl) (hm : I 14 13 = nI m) (hm6 : m ≤ 6) (hok : ∀ i, i < m → ok_w I 14 (18 + i)) : ∀ (n i : Nat) (first : Option Nat) (J : zx_I) (x7 : Option Value), i + n = m → eq40 J I → (∀ f, first = some f → bt f) → zx_V mm_X3_chosen (d + 3) z0 (zw_ret (some (va_rf (ch_loop la 14 t hot n i first J).1)) zw_SC (ch_loop la 14 t hot n i first J).2 L (zw_RC h sp la)) zw_SC 80 [some (.ref 36), some (.ref 14), some (.ref 34), some (.int t), some (.int hot), some (va_rf first), some (.int (nI i)), x7] [] J L (zw_RC h sp la) := by
  intro n
  induction n with
  | zero =>
    intro i first J x7 hi hJ hf
    rcases first with _ | f
    · skip
      refine zv_run 3 (pc' := 86) (lo' := [some (.ref 36), some (.ref 14), some (.ref 34), some (.int t), some (.int hot), some (.null), some (.int (nI i)), x7]) (st' := [.int (J 14 13), .int (nI i)]) (I' := J) (L' := L) (R' := zw_RC h sp la) rfl ?_
      refine zv_icmp_ge (tgt := 154) (zs_at rfl) (by decide) (fun c86 => ?_) (fun c86 => ?_)
      · have _c := c86
        refine zv_run 1 (pc' := 156) (lo' := [some (.ref 36), some (.ref 14), some (.ref 34), some (.int t), some (.int hot), some (.null), some (.int (nI i)), x7]) (st' := [.null]) (I' := J) (L' := L) (R' := zw_RC h sp la) rfl ?_
        exact zv_aret (r := none) (zs_at rfl) rfl ⟨Nat.le_refl _, Nat.le_refl _⟩ (zw_to rfl rfl rfl rfl)
      · exact absurd (by rw [hJ 14 (by decide), hm]; exact nI_le (by omega) (by omega)) c86
    · skip
      refine zv_run 3 (pc' := 86) (lo' := [some (.ref 36), some (.ref 14), some (.ref 34), some (.int t), some (.int hot), some (.ref f), some (.int (nI i)), x7]) (st' := [.int (J 14 13), .int (nI i)]) (I' := J) (L' := L) (R' := zw_RC h sp la) rfl ?_
      refine zv_icmp_ge (tgt := 154) (zs_at rfl) (by decide) (fun c86 => ?_) (fun c86 => ?_)
      · have _c := c86
        refine zv_run 1 (pc' := 156) (lo' := [some (.ref 36), some (.ref 14), some (.ref 34), some (.int t), some (.int hot), some (.ref f), some (.int (nI i)), x7]) (st' := [.ref f]) (I' := J) (L' := L) (R' := zw_RC h sp la) rfl ?_
        exact zv_aret (r := some f) (zs_at rfl) rfl ⟨Nat.le_refl _, Nat.le_refl _⟩ (zw_to rfl rfl rfl rfl)
      · exact absurd (by rw [hJ 14 (by decide), hm]; exact nI_le (by omega) (by omega)) c86
  | succ n ih =>
    intro i first J x7 hi hJ hf
    have hbi : bt (18 + i) := by unfold bt; omega
    rcases first with _ | f
    · skip
      refine zv_run 3 (pc' := 86) (lo' := [some (.ref 36), some (.ref 14), some (.ref 34), some (.int t), some (.int hot), some (.null), some (.int (nI i)), x7]) (st' := [.int (J 14 13), .int (nI i)]) (I' := J) (L' := L) (R' := zw_RC h sp la) rfl ?_
      refine zv_icmp_ge (tgt := 154) (zs_at rfl) (by decide) (fun c86 => ?_) (fun c86 => ?_)
      · exact absurd c86 (by rw [hJ 14 (by decide), hm]; exact nI_ge (by omega) (by omega))
      · have _c := c86
        refine zv_run 2 (pc' := 92) (lo' := [some (.ref 36), some (.ref 14), some (.ref 34), some (.int t), some (.int hot), some (.null), some (.int (nI i)), x7]) (st' := [.int (nI i), .ref 14]) (I' := J) (L' := L) (R' := zw_RC h sp la) rfl ?_
        refine zv_cV (M' := mm_X5_who) (ci := 5) (a := 14) (av := [.int (nI i)]) (st := []) (r := some (.ref (18 + i))) (I' := J) (L' := L) (R' := zw_RC h sp la) rfl zc_3_139 gd_X5_who rfl rfl rfl (Nat.le_of_ble_eq_true rfl) (ct2_X5_who (d := _) (Or.inr rfl) (by rw [hJ 14 (by decide)]; exact hm) (show i < m by omega) hm6) ⟨Nat.le_refl _, Nat.le_refl _⟩ ?_
        refine zv_run 0 (pc' := 95) (lo' := [some (.ref 36), some (.ref 14), some (.ref 34), some (.int t), some (.int hot), some (.null), some (.int (nI i)), x7]) (st' := [.ref (18 + i)]) (I' := J) (L' := L) (R' := zw_RC h sp la) rfl ?_
        refine zv_run 2 (pc' := 99) (lo' := [some (.ref 36), some (.ref 14), some (.ref 34), some (.int t), some (.int hot), some (.null), some (.int (nI i)), some (.ref (18 + i))]) (st' := [.ref (18 + i)]) (I' := J) (L' := L) (R' := zw_RC h sp la) rfl ?_
        refine zv_ifnull (zs_at rfl) ?_
        refine zv_run 1 (pc' := 104) (lo' := [some (.ref 36), some (.ref 14), some (.ref 34), some (.int t), some (.int hot), some (.null), some (.int (nI i)), some (.ref (18 + i))]) (st' := [.null]) (I' := J) (L' := L) (R' := zw_RC h sp la) rfl ?_
        refine zv_ifnullN (tgt := 118) (zs_at rfl) (by decide) ?_
        refine zv_run 4 (pc' := 123) (lo' := [some (.ref 36), some (.ref 14), some (.ref 34), some (.int t), some (.int hot), some (.null), some (.int (nI i)), some (.ref (18 + i))]) (st' := [.int t, .ref (18 + i), .ref 14, .ref 36]) (I' := J) (L' := L) (R' := zw_RC h sp la) rfl ?_
        refine zv_cV (M' := mm_X3_can) (ci := 3) (a := 36) (av := [.ref 14, .ref (18 + i), .int t]) (st := []) (r := some (.int (fe_can J la 14 (18 + i) t))) (I' := (fe_canm J la 14 (18 + i) t)) (L' := L) (R' := zw_RC h sp la) rfl zc_3_143 gd_X3_can rfl rfl rfl (Nat.le_of_ble_eq_true rfl) (ct_X3_can (d := _) (Or.inr rfl) (tk_cg (hJ 37 (by decide)) hT) hbi hl (ok_w_cg hJ (Or.inr rfl) hbi (hok i (by omega)))) ⟨Nat.le_refl _, Nat.le_refl _⟩ ?_
        refine zv_run 0 (pc' := 126) (lo' := [some (.ref 36), some (.ref 14), some (.ref 34), some (.int t), some (.int hot), some (.null), some (.int (nI i)), some (.ref (18 + i))]) (st' := [.int (fe_can J la 14 (18 + i) t)]) (I' := (fe_canm J la 14 (18 + i) t)) (L' := L) (R' := zw_RC h sp la) rfl ?_
        refine zv_if_eq (tgt := 148) (zs_at rfl) (by decide) (fun c126 => ?_) (fun c126 => ?_)
        · have _c := c126
          refine zv_run 2 (pc' := 80) (lo' := [some (.ref 36), some (.ref 14), some (.ref 34), some (.int t), some (.int hot), some (.null), some (.int ((nI i) + 1)), some (.ref (18 + i))]) (st' := []) (I' := (fe_canm J la 14 (18 + i) t)) (L' := L) (R' := zw_RC h sp la) rfl ?_
          rw [show ch_loop la 14 t hot (n + 1) i none J = ch_loop la 14 t hot n (i + 1) none (fe_canm J la 14 (18 + i) t) from by show (if ch_pf J (14 + 4 + i) none = 0 then _ else _) = _; rw [if_neg (show ¬ ch_pf J (18 + i) none = 0 from (fun q => absurd (show (1 : Int32) = 0 from q) (by decide))), if_pos c126], ← nI_succ]
          exact ih (i + 1) _ _ _ (by omega) (eq40_canm hJ) hf
        · have _c := c126
          refine zv_run 1 (pc' := 131) (lo' := [some (.ref 36), some (.ref 14), some (.ref 34), some (.int t), some (.int hot), some (.null), some (.int (nI i)), some (.ref (18 + i))]) (st' := [.int hot]) (I' := (fe_canm J la 14 (18 + i) t)) (L' := L) (R' := zw_RC h sp la) rfl ?_
          refine zv_if_ne (tgt := 144) (zs_at rfl) (by decide) (fun c131 => ?_) (fun c131 => ?_)
          · have _c := c131
            refine zv_run 4 (pc' := 80) (lo' := [some (.ref 36), some (.ref 14), some (.ref 34), some (.int t), some (.int hot), some (.ref (18 + i)), some (.int ((nI i) + 1)), some (.ref (18 + i))]) (st' := []) (I' := (fe_canm J la 14 (18 + i) t)) (L' := L) (R' := zw_RC h sp la) rfl ?_
            rw [show ch_loop la 14 t hot (n + 1) i none J = ch_loop la 14 t hot n (i + 1) (some (18 + i)) (fe_canm J la 14 (18 + i) t) from by show (if ch_pf J (14 + 4 + i) none = 0 then _ else _) = _; rw [if_neg (show ¬ ch_pf J (18 + i) none = 0 from (fun q => absurd (show (1 : Int32) = 0 from q) (by decide))), if_neg c126, if_neg c131], ← nI_succ]
            exact ih (i + 1) _ _ _ (by omega) (eq40_canm hJ) (fun z hz => by cases hz; exact hbi)
          · have _c := c131
            refine zv_run 3 (pc' := 141) (lo' := [some (.ref 36), some (.ref 14), some (.ref 34), some (.int t), some (.int hot), some (.null), some (.int (nI i)), some (.ref (18 + i))]) (st' := [.int ((fe_canm J la 14 (18 + i) t) 40 3)]) (I' := (fe_canm J la 14 (18 + i) t)) (L' := L) (R' := zw_RC h sp la) rfl ?_
            refine zv_if_eq (tgt := 148) (zs_at rfl) (by decide) (fun c141 => ?_) (fun c141 => ?_)
            · have _c := c141
              refine zv_run 2 (pc' := 80) (lo' := [some (.ref 36), some (.ref 14), some (.ref 34), some (.int t), some (.int hot), some (.null), some (.int ((nI i) + 1)), some (.ref (18 + i))]) (st' := []) (I' := (fe_canm J la 14 (18 + i) t)) (L' := L) (R' := zw_RC h sp la) rfl ?_
              rw [show ch_loop la 14 t hot (n + 1) i none J = ch_loop la 14 t hot n (i + 1) none (fe_canm J la 14 (18 + i) t) from by show (if ch_pf J (14 + 4 + i) none = 0 then _ else _) = _; rw [if_neg (show ¬ ch_pf J (18 + i) none = 0 from (fun q => absurd (show (1 : Int32) = 0 from q) (by decide))), if_neg c126, if_pos c131, if_pos c141], ← nI_succ]
              exact ih (i + 1) _ _ _ (by omega) (eq40_canm hJ) hf
            · have _c := c141
              refine zv_run 4 (pc' := 80) (lo' := [some (.ref 36), some (.ref 14), some (.ref 34), some (.int t), some (.int hot), some (.ref (18 + i)), some (.int ((nI i) + 1)), some (.ref (18 + i))]) (st' := []) (I' := (fe_canm J la 14 (18 + i) t)) (L' := L) (R' := zw_RC h sp la) rfl ?_
              rw [show ch_loop la 14 t hot (n + 1) i none J = ch_loop la 14 t hot n (i + 1) (some (18 + i)) (fe_canm J la 14 (18 + i) t) from by show (if ch_pf J (14 + 4 + i) none = 0 then _ else _) = _; rw [if_neg (show ¬ ch_pf J (18 + i) none = 0 from (fun q => absurd (show (1 : Int32) = 0 from q) (by decide))), if_neg c126, if_pos c131, if_neg c141], ← nI_succ]
              exact ih (i + 1) _ _ _ (by omega) (eq40_canm hJ) (fun z hz => by cases hz; exact hbi)
    · skip
      have hbf : bt f := hf f rfl
      refine zv_run 3 (pc' := 86) (lo' := [some (.ref 36), some (.ref 14), some (.ref 34), some (.int t), some (.int hot), some (.ref f), some (.int (nI i)), x7]) (st' := [.int (J 14 13), .int (nI i)]) (I' := J) (L' := L) (R' := zw_RC h sp la) rfl ?_
      refine zv_icmp_ge (tgt := 154) (zs_at rfl) (by decide) (fun c86 => ?_) (fun c86 => ?_)
      · exact absurd c86 (by rw [hJ 14 (by decide), hm]; exact nI_ge (by omega) (by omega))
      · have _c := c86
        refine zv_run 2 (pc' := 92) (lo' := [some (.ref 36), some (.ref 14), some (.ref 34), some (.int t), some (.int hot), some (.ref f), some (.int (nI i)), x7]) (st' := [.int (nI i), .ref 14]) (I' := J) (L' := L) (R' := zw_RC h sp la) rfl ?_
        refine zv_cV (M' := mm_X5_who) (ci := 5) (a := 14) (av := [.int (nI i)]) (st := []) (r := some (.ref (18 + i))) (I' := J) (L' := L) (R' := zw_RC h sp la) rfl zc_3_139 gd_X5_who rfl rfl rfl (Nat.le_of_ble_eq_true rfl) (ct2_X5_who (d := _) (Or.inr rfl) (by rw [hJ 14 (by decide)]; exact hm) (show i < m by omega) hm6) ⟨Nat.le_refl _, Nat.le_refl _⟩ ?_
        refine zv_run 0 (pc' := 95) (lo' := [some (.ref 36), some (.ref 14), some (.ref 34), some (.int t), some (.int hot), some (.ref f), some (.int (nI i)), x7]) (st' := [.ref (18 + i)]) (I' := J) (L' := L) (R' := zw_RC h sp la) rfl ?_
        refine zv_run 2 (pc' := 99) (lo' := [some (.ref 36), some (.ref 14), some (.ref 34), some (.int t), some (.int hot), some (.ref f), some (.int (nI i)), some (.ref (18 + i))]) (st' := [.ref (18 + i)]) (I' := J) (L' := L) (R' := zw_RC h sp la) rfl ?_
        refine zv_ifnull (zs_at rfl) ?_
        refine zv_run 1 (pc' := 104) (lo' := [some (.ref 36), some (.ref 14), some (.ref 34), some (.int t), some (.int hot), some (.ref f), some (.int (nI i)), some (.ref (18 + i))]) (st' := [.ref f]) (I' := J) (L' := L) (R' := zw_RC h sp la) rfl ?_
        refine zv_ifnull (zs_at rfl) ?_
        refine zv_run 3 (pc' := 112) (lo' := [some (.ref 36), some (.ref 14), some (.ref 34), some (.int t), some (.int hot), some (.ref f), some (.int (nI i)), some (.ref (18 + i))]) (st' := [.ref f, .ref (18 + i), .ref 34]) (I' := J) (L' := L) (R' := zw_RC h sp la) rfl ?_
        refine zv_cV (M' := mm_X0_prefers) (ci := 0) (a := 34) (av := [.ref (18 + i), .ref f]) (st := []) (r := some (.int (fa_pref J (18 + i) f))) (I' := J) (L' := L) (R' := zw_RC h sp la) rfl zc_3_156 gd_X0_prefers rfl rfl rfl (Nat.le_of_ble_eq_true rfl) (ct_X0_prefers (d := _) hbi hbf) ⟨Nat.le_refl _, Nat.le_refl _⟩ ?_
        refine zv_run 0 (pc' := 115) (lo' := [some (.ref 36), some (.ref 14), some (.ref 34), some (.int t), some (.int hot), some (.ref f), some (.int (nI i)), some (.ref (18 + i))]) (st' := [.int (fa_pref J (18 + i) f)]) (I' := J) (L' := L) (R' := zw_RC h sp la) rfl ?_
        refine zv_if_eq (tgt := 148) (zs_at rfl) (by decide) (fun c115 => ?_) (fun c115 => ?_)
        · have _c := c115
          refine zv_run 2 (pc' := 80) (lo' := [some (.ref 36), some (.ref 14), some (.ref 34), some (.int t), some (.int hot), some (.ref f), some (.int ((nI i) + 1)), some (.ref (18 + i))]) (st' := []) (I' := J) (L' := L) (R' := zw_RC h sp la) rfl ?_
          rw [show ch_loop la 14 t hot (n + 1) i (some f) J = ch_loop la 14 t hot n (i + 1) (some f) J from by show (if ch_pf J (14 + 4 + i) (some f) = 0 then _ else _) = _; rw [if_pos (show ch_pf J (18 + i) (some f) = 0 from c115)], ← nI_succ]
          exact ih (i + 1) _ _ _ (by omega) hJ hf
        · have _c := c115
          refine zv_run 4 (pc' := 123) (lo' := [some (.ref 36), some (.ref 14), some (.ref 34), some (.int t), some (.int hot), some (.ref f), some (.int (nI i)), some (.ref (18 + i))]) (st' := [.int t, .ref (18 + i), .ref 14, .ref 36]) (I' := J) (L' := L) (R' := zw_RC h sp la) rfl ?_
          refine zv_cV (M' := mm_X3_can) (ci := 3) (a := 36) (av := [.ref 14, .ref (18 + i), .int t]) (st := []) (r := some (.int (fe_can J la 14 (18 + i) t))) (I' := (fe_canm J la 14 (18 + i) t)) (L' := L) (R' := zw_RC h sp la) rfl zc_3_143 gd_X3_can rfl rfl rfl (Nat.le_of_ble_eq_true rfl) (ct_X3_can (d := _) (Or.inr rfl) (tk_cg (hJ 37 (by decide)) hT) hbi hl (ok_w_cg hJ (Or.inr rfl) hbi (hok i (by omega)))) ⟨Nat.le_refl _, Nat.le_refl _⟩ ?_
          refine zv_run 0 (pc' := 126) (lo' := [some (.ref 36), some (.ref 14), some (.ref 34), some (.int t), some (.int hot), some (.ref f), some (.int (nI i)), some (.ref (18 + i))]) (st' := [.int (fe_can J la 14 (18 + i) t)]) (I' := (fe_canm J la 14 (18 + i) t)) (L' := L) (R' := zw_RC h sp la) rfl ?_
          refine zv_if_eq (tgt := 148) (zs_at rfl) (by decide) (fun c126 => ?_) (fun c126 => ?_)
          · have _c := c126
            refine zv_run 2 (pc' := 80) (lo' := [some (.ref 36), some (.ref 14), some (.ref 34), some (.int t), some (.int hot), some (.ref f), some (.int ((nI i) + 1)), some (.ref (18 + i))]) (st' := []) (I' := (fe_canm J la 14 (18 + i) t)) (L' := L) (R' := zw_RC h sp la) rfl ?_
            rw [show ch_loop la 14 t hot (n + 1) i (some f) J = ch_loop la 14 t hot n (i + 1) (some f) (fe_canm J la 14 (18 + i) t) from by show (if ch_pf J (14 + 4 + i) (some f) = 0 then _ else _) = _; rw [if_neg (show ¬ ch_pf J (18 + i) (some f) = 0 from c115), if_pos c126], ← nI_succ]
            exact ih (i + 1) _ _ _ (by omega) (eq40_canm hJ) hf
          · have _c := c126
            refine zv_run 1 (pc' := 131) (lo' := [some (.ref 36), some (.ref 14), some (.ref 34), some (.int t), some (.int hot), some (.ref f), some (.int (nI i)), some (.ref (18 + i))]) (st' := [.int hot]) (I' := (fe_canm J la 14 (18 + i) t)) (L' := L) (R' := zw_RC h sp la) rfl ?_
            refine zv_if_ne (tgt := 144) (zs_at rfl) (by decide) (fun c131 => ?_) (fun c131 => ?_)
            · have _c := c131
              refine zv_run 4 (pc' := 80) (lo' := [some (.ref 36), some (.ref 14), some (.ref 34), some (.int t), some (.int hot), some (.ref (18 + i)), some (.int ((nI i) + 1)), some (.ref (18 + i))]) (st' := []) (I' := (fe_canm J la 14 (18 + i) t)) (L' := L) (R' := zw_RC h sp la) rfl ?_
              rw [show ch_loop la 14 t hot (n + 1) i (some f) J = ch_loop la 14 t hot n (i + 1) (some (18 + i)) (fe_canm J la 14 (18 + i) t) from by show (if ch_pf J (14 + 4 + i) (some f) = 0 then _ else _) = _; rw [if_neg (show ¬ ch_pf J (18 + i) (some f) = 0 from c115), if_neg c126, if_neg c131], ← nI_succ]
              exact ih (i + 1) _ _ _ (by omega) (eq40_canm hJ) (fun z hz => by cases hz; exact hbi)
            · have _c := c131
              refine zv_run 3 (pc' := 141) (lo' := [some (.ref 36), some (.ref 14), some (.ref 34), some (.int t), some (.int hot), some (.ref f), some (.int (nI i)), some (.ref (18 + i))]) (st' := [.int ((fe_canm J la 14 (18 + i) t) 40 3)]) (I' := (fe_canm J la 14 (18 + i) t)) (L' := L) (R' := zw_RC h sp la) rfl ?_
              refine zv_if_eq (tgt := 148) (zs_at rfl) (by decide) (fun c141 => ?_) (fun c141 => ?_)
              · have _c := c141
                refine zv_run 2 (pc' := 80) (lo' := [some (.ref 36), some (.ref 14), some (.ref 34), some (.int t), some (.int hot), some (.ref f), some (.int ((nI i) + 1)), some (.ref (18 + i))]) (st' := []) (I' := (fe_canm J la 14 (18 + i) t)) (L' := L) (R' := zw_RC h sp la) rfl ?_
                rw [show ch_loop la 14 t hot (n + 1) i (some f) J = ch_loop la 14 t hot n (i + 1) (some f) (fe_canm J la 14 (18 + i) t) from by show (if ch_pf J (14 + 4 + i) (some f) = 0 then _ else _) = _; rw [if_neg (show ¬ ch_pf J (18 + i) (some f) = 0 from c115), if_neg c126, if_pos c131, if_pos c141], ← nI_succ]
                exact ih (i + 1) _ _ _ (by omega) (eq40_canm hJ) hf
              · have _c := c141
                refine zv_run 4 (pc' := 80) (lo' := [some (.ref 36), some (.ref 14), some (.ref 34), some (.int t), some (.int hot), some (.ref (18 + i)), some (.int ((nI i) + 1)), some (.ref (18 + i))]) (st' := []) (I' := (fe_canm J la 14 (18 + i) t)) (L' := L) (R' := zw_RC h sp la) rfl ?_
                rw [show ch_loop la 14 t hot (n + 1) i (some f) J = ch_loop la 14 t hot n (i + 1) (some (18 + i)) (fe_canm J la 14 (18 + i) t) from by show (if ch_pf J (14 + 4 + i) (some f) = 0 then _ else _) = _; rw [if_neg (show ¬ ch_pf J (18 + i) (some f) = 0 from c115), if_neg c126, if_pos c131, if_neg c141], ← nI_succ]
                exact ih (i + 1) _ _ _ (by omega) (eq40_canm hJ) (fun z hz => by cases hz; exact hbi)
def ok_all (I : zx_I) (a m : Nat) : Prop := ∀ i, i < m → ok_w I a (a + 4 + i)
theorem ct_X3_chosen_4 {d : Nat} {I : zx_I} {L : zx_L} {h sp : Nat} {la : Option Nat} {t : Int32} (hT : tk_ok I) (hc : hs_ct I 4) (hl : ∀ wl, la = some wl → bt wl) (hok : ok_all I 4 (I 4 13).toInt.toNat) : zx_M0 mm_X3_chosen (d + 3) 0 0 [.ref 36, .ref 4, .ref 34, .int t] zw_SC I L (zw_RC h sp la) (zw_ret (some (va_rf (fe_choose I la 4 t).1)) zw_SC (fe_choose I la 4 t).2 L (zw_RC h sp la)) := by
  obtain ⟨m, hm6, hm, hmt⟩ := hs_c hc.1 hc.2
  rw [hmt] at hok
  have hokw : ∀ w, (bt w ∧ ¬ fa_place I (I 36 7) < 0 ∧ fa_place I (I 36 7) < I 4 13 ∧ fa_place I (I 36 7) < 6 ∧ w = 4 + 4 + (fa_place I (I 36 7)).toNatClampNeg) → ok_w I 4 w := by
    intro w hw
    rw [hw.2.2.2.2]
    refine hok _ ?_
    have q := hw.2.2.1
    rw [hm] at q
    exact zcl hw.2.1 q (by omega)
  refine zv_entry gd_X3_chosen (Nat.le_of_ble_eq_true rfl) ?_
  refine zv_run 2 (pc' := 4) (lo' := [some (.ref 36), some (.ref 4), some (.ref 34), some (.int t), none, none, none, none]) (st' := [.int (I 34 0)]) (I' := I) (L' := L) (R' := zw_RC h sp la) rfl ?_
  refine zv_if_ne (tgt := 44) (zs_at rfl) (by decide) (fun c4 => ?_) (fun c4 => ?_)
  · have _c := c4
    refine zv_run 3 (pc' := 49) (lo' := [some (.ref 36), some (.ref 4), some (.ref 34), some (.int t), none, none, none, none]) (st' := [.int 2, .int (I 34 0)]) (I' := I) (L' := L) (R' := zw_RC h sp la) rfl ?_
    refine zv_icmp_ne (tgt := 67) (zs_at rfl) (by decide) (fun c49 => ?_) (fun c49 => ?_)
    · have _c := c49
      refine zv_run 2 (pc' := 72) (lo' := [some (.ref 36), some (.ref 4), some (.ref 34), some (.int t), none, none, none, none]) (st' := [.int 1]) (I' := I) (L' := L) (R' := zw_RC h sp la) rfl ?_
      refine zv_run 5 (pc' := 80) (lo' := [some (.ref 36), some (.ref 4), some (.ref 34), some (.int t), some (.int 1), some (.null), some (.int 0), none]) (st' := []) (I' := I) (L' := L) (R' := zw_RC h sp la) rfl ?_
      have q := lp_X3_chosen_4 (d := d) (L := L) (h := h) (sp := sp) (t := t) (hot := fe_hot I) hT hl hm hm6 hok m 0 none I none (Nat.zero_add m) (fun _ _ => rfl) (fun _ hz => by cases hz)
      rw [show fe_hot I = 1 from by unfold fe_hot; rw [if_neg c49]] at q
      unfold fe_choose
      rw [if_neg c4, hmt, show fe_hot I = 1 from by unfold fe_hot; rw [if_neg c49]]
      exact q
    · have _c := c49
      refine zv_run 3 (pc' := 57) (lo' := [some (.ref 36), some (.ref 4), some (.ref 34), some (.int t), none, none, none, none]) (st' := [.int 0, .ref 37]) (I' := I) (L' := L) (R' := zw_RC h sp la) rfl ?_
      refine zv_cV (M' := mm_X7_heatOf) (ci := 7) (a := 37) (av := [.int 0]) (st := []) (r := some (.int (ft_unitsIn I 0 / I 37 2))) (I' := I) (L' := L) (R' := zw_RC h sp la) rfl zc_3_147 gd_X7_heatOf rfl rfl rfl (Nat.le_of_ble_eq_true rfl) (ct_X7_heatOf (d := _) hT) ⟨Nat.le_refl _, Nat.le_refl _⟩ ?_
      refine zv_run 0 (pc' := 60) (lo' := [some (.ref 36), some (.ref 4), some (.ref 34), some (.int t), none, none, none, none]) (st' := [.int (ft_unitsIn I 0 / I 37 2)]) (I' := I) (L' := L) (R' := zw_RC h sp la) rfl ?_
      refine zv_run 2 (pc' := 64) (lo' := [some (.ref 36), some (.ref 4), some (.ref 34), some (.int t), none, none, none, none]) (st' := [.int (I 34 1), .int (ft_unitsIn I 0 / I 37 2)]) (I' := I) (L' := L) (R' := zw_RC h sp la) rfl ?_
      refine zv_icmp_lt (tgt := 71) (zs_at rfl) (by decide) (fun c64 => ?_) (fun c64 => ?_)
      · have _c := c64
        refine zv_run 6 (pc' := 80) (lo' := [some (.ref 36), some (.ref 4), some (.ref 34), some (.int t), some (.int 0), some (.null), some (.int 0), none]) (st' := []) (I' := I) (L' := L) (R' := zw_RC h sp la) rfl ?_
        have q := lp_X3_chosen_4 (d := d) (L := L) (h := h) (sp := sp) (t := t) (hot := fe_hot I) hT hl hm hm6 hok m 0 none I none (Nat.zero_add m) (fun _ _ => rfl) (fun _ hz => by cases hz)
        rw [show fe_hot I = 0 from by unfold fe_hot; rw [if_pos c49, if_pos c64]] at q
        unfold fe_choose
        rw [if_neg c4, hmt, show fe_hot I = 0 from by unfold fe_hot; rw [if_pos c49, if_pos c64]]
        exact q
      · have _c := c64
        refine zv_run 2 (pc' := 72) (lo' := [some (.ref 36), some (.ref 4), some (.ref 34), some (.int t), none, none, none, none]) (st' := [.int 1]) (I' := I) (L' := L) (R' := zw_RC h sp la) rfl ?_
        refine zv_run 5 (pc' := 80) (lo' := [some (.ref 36), some (.ref 4), some (.ref 34), some (.int t), some (.int 1), some (.null), some (.int 0), none]) (st' := []) (I' := I) (L' := L) (R' := zw_RC h sp la) rfl ?_
        have q := lp_X3_chosen_4 (d := d) (L := L) (h := h) (sp := sp) (t := t) (hot := fe_hot I) hT hl hm hm6 hok m 0 none I none (Nat.zero_add m) (fun _ _ => rfl) (fun _ hz => by cases hz)
        rw [show fe_hot I = 1 from by unfold fe_hot; rw [if_pos c49, if_neg c64]] at q
        unfold fe_choose
        rw [if_neg c4, hmt, show fe_hot I = 1 from by unfold fe_hot; rw [if_pos c49, if_neg c64]]
        exact q
  · have _c := c4
    refine zv_run 4 (pc' := 13) (lo' := [some (.ref 36), some (.ref 4), some (.ref 34), some (.int t), none, none, none, none]) (st' := [.int (I 36 7), .ref 34, .ref 4]) (I' := I) (L' := L) (R' := zw_RC h sp la) rfl ?_
    refine zv_cV (M' := mm_X0_placeInRow) (ci := 0) (a := 34) (av := [.int (I 36 7)]) (st := [.ref 4]) (r := some (.int (fa_place I (I 36 7)))) (I' := I) (L' := L) (R' := zw_RC h sp la) rfl zc_3_135 gd_X0_placeInRow rfl rfl rfl (Nat.le_of_ble_eq_true rfl) (ct_X0_placeInRow (d := _)) ⟨Nat.le_refl _, Nat.le_refl _⟩ ?_
    refine zv_run 0 (pc' := 16) (lo' := [some (.ref 36), some (.ref 4), some (.ref 34), some (.int t), none, none, none, none]) (st' := [.int (fa_place I (I 36 7)), .ref 4]) (I' := I) (L' := L) (R' := zw_RC h sp la) rfl ?_
    refine zv_cV (M' := mm_X5_who) (ci := 5) (a := 4) (av := [.int (fa_place I (I 36 7))]) (st := []) (r := some (va_rf (fh_who I 4 (fa_place I (I 36 7))))) (I' := I) (L' := L) (R' := zw_RC h sp la) rfl zc_3_139 gd_X5_who rfl rfl rfl (Nat.le_of_ble_eq_true rfl) (ct_X5_who (d := _) (Or.inl rfl)) ⟨Nat.le_refl _, Nat.le_refl _⟩ ?_
    rcases hw19 : fh_who I 4 (fa_place I (I 36 7)) with _ | w
    · refine zv_run 0 (pc' := 19) (lo' := [some (.ref 36), some (.ref 4), some (.ref 34), some (.int t), none, none, none, none]) (st' := [.null]) (I' := I) (L' := L) (R' := zw_RC h sp la) rfl ?_
      refine zv_run 2 (pc' := 23) (lo' := [some (.ref 36), some (.ref 4), some (.ref 34), some (.int t), some (.null), none, none, none]) (st' := [.null]) (I' := I) (L' := L) (R' := zw_RC h sp la) rfl ?_
      refine zv_ifnullN (tgt := 42) (zs_at rfl) (by decide) ?_
      refine zv_run 1 (pc' := 43) (lo' := [some (.ref 36), some (.ref 4), some (.ref 34), some (.int t), some (.null), none, none, none]) (st' := [.null]) (I' := I) (L' := L) (R' := zw_RC h sp la) rfl ?_
      exact zv_aret (r := none) (zs_at rfl) rfl ⟨Nat.le_refl _, Nat.le_refl _⟩ (zw_to (by unfold fe_choose; rw [if_pos c4, hw19]) (by unfold fe_choose; rw [if_pos c4, hw19]) rfl rfl)
    · refine zv_run 0 (pc' := 19) (lo' := [some (.ref 36), some (.ref 4), some (.ref 34), some (.int t), none, none, none, none]) (st' := [.ref w]) (I' := I) (L' := L) (R' := zw_RC h sp la) rfl ?_
      have hwf := fh_who_bt (Or.inl rfl) hw19
      refine zv_run 2 (pc' := 23) (lo' := [some (.ref 36), some (.ref 4), some (.ref 34), some (.int t), some (.ref w), none, none, none]) (st' := [.ref w]) (I' := I) (L' := L) (R' := zw_RC h sp la) rfl ?_
      refine zv_ifnull (zs_at rfl) ?_
      refine zv_run 4 (pc' := 31) (lo' := [some (.ref 36), some (.ref 4), some (.ref 34), some (.int t), some (.ref w), none, none, none]) (st' := [.int t, .ref w, .ref 4, .ref 36]) (I' := I) (L' := L) (R' := zw_RC h sp la) rfl ?_
      refine zv_cV (M' := mm_X3_can) (ci := 3) (a := 36) (av := [.ref 4, .ref w, .int t]) (st := []) (r := some (.int (fe_can I la 4 w t))) (I' := (fe_canm I la 4 w t)) (L' := L) (R' := zw_RC h sp la) rfl zc_3_143 gd_X3_can rfl rfl rfl (Nat.le_of_ble_eq_true rfl) (ct_X3_can (d := _) (Or.inl rfl) hT hwf.1 hl (hokw w hwf)) ⟨Nat.le_refl _, Nat.le_refl _⟩ ?_
      refine zv_run 0 (pc' := 34) (lo' := [some (.ref 36), some (.ref 4), some (.ref 34), some (.int t), some (.ref w), none, none, none]) (st' := [.int (fe_can I la 4 w t)]) (I' := (fe_canm I la 4 w t)) (L' := L) (R' := zw_RC h sp la) rfl ?_
      refine zv_if_eq (tgt := 42) (zs_at rfl) (by decide) (fun c34 => ?_) (fun c34 => ?_)
      · have _c := c34
        refine zv_run 1 (pc' := 43) (lo' := [some (.ref 36), some (.ref 4), some (.ref 34), some (.int t), some (.ref w), none, none, none]) (st' := [.null]) (I' := (fe_canm I la 4 w t)) (L' := L) (R' := zw_RC h sp la) rfl ?_
        exact zv_aret (r := none) (zs_at rfl) rfl ⟨Nat.le_refl _, Nat.le_refl _⟩ (zw_to (by unfold fe_choose; rw [if_pos c4, hw19]; dsimp only; rw [if_pos c34]) (by unfold fe_choose; rw [if_pos c4, hw19]; dsimp only; rw [if_pos c34]) rfl rfl)
      · have _c := c34
        refine zv_run 2 (pc' := 43) (lo' := [some (.ref 36), some (.ref 4), some (.ref 34), some (.int t), some (.ref w), none, none, none]) (st' := [.ref w]) (I' := (fe_canm I la 4 w t)) (L' := L) (R' := zw_RC h sp la) rfl ?_
        exact zv_aret (r := some w) (zs_at rfl) rfl ⟨Nat.le_refl _, Nat.le_refl _⟩ (zw_to (by unfold fe_choose; rw [if_pos c4, hw19]; dsimp only; rw [if_neg c34]) (by unfold fe_choose; rw [if_pos c4, hw19]; dsimp only; rw [if_neg c34]) rfl rfl)
theorem ct_X3_chosen_14 {d : Nat} {I : zx_I} {L : zx_L} {h sp : Nat} {la : Option Nat} {t : Int32} (hT : tk_ok I) (hc : hs_ct I 14) (hl : ∀ wl, la = some wl → bt wl) (hok : ok_all I 14 (I 14 13).toInt.toNat) : zx_M0 mm_X3_chosen (d + 3) 0 0 [.ref 36, .ref 14, .ref 34, .int t] zw_SC I L (zw_RC h sp la) (zw_ret (some (va_rf (fe_choose I la 14 t).1)) zw_SC (fe_choose I la 14 t).2 L (zw_RC h sp la)) := by
  obtain ⟨m, hm6, hm, hmt⟩ := hs_c hc.1 hc.2
  rw [hmt] at hok
  have hokw : ∀ w, (bt w ∧ ¬ fa_place I (I 36 7) < 0 ∧ fa_place I (I 36 7) < I 14 13 ∧ fa_place I (I 36 7) < 6 ∧ w = 14 + 4 + (fa_place I (I 36 7)).toNatClampNeg) → ok_w I 14 w := by
    intro w hw
    rw [hw.2.2.2.2]
    refine hok _ ?_
    have q := hw.2.2.1
    rw [hm] at q
    exact zcl hw.2.1 q (by omega)
  refine zv_entry gd_X3_chosen (Nat.le_of_ble_eq_true rfl) ?_
  refine zv_run 2 (pc' := 4) (lo' := [some (.ref 36), some (.ref 14), some (.ref 34), some (.int t), none, none, none, none]) (st' := [.int (I 34 0)]) (I' := I) (L' := L) (R' := zw_RC h sp la) rfl ?_
  refine zv_if_ne (tgt := 44) (zs_at rfl) (by decide) (fun c4 => ?_) (fun c4 => ?_)
  · have _c := c4
    refine zv_run 3 (pc' := 49) (lo' := [some (.ref 36), some (.ref 14), some (.ref 34), some (.int t), none, none, none, none]) (st' := [.int 2, .int (I 34 0)]) (I' := I) (L' := L) (R' := zw_RC h sp la) rfl ?_
    refine zv_icmp_ne (tgt := 67) (zs_at rfl) (by decide) (fun c49 => ?_) (fun c49 => ?_)
    · have _c := c49
      refine zv_run 2 (pc' := 72) (lo' := [some (.ref 36), some (.ref 14), some (.ref 34), some (.int t), none, none, none, none]) (st' := [.int 1]) (I' := I) (L' := L) (R' := zw_RC h sp la) rfl ?_
      refine zv_run 5 (pc' := 80) (lo' := [some (.ref 36), some (.ref 14), some (.ref 34), some (.int t), some (.int 1), some (.null), some (.int 0), none]) (st' := []) (I' := I) (L' := L) (R' := zw_RC h sp la) rfl ?_
      have q := lp_X3_chosen_14 (d := d) (L := L) (h := h) (sp := sp) (t := t) (hot := fe_hot I) hT hl hm hm6 hok m 0 none I none (Nat.zero_add m) (fun _ _ => rfl) (fun _ hz => by cases hz)
      rw [show fe_hot I = 1 from by unfold fe_hot; rw [if_neg c49]] at q
      unfold fe_choose
      rw [if_neg c4, hmt, show fe_hot I = 1 from by unfold fe_hot; rw [if_neg c49]]
      exact q
    · have _c := c49
      refine zv_run 3 (pc' := 57) (lo' := [some (.ref 36), some (.ref 14), some (.ref 34), some (.int t), none, none, none, none]) (st' := [.int 0, .ref 37]) (I' := I) (L' := L) (R' := zw_RC h sp la) rfl ?_
      refine zv_cV (M' := mm_X7_heatOf) (ci := 7) (a := 37) (av := [.int 0]) (st := []) (r := some (.int (ft_unitsIn I 0 / I 37 2))) (I' := I) (L' := L) (R' := zw_RC h sp la) rfl zc_3_147 gd_X7_heatOf rfl rfl rfl (Nat.le_of_ble_eq_true rfl) (ct_X7_heatOf (d := _) hT) ⟨Nat.le_refl _, Nat.le_refl _⟩ ?_
      refine zv_run 0 (pc' := 60) (lo' := [some (.ref 36), some (.ref 14), some (.ref 34), some (.int t), none, none, none, none]) (st' := [.int (ft_unitsIn I 0 / I 37 2)]) (I' := I) (L' := L) (R' := zw_RC h sp la) rfl ?_
      refine zv_run 2 (pc' := 64) (lo' := [some (.ref 36), some (.ref 14), some (.ref 34), some (.int t), none, none, none, none]) (st' := [.int (I 34 1), .int (ft_unitsIn I 0 / I 37 2)]) (I' := I) (L' := L) (R' := zw_RC h sp la) rfl ?_
      refine zv_icmp_lt (tgt := 71) (zs_at rfl) (by decide) (fun c64 => ?_) (fun c64 => ?_)
      · have _c := c64
        refine zv_run 6 (pc' := 80) (lo' := [some (.ref 36), some (.ref 14), some (.ref 34), some (.int t), some (.int 0), some (.null), some (.int 0), none]) (st' := []) (I' := I) (L' := L) (R' := zw_RC h sp la) rfl ?_
        have q := lp_X3_chosen_14 (d := d) (L := L) (h := h) (sp := sp) (t := t) (hot := fe_hot I) hT hl hm hm6 hok m 0 none I none (Nat.zero_add m) (fun _ _ => rfl) (fun _ hz => by cases hz)
        rw [show fe_hot I = 0 from by unfold fe_hot; rw [if_pos c49, if_pos c64]] at q
        unfold fe_choose
        rw [if_neg c4, hmt, show fe_hot I = 0 from by unfold fe_hot; rw [if_pos c49, if_pos c64]]
        exact q
      · have _c := c64
        refine zv_run 2 (pc' := 72) (lo' := [some (.ref 36), some (.ref 14), some (.ref 34), some (.int t), none, none, none, none]) (st' := [.int 1]) (I' := I) (L' := L) (R' := zw_RC h sp la) rfl ?_
        refine zv_run 5 (pc' := 80) (lo' := [some (.ref 36), some (.ref 14), some (.ref 34), some (.int t), some (.int 1), some (.null), some (.int 0), none]) (st' := []) (I' := I) (L' := L) (R' := zw_RC h sp la) rfl ?_
        have q := lp_X3_chosen_14 (d := d) (L := L) (h := h) (sp := sp) (t := t) (hot := fe_hot I) hT hl hm hm6 hok m 0 none I none (Nat.zero_add m) (fun _ _ => rfl) (fun _ hz => by cases hz)
        rw [show fe_hot I = 1 from by unfold fe_hot; rw [if_pos c49, if_neg c64]] at q
        unfold fe_choose
        rw [if_neg c4, hmt, show fe_hot I = 1 from by unfold fe_hot; rw [if_pos c49, if_neg c64]]
        exact q
  · have _c := c4
    refine zv_run 4 (pc' := 13) (lo' := [some (.ref 36), some (.ref 14), some (.ref 34), some (.int t), none, none, none, none]) (st' := [.int (I 36 7), .ref 34, .ref 14]) (I' := I) (L' := L) (R' := zw_RC h sp la) rfl ?_
    refine zv_cV (M' := mm_X0_placeInRow) (ci := 0) (a := 34) (av := [.int (I 36 7)]) (st := [.ref 14]) (r := some (.int (fa_place I (I 36 7)))) (I' := I) (L' := L) (R' := zw_RC h sp la) rfl zc_3_135 gd_X0_placeInRow rfl rfl rfl (Nat.le_of_ble_eq_true rfl) (ct_X0_placeInRow (d := _)) ⟨Nat.le_refl _, Nat.le_refl _⟩ ?_
    refine zv_run 0 (pc' := 16) (lo' := [some (.ref 36), some (.ref 14), some (.ref 34), some (.int t), none, none, none, none]) (st' := [.int (fa_place I (I 36 7)), .ref 14]) (I' := I) (L' := L) (R' := zw_RC h sp la) rfl ?_
    refine zv_cV (M' := mm_X5_who) (ci := 5) (a := 14) (av := [.int (fa_place I (I 36 7))]) (st := []) (r := some (va_rf (fh_who I 14 (fa_place I (I 36 7))))) (I' := I) (L' := L) (R' := zw_RC h sp la) rfl zc_3_139 gd_X5_who rfl rfl rfl (Nat.le_of_ble_eq_true rfl) (ct_X5_who (d := _) (Or.inr rfl)) ⟨Nat.le_refl _, Nat.le_refl _⟩ ?_
    rcases hw19 : fh_who I 14 (fa_place I (I 36 7)) with _ | w
    · refine zv_run 0 (pc' := 19) (lo' := [some (.ref 36), some (.ref 14), some (.ref 34), some (.int t), none, none, none, none]) (st' := [.null]) (I' := I) (L' := L) (R' := zw_RC h sp la) rfl ?_
      refine zv_run 2 (pc' := 23) (lo' := [some (.ref 36), some (.ref 14), some (.ref 34), some (.int t), some (.null), none, none, none]) (st' := [.null]) (I' := I) (L' := L) (R' := zw_RC h sp la) rfl ?_
      refine zv_ifnullN (tgt := 42) (zs_at rfl) (by decide) ?_
      refine zv_run 1 (pc' := 43) (lo' := [some (.ref 36), some (.ref 14), some (.ref 34), some (.int t), some (.null), none, none, none]) (st' := [.null]) (I' := I) (L' := L) (R' := zw_RC h sp la) rfl ?_
      exact zv_aret (r := none) (zs_at rfl) rfl ⟨Nat.le_refl _, Nat.le_refl _⟩ (zw_to (by unfold fe_choose; rw [if_pos c4, hw19]) (by unfold fe_choose; rw [if_pos c4, hw19]) rfl rfl)
    · refine zv_run 0 (pc' := 19) (lo' := [some (.ref 36), some (.ref 14), some (.ref 34), some (.int t), none, none, none, none]) (st' := [.ref w]) (I' := I) (L' := L) (R' := zw_RC h sp la) rfl ?_
      have hwf := fh_who_bt (Or.inr rfl) hw19
      refine zv_run 2 (pc' := 23) (lo' := [some (.ref 36), some (.ref 14), some (.ref 34), some (.int t), some (.ref w), none, none, none]) (st' := [.ref w]) (I' := I) (L' := L) (R' := zw_RC h sp la) rfl ?_
      refine zv_ifnull (zs_at rfl) ?_
      refine zv_run 4 (pc' := 31) (lo' := [some (.ref 36), some (.ref 14), some (.ref 34), some (.int t), some (.ref w), none, none, none]) (st' := [.int t, .ref w, .ref 14, .ref 36]) (I' := I) (L' := L) (R' := zw_RC h sp la) rfl ?_
      refine zv_cV (M' := mm_X3_can) (ci := 3) (a := 36) (av := [.ref 14, .ref w, .int t]) (st := []) (r := some (.int (fe_can I la 14 w t))) (I' := (fe_canm I la 14 w t)) (L' := L) (R' := zw_RC h sp la) rfl zc_3_143 gd_X3_can rfl rfl rfl (Nat.le_of_ble_eq_true rfl) (ct_X3_can (d := _) (Or.inr rfl) hT hwf.1 hl (hokw w hwf)) ⟨Nat.le_refl _, Nat.le_refl _⟩ ?_
      refine zv_run 0 (pc' := 34) (lo' := [some (.ref 36), some (.ref 14), some (.ref 34), some (.int t), some (.ref w), none, none, none]) (st' := [.int (fe_can I la 14 w t)]) (I' := (fe_canm I la 14 w t)) (L' := L) (R' := zw_RC h sp la) rfl ?_
      refine zv_if_eq (tgt := 42) (zs_at rfl) (by decide) (fun c34 => ?_) (fun c34 => ?_)
      · have _c := c34
        refine zv_run 1 (pc' := 43) (lo' := [some (.ref 36), some (.ref 14), some (.ref 34), some (.int t), some (.ref w), none, none, none]) (st' := [.null]) (I' := (fe_canm I la 14 w t)) (L' := L) (R' := zw_RC h sp la) rfl ?_
        exact zv_aret (r := none) (zs_at rfl) rfl ⟨Nat.le_refl _, Nat.le_refl _⟩ (zw_to (by unfold fe_choose; rw [if_pos c4, hw19]; dsimp only; rw [if_pos c34]) (by unfold fe_choose; rw [if_pos c4, hw19]; dsimp only; rw [if_pos c34]) rfl rfl)
      · have _c := c34
        refine zv_run 2 (pc' := 43) (lo' := [some (.ref 36), some (.ref 14), some (.ref 34), some (.int t), some (.ref w), none, none, none]) (st' := [.ref w]) (I' := (fe_canm I la 14 w t)) (L' := L) (R' := zw_RC h sp la) rfl ?_
        exact zv_aret (r := some w) (zs_at rfl) rfl ⟨Nat.le_refl _, Nat.le_refl _⟩ (zw_to (by unfold fe_choose; rw [if_pos c4, hw19]; dsimp only; rw [if_neg c34]) (by unfold fe_choose; rw [if_pos c4, hw19]; dsimp only; rw [if_neg c34]) rfl rfl)
theorem ct_X3_chosen {d : Nat} {I : zx_I} {L : zx_L} {h sp : Nat} {la : Option Nat} {a : Nat} {t : Int32} (ha : a = 4 ∨ a = 14) (hT : tk_ok I) (hc : hs_ct I a) (hl : ∀ wl, la = some wl → bt wl) (hok : ok_all I a (I a 13).toInt.toNat) : zx_M0 mm_X3_chosen (d + 3) 0 0 [.ref 36, .ref a, .ref 34, .int t] zw_SC I L (zw_RC h sp la) (zw_ret (some (va_rf (fe_choose I la a t).1)) zw_SC (fe_choose I la a t).2 L (zw_RC h sp la)) := by
  rcases ha with rfl | rfl
  · exact ct_X3_chosen_4 hT hc hl hok
  · exact ct_X3_chosen_14 hT hc hl hok
theorem ch_loop_ok {I : zx_I} {la : Option Nat} {a : Nat} {t hot : Int32} (ha : a = 4 ∨ a = 14) (hl : ∀ wl, la = some wl → bt wl) : ∀ (n i : Nat) (first : Option Nat) (J : zx_I), i + n ≤ 6 → eq40 J I → (∀ f, first = some f → ∃ j, j < i ∧ f = a + 4 + j ∧ ¬ fe_can I la a f t = 0) → eq40 (ch_loop la a t hot n i first J).2 I ∧ ∀ f, (ch_loop la a t hot n i first J).1 = some f → ∃ j, j < i + n ∧ f = a + 4 + j ∧ ¬ fe_can I la a f t = 0
  | 0, i, first, J, hi, hJ, hf => ⟨hJ, hf⟩
  | n + 1, i, first, J, hi, hJ, hf => by
    have hbi : bt (a + 4 + i) := by unfold bt; omega
    have hcan := fe_can_cg (la := la) (t := t) hJ ha hbi hl
    have hf' : ∀ f, first = some f → ∃ j, j < i + 1 ∧ f = a + 4 + j ∧ ¬ fe_can I la a f t = 0 := fun f h => by
      obtain ⟨j, h1, h2⟩ := hf f h
      exact ⟨j, by omega, h2⟩
    rw [show i + (n + 1) = i + 1 + n by omega]
    unfold ch_loop
    split
    · exact ch_loop_ok ha hl n (i + 1) first J (by omega) hJ hf'
    · split
      · exact ch_loop_ok ha hl n (i + 1) first _ (by omega) (eq40_canm hJ) hf'
      · rename_i hc
        have hs : ∀ f, some (a + 4 + i) = some f → ∃ j, j < i + 1 ∧ f = a + 4 + j ∧ ¬ fe_can I la a f t = 0 := fun f h => by
          cases h
          exact ⟨i, by omega, rfl, by rw [← hcan]; exact hc⟩
        split
        · split
          · exact ch_loop_ok ha hl n (i + 1) first _ (by omega) (eq40_canm hJ) hf'
          · exact ch_loop_ok ha hl n (i + 1) _ _ (by omega) (eq40_canm hJ) hs
        · exact ch_loop_ok ha hl n (i + 1) _ _ (by omega) (eq40_canm hJ) hs
/-- who is chosen is there, and can -/
theorem fe_choose_ok {I : zx_I} {la : Option Nat} {a : Nat} {t : Int32} (ha : a = 4 ∨ a = 14) (hc : hs_ct I a) (hl : ∀ wl, la = some wl → bt wl) : eq40 (fe_choose I la a t).2 I ∧ ∀ f, (fe_choose I la a t).1 = some f → ∃ j, j < (I a 13).toInt.toNat ∧ f = a + 4 + j ∧ ¬ fe_can I la a f t = 0 := by
  obtain ⟨m, hm6, hm, hmt⟩ := hs_c hc.1 hc.2
  rw [hmt]
  unfold fe_choose
  split
  · cases hw : fh_who I a (fa_place I (I 36 7)) with
    | none => exact ⟨fun _ _ => rfl, fun _ h => by cases h⟩
    | some w =>
      have hwf := fh_who_bt ha hw
      dsimp only
      split
      · exact ⟨eq40_canm (fun _ _ => rfl), fun _ h => by cases h⟩
      · rename_i hcn
        refine ⟨eq40_canm (fun _ _ => rfl), fun f h => ?_⟩
        cases h
        have q := hwf.2.2.1
        rw [hm] at q
        exact ⟨_, zcl hwf.2.1 q (by omega), hwf.2.2.2.2, hcn⟩
  · rw [hmt]
    have q := ch_loop_ok (I := I) (t := t) (hot := fe_hot I) ha hl m 0 none I (by omega) (fun _ _ => rfl) (fun _ h => by cases h)
    rw [Nat.zero_add] at q
    exact q
