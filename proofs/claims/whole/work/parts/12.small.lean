/-! the fire, the bath, the bathers, what is asked, the wishes: each method is a function of the memory -/
theorem zin2 {x l hi : Int32} {n : Nat} (h0 : ¬ x < l) (h1 : x ≤ hi) (hl : 0 ≤ l.toInt) (hh : hi.toInt < n) : vp_in x n := by
  rw [Int32.lt_iff_toInt_lt] at h0
  rw [Int32.le_iff_toInt_le] at h1
  exact vp_in_iff.mpr ⟨by omega, by omega⟩
def ff_begin (I : zx_I) (f : Int32) : zx_I := zx_uI (zx_uI (zx_uI I 39 0 0) 39 1 0) 39 2 f
def ff_up (I : zx_I) : zx_I := if I 39 2 ≤ 0 then I else zx_uI (zx_uI (zx_uI I 39 2 (I 39 2 - 1)) 39 0 3) 39 1 0
def ff_gives (I : zx_I) (a : Nat) : Int32 := if I 39 0 < 1 then 0 else if I 39 0 ≤ 3 then I (a + 1) (I 39 0).toNatClampNeg else 0
def ff_old (I : zx_I) (a : Nat) : zx_I := if I 39 0 < 1 then I else if I 39 0 ≤ 3 then (if I 39 1 + 1 < I (a + 2) (I 39 0).toNatClampNeg then zx_uI I 39 1 (I 39 1 + 1) else zx_uI (zx_uI (zx_uI I 39 1 (I 39 1 + 1)) 39 0 (I 39 0 - 1)) 39 1 0) else I
def bt (w : Nat) : Prop := (8 ≤ w ∧ w ≤ 13) ∨ (18 ≤ w ∧ w ≤ 23)
theorem bt_S {w : Nat} (h : bt w) : zw_SC[w]? = some (2, 14) := by
  rcases (show w = 8 ∨ w = 9 ∨ w = 10 ∨ w = 11 ∨ w = 12 ∨ w = 13 ∨ w = 18 ∨ w = 19 ∨ w = 20 ∨ w = 21 ∨ w = 22 ∨ w = 23 by unfold bt at h; omega) with rfl | rfl | rfl | rfl | rfl | rfl | rfl | rfl | rfl | rfl | rfl | rfl <;> rfl
def fb_heat (I : zx_I) (wl : Nat) (c : Int32) : Int32 := I wl 12 - c * I wl 4
def fb_left (I : zx_I) (wl ww : Nat) (c : Int32) : Int32 := if I ww 8 &&& I wl 0 = 0 then 0 else if fb_heat I wl c < I ww 2 then 0 else if fb_heat I wl c > I ww 3 then 0 else 1
def fb_leftm (I : zx_I) (wl : Nat) (c : Int32) : zx_I := zx_uI (zx_uI (zx_uI (zx_uI I 40 0 0) 40 2 0) 40 3 1) 40 1 (fb_heat I wl c)
theorem ct2_X7_unitsOfTop {d : Nat} {I : zx_I} {L : zx_L} {h sp : Nat} {la : Option Nat} {hh : Int32} (hT : tk_ok I) (h0 : ¬ hh / I 37 2 < 0) (h1 : hh / I 37 2 ≤ I 37 1) : zx_M0 mm_X7_unitsOfTop d 0 0 [.ref 37, .int hh] zw_SC I L (zw_RC h sp la) (zw_ret (some (.int (ft_top I (hh / I 37 2).toNatClampNeg (I 37 1).toNatClampNeg hh))) zw_SC I L (zw_RC h sp la)) := by
  obtain ⟨m, hm1, hm6, hm⟩ := tk_m hT
  obtain ⟨w, hw, hq⟩ := nI_of2 (M := I 37 1) (n := m) (by rw [hm, nI_toInt (by omega)]) h0 h1
  have e1 : (hh / I 37 2).toNatClampNeg = w := by rw [hq, nI_clamp (by omega)]
  have e2 : (I 37 1).toNatClampNeg = m := by rw [hm, nI_clamp (by omega)]
  rw [e1, e2]
  exact ct_X7_unitsOfTop hT hm hm6 hw hq
def ft_topc (I : zx_I) (hh : Int32) : Int32 := ft_top I (hh / I 37 2).toNatClampNeg (I 37 1).toNatClampNeg hh
def fc_k (I : zx_I) (ww : Nat) (g : Int32) : Int32 := if g > I ww 1 then 0 else g
def fc_nd (I : zx_I) (ww : Nat) (g : Int32) : Int32 := 100 * fc_k I ww g + I 37 3 * (I ww 1 - fc_k I ww g)
def fc_p (I : zx_I) (ww : Nat) (g : Int32) : Int32 := ft_pints I (I ww 2 * I ww 1 - fc_nd I ww g) (I ww 1 - fc_k I ww g)
def fc_h (I : zx_I) (ww : Nat) (g : Int32) : Int32 := (fc_nd I ww g + ft_topc I (fc_p I ww g) - I 37 3 * fc_p I ww g) / I ww 1
def fc_is (I : zx_I) (ww : Nat) (g : Int32) : Int32 := if fc_p I ww g = -4 then 0 else if fc_h I ww g > I ww 3 then 0 else 1
def fc_m (I : zx_I) (ww : Nat) (g : Int32) : zx_I := if fc_p I ww g = -4 then zx_uI (zx_uI (zx_uI I 40 3 0) 40 2 (fc_k I ww g)) 40 0 (fc_p I ww g) else zx_uI (zx_uI (zx_uI (zx_uI I 40 3 0) 40 2 (fc_k I ww g)) 40 0 (fc_p I ww g)) 40 1 (fc_h I ww g)
theorem ct_X4_begin {d : Nat} {I : zx_I} {L : zx_L} {h sp : Nat} {la : Option Nat} {f : Int32}  : zx_M0 mm_X4_begin (d + 0) 0 0 [.ref 39, .int f] zw_SC I L (zw_RC h sp la) (zw_ret (none) zw_SC (ff_begin I f) L (zw_RC h sp la)) := by
  refine zv_entry gd_X4_begin (Nat.le_of_ble_eq_true rfl) ?_
  refine zv_run 9 (pc' := 15) (lo' := [some (.ref 39), some (.int f)]) (st' := []) (I' := (zx_uI (zx_uI (zx_uI I 39 0 0) 39 1 0) 39 2 f)) (L' := L) (R' := zw_RC h sp la) rfl ?_
  exact zv_vret (zs_at rfl) rfl ⟨Nat.le_refl _, Nat.le_refl _⟩ (zw_to rfl rfl rfl rfl)
theorem ct_X4_makeUp {d : Nat} {I : zx_I} {L : zx_L} {h sp : Nat} {la : Option Nat}   : zx_M0 mm_X4_makeUp (d + 0) 0 0 [.ref 39] zw_SC I L (zw_RC h sp la) (zw_ret (none) zw_SC (ff_up I) L (zw_RC h sp la)) := by
  refine zv_entry gd_X4_makeUp (Nat.le_of_ble_eq_true rfl) ?_
  refine zv_run 2 (pc' := 4) (lo' := [some (.ref 39)]) (st' := [.int (I 39 2)]) (I' := I) (L' := L) (R' := zw_RC h sp la) rfl ?_
  refine zv_if_le (tgt := 27) (zs_at rfl) (by decide) (fun c4 => ?_) (fun c4 => ?_)
  · have _c := c4
    exact zv_vret (zs_at rfl) rfl ⟨Nat.le_refl _, Nat.le_refl _⟩ (zw_to rfl (by unfold ff_up; rw [if_pos c4]) rfl rfl)
  · have _c := c4
    refine zv_run 12 (pc' := 27) (lo' := [some (.ref 39)]) (st' := []) (I' := (zx_uI (zx_uI (zx_uI I 39 2 ((I 39 2) - 1)) 39 0 3) 39 1 0)) (L' := L) (R' := zw_RC h sp la) rfl ?_
    exact zv_vret (zs_at rfl) rfl ⟨Nat.le_refl _, Nat.le_refl _⟩ (zw_to rfl (by unfold ff_up; rw [if_neg c4]) rfl rfl)
theorem ct_X4_gives {d : Nat} {I : zx_I} {L : zx_L} {h sp : Nat} {la : Option Nat} {a : Nat}  (ha : a = 4 ∨ a = 14)  : zx_M0 mm_X4_gives (d + 0) 0 0 [.ref 39, .ref a] zw_SC I L (zw_RC h sp la) (zw_ret (some (.int (ff_gives I a))) zw_SC I L (zw_RC h sp la)) := by
  rcases ha with rfl | rfl
  · refine zv_entry gd_X4_gives (Nat.le_of_ble_eq_true rfl) ?_
    refine zv_run 3 (pc' := 5) (lo' := [some (.ref 39), some (.ref 4)]) (st' := [.int 1, .int (I 39 0)]) (I' := I) (L' := L) (R' := zw_RC h sp la) rfl ?_
    refine zv_icmp_lt (tgt := 16) (zs_at rfl) (by decide) (fun c5 => ?_) (fun c5 => ?_)
    · have _c := c5
      refine zv_run 2 (pc' := 29) (lo' := [some (.ref 39), some (.ref 4)]) (st' := [.int 0]) (I' := I) (L' := L) (R' := zw_RC h sp la) rfl ?_
      exact zv_iret (zs_at rfl) rfl ⟨Nat.le_refl _, Nat.le_refl _⟩ (zw_to (by simp [ff_gives, *]) rfl rfl rfl)
    · have _c := c5
      refine zv_run 3 (pc' := 13) (lo' := [some (.ref 39), some (.ref 4)]) (st' := [.int 3, .int (I 39 0)]) (I' := I) (L' := L) (R' := zw_RC h sp la) rfl ?_
      refine zv_icmp_le (tgt := 20) (zs_at rfl) (by decide) (fun c13 => ?_) (fun c13 => ?_)
      · have _c := c13
        refine zv_run 4 (pc' := 28) (lo' := [some (.ref 39), some (.ref 4)]) (st' := [.int (I 39 0), .ref 5]) (I' := I) (L' := L) (R' := zw_RC h sp la) rfl ?_
        refine zv_iald (zs_at rfl) rfl (zin2 c5 c13 (by decide) (by decide)) ?_
        exact zv_iret (zs_at rfl) rfl ⟨Nat.le_refl _, Nat.le_refl _⟩ (zw_to (by simp [ff_gives, *]) rfl rfl rfl)
      · have _c := c13
        refine zv_run 2 (pc' := 29) (lo' := [some (.ref 39), some (.ref 4)]) (st' := [.int 0]) (I' := I) (L' := L) (R' := zw_RC h sp la) rfl ?_
        exact zv_iret (zs_at rfl) rfl ⟨Nat.le_refl _, Nat.le_refl _⟩ (zw_to (by simp [ff_gives, *]) rfl rfl rfl)
  · refine zv_entry gd_X4_gives (Nat.le_of_ble_eq_true rfl) ?_
    refine zv_run 3 (pc' := 5) (lo' := [some (.ref 39), some (.ref 14)]) (st' := [.int 1, .int (I 39 0)]) (I' := I) (L' := L) (R' := zw_RC h sp la) rfl ?_
    refine zv_icmp_lt (tgt := 16) (zs_at rfl) (by decide) (fun c5 => ?_) (fun c5 => ?_)
    · have _c := c5
      refine zv_run 2 (pc' := 29) (lo' := [some (.ref 39), some (.ref 14)]) (st' := [.int 0]) (I' := I) (L' := L) (R' := zw_RC h sp la) rfl ?_
      exact zv_iret (zs_at rfl) rfl ⟨Nat.le_refl _, Nat.le_refl _⟩ (zw_to (by simp [ff_gives, *]) rfl rfl rfl)
    · have _c := c5
      refine zv_run 3 (pc' := 13) (lo' := [some (.ref 39), some (.ref 14)]) (st' := [.int 3, .int (I 39 0)]) (I' := I) (L' := L) (R' := zw_RC h sp la) rfl ?_
      refine zv_icmp_le (tgt := 20) (zs_at rfl) (by decide) (fun c13 => ?_) (fun c13 => ?_)
      · have _c := c13
        refine zv_run 4 (pc' := 28) (lo' := [some (.ref 39), some (.ref 14)]) (st' := [.int (I 39 0), .ref 15]) (I' := I) (L' := L) (R' := zw_RC h sp la) rfl ?_
        refine zv_iald (zs_at rfl) rfl (zin2 c5 c13 (by decide) (by decide)) ?_
        exact zv_iret (zs_at rfl) rfl ⟨Nat.le_refl _, Nat.le_refl _⟩ (zw_to (by simp [ff_gives, *]) rfl rfl rfl)
      · have _c := c13
        refine zv_run 2 (pc' := 29) (lo' := [some (.ref 39), some (.ref 14)]) (st' := [.int 0]) (I' := I) (L' := L) (R' := zw_RC h sp la) rfl ?_
        exact zv_iret (zs_at rfl) rfl ⟨Nat.le_refl _, Nat.le_refl _⟩ (zw_to (by simp [ff_gives, *]) rfl rfl rfl)
theorem ct_X4_getOlder {d : Nat} {I : zx_I} {L : zx_L} {h sp : Nat} {la : Option Nat} {a : Nat}  (ha : a = 4 ∨ a = 14)  : zx_M0 mm_X4_getOlder (d + 0) 0 0 [.ref 39, .ref a] zw_SC I L (zw_RC h sp la) (zw_ret (none) zw_SC (ff_old I a) L (zw_RC h sp la)) := by
  rcases ha with rfl | rfl
  · refine zv_entry gd_X4_getOlder (Nat.le_of_ble_eq_true rfl) ?_
    refine zv_run 3 (pc' := 5) (lo' := [some (.ref 39), some (.ref 4)]) (st' := [.int 1, .int (I 39 0)]) (I' := I) (L' := L) (R' := zw_RC h sp la) rfl ?_
    refine zv_icmp_lt (tgt := 16) (zs_at rfl) (by decide) (fun c5 => ?_) (fun c5 => ?_)
    · have _c := c5
      exact zv_vret (zs_at rfl) rfl ⟨Nat.le_refl _, Nat.le_refl _⟩ (zw_to rfl (by simp [ff_old, *]) rfl rfl)
    · have _c := c5
      refine zv_run 3 (pc' := 13) (lo' := [some (.ref 39), some (.ref 4)]) (st' := [.int 3, .int (I 39 0)]) (I' := I) (L' := L) (R' := zw_RC h sp la) rfl ?_
      refine zv_icmp_le (tgt := 17) (zs_at rfl) (by decide) (fun c13 => ?_) (fun c13 => ?_)
      · have _c := c13
        refine zv_run 12 (pc' := 39) (lo' := [some (.ref 39), some (.ref 4)]) (st' := [.int (I 39 0), .ref 6, .int ((I 39 1) + 1)]) (I' := (zx_uI I 39 1 ((I 39 1) + 1))) (L' := L) (R' := zw_RC h sp la) rfl ?_
        refine zv_iald (zs_at rfl) rfl (zin2 c5 c13 (by decide) (by decide)) ?_
        refine zv_run 0 (pc' := 40) (lo' := [some (.ref 39), some (.ref 4)]) (st' := [.int (I 6 ((I 39 0).toNatClampNeg)), .int ((I 39 1) + 1)]) (I' := (zx_uI I 39 1 ((I 39 1) + 1))) (L' := L) (R' := zw_RC h sp la) rfl ?_
        refine zv_icmp_lt (tgt := 58) (zs_at rfl) (by decide) (fun c40 => ?_) (fun c40 => ?_)
        · have _c := c40
          exact zv_vret (zs_at rfl) rfl ⟨Nat.le_refl _, Nat.le_refl _⟩ (zw_to rfl (by simp [ff_old, *]) rfl rfl)
        · have _c := c40
          refine zv_run 9 (pc' := 58) (lo' := [some (.ref 39), some (.ref 4)]) (st' := []) (I' := (zx_uI (zx_uI (zx_uI I 39 1 ((I 39 1) + 1)) 39 0 ((I 39 0) - 1)) 39 1 0)) (L' := L) (R' := zw_RC h sp la) rfl ?_
          exact zv_vret (zs_at rfl) rfl ⟨Nat.le_refl _, Nat.le_refl _⟩ (zw_to rfl (by simp [ff_old, *]) rfl rfl)
      · have _c := c13
        exact zv_vret (zs_at rfl) rfl ⟨Nat.le_refl _, Nat.le_refl _⟩ (zw_to rfl (by simp [ff_old, *]) rfl rfl)
  · refine zv_entry gd_X4_getOlder (Nat.le_of_ble_eq_true rfl) ?_
    refine zv_run 3 (pc' := 5) (lo' := [some (.ref 39), some (.ref 14)]) (st' := [.int 1, .int (I 39 0)]) (I' := I) (L' := L) (R' := zw_RC h sp la) rfl ?_
    refine zv_icmp_lt (tgt := 16) (zs_at rfl) (by decide) (fun c5 => ?_) (fun c5 => ?_)
    · have _c := c5
      exact zv_vret (zs_at rfl) rfl ⟨Nat.le_refl _, Nat.le_refl _⟩ (zw_to rfl (by simp [ff_old, *]) rfl rfl)
    · have _c := c5
      refine zv_run 3 (pc' := 13) (lo' := [some (.ref 39), some (.ref 14)]) (st' := [.int 3, .int (I 39 0)]) (I' := I) (L' := L) (R' := zw_RC h sp la) rfl ?_
      refine zv_icmp_le (tgt := 17) (zs_at rfl) (by decide) (fun c13 => ?_) (fun c13 => ?_)
      · have _c := c13
        refine zv_run 12 (pc' := 39) (lo' := [some (.ref 39), some (.ref 14)]) (st' := [.int (I 39 0), .ref 16, .int ((I 39 1) + 1)]) (I' := (zx_uI I 39 1 ((I 39 1) + 1))) (L' := L) (R' := zw_RC h sp la) rfl ?_
        refine zv_iald (zs_at rfl) rfl (zin2 c5 c13 (by decide) (by decide)) ?_
        refine zv_run 0 (pc' := 40) (lo' := [some (.ref 39), some (.ref 14)]) (st' := [.int (I 16 ((I 39 0).toNatClampNeg)), .int ((I 39 1) + 1)]) (I' := (zx_uI I 39 1 ((I 39 1) + 1))) (L' := L) (R' := zw_RC h sp la) rfl ?_
        refine zv_icmp_lt (tgt := 58) (zs_at rfl) (by decide) (fun c40 => ?_) (fun c40 => ?_)
        · have _c := c40
          exact zv_vret (zs_at rfl) rfl ⟨Nat.le_refl _, Nat.le_refl _⟩ (zw_to rfl (by simp [ff_old, *]) rfl rfl)
        · have _c := c40
          refine zv_run 9 (pc' := 58) (lo' := [some (.ref 39), some (.ref 14)]) (st' := []) (I' := (zx_uI (zx_uI (zx_uI I 39 1 ((I 39 1) + 1)) 39 0 ((I 39 0) - 1)) 39 1 0)) (L' := L) (R' := zw_RC h sp la) rfl ?_
          exact zv_vret (zs_at rfl) rfl ⟨Nat.le_refl _, Nat.le_refl _⟩ (zw_to rfl (by simp [ff_old, *]) rfl rfl)
      · have _c := c13
        exact zv_vret (zs_at rfl) rfl ⟨Nat.le_refl _, Nat.le_refl _⟩ (zw_to rfl (by simp [ff_old, *]) rfl rfl)
theorem ct_X1_isLeftBy {d : Nat} {I : zx_I} {L : zx_L} {h sp : Nat} {la : Option Nat} {wl ww : Nat} {c : Int32} (hl : bt wl) (hb : bt ww) : zx_M0 mm_X1_isLeftBy (d + 0) 0 0 [.ref 40, .ref wl, .ref ww, .int c] zw_SC I L (zw_RC h sp la) (zw_ret (some (.int (fb_left I wl ww c))) zw_SC (fb_leftm I wl c) L (zw_RC h sp la)) := by
  refine zv_entry gd_X1_isLeftBy (Nat.le_of_ble_eq_true rfl) ?_
  refine zv_run 11 (pc' := 17) (lo' := [some (.ref 40), some (.ref wl), some (.ref ww), some (.int c)]) (st' := [.ref wl, .ref 40]) (I' := (zx_uI (zx_uI (zx_uI I 40 0 0) 40 2 0) 40 3 1)) (L' := L) (R' := zw_RC h sp la) rfl ?_
  refine zv_get (ci := 2) (k := 12) (t := 0) (zs_at rfl) (zf_ok rfl) (bt_S hl) rfl ?_
  refine zv_run 0 (pc' := 20) (lo' := [some (.ref 40), some (.ref wl), some (.ref ww), some (.int c)]) (st' := [.int (I wl 12), .ref 40]) (I' := (zx_uI (zx_uI (zx_uI I 40 0 0) 40 2 0) 40 3 1)) (L' := L) (R' := zw_RC h sp la) (by rw [show (zx_uI (zx_uI (zx_uI I 40 0 0) 40 2 0) 40 3 1) wl 12 = I wl 12 from by simp [zx_uI, zr, zmap, show wl ≠ 40 from by (unfold bt at hl; omega)]]; rfl) ?_
  refine zv_run 2 (pc' := 22) (lo' := [some (.ref 40), some (.ref wl), some (.ref ww), some (.int c)]) (st' := [.ref wl, .int c, .int (I wl 12), .ref 40]) (I' := (zx_uI (zx_uI (zx_uI I 40 0 0) 40 2 0) 40 3 1)) (L' := L) (R' := zw_RC h sp la) rfl ?_
  refine zv_get (ci := 2) (k := 4) (t := 0) (zs_at rfl) (zf_ok rfl) (bt_S hl) rfl ?_
  refine zv_run 0 (pc' := 25) (lo' := [some (.ref 40), some (.ref wl), some (.ref ww), some (.int c)]) (st' := [.int (I wl 4), .int c, .int (I wl 12), .ref 40]) (I' := (zx_uI (zx_uI (zx_uI I 40 0 0) 40 2 0) 40 3 1)) (L' := L) (R' := zw_RC h sp la) (by rw [show (zx_uI (zx_uI (zx_uI I 40 0 0) 40 2 0) 40 3 1) wl 4 = I wl 4 from by simp [zx_uI, zr, zmap, show wl ≠ 40 from by (unfold bt at hl; omega)]]; rfl) ?_
  refine zv_run 4 (pc' := 31) (lo' := [some (.ref 40), some (.ref wl), some (.ref ww), some (.int c)]) (st' := [.ref ww]) (I' := (zx_uI (zx_uI (zx_uI (zx_uI I 40 0 0) 40 2 0) 40 3 1) 40 1 ((I wl 12) - (c * (I wl 4))))) (L' := L) (R' := zw_RC h sp la) rfl ?_
  refine zv_get (ci := 2) (k := 8) (t := 0) (zs_at rfl) (zf_ok rfl) (bt_S hb) rfl ?_
  refine zv_run 0 (pc' := 34) (lo' := [some (.ref 40), some (.ref wl), some (.ref ww), some (.int c)]) (st' := [.int (I ww 8)]) (I' := (zx_uI (zx_uI (zx_uI (zx_uI I 40 0 0) 40 2 0) 40 3 1) 40 1 ((I wl 12) - (c * (I wl 4))))) (L' := L) (R' := zw_RC h sp la) (by rw [show (zx_uI (zx_uI (zx_uI (zx_uI I 40 0 0) 40 2 0) 40 3 1) 40 1 ((I wl 12) - (c * (I wl 4)))) ww 8 = I ww 8 from by simp [zx_uI, zr, zmap, show ww ≠ 40 from by (unfold bt at hb; omega)]]; rfl) ?_
  refine zv_run 1 (pc' := 35) (lo' := [some (.ref 40), some (.ref wl), some (.ref ww), some (.int c)]) (st' := [.ref wl, .int (I ww 8)]) (I' := (zx_uI (zx_uI (zx_uI (zx_uI I 40 0 0) 40 2 0) 40 3 1) 40 1 ((I wl 12) - (c * (I wl 4))))) (L' := L) (R' := zw_RC h sp la) rfl ?_
  refine zv_get (ci := 2) (k := 0) (t := 0) (zs_at rfl) (zf_ok rfl) (bt_S hl) rfl ?_
  refine zv_run 0 (pc' := 38) (lo' := [some (.ref 40), some (.ref wl), some (.ref ww), some (.int c)]) (st' := [.int (I wl 0), .int (I ww 8)]) (I' := (zx_uI (zx_uI (zx_uI (zx_uI I 40 0 0) 40 2 0) 40 3 1) 40 1 ((I wl 12) - (c * (I wl 4))))) (L' := L) (R' := zw_RC h sp la) (by rw [show (zx_uI (zx_uI (zx_uI (zx_uI I 40 0 0) 40 2 0) 40 3 1) 40 1 ((I wl 12) - (c * (I wl 4)))) wl 0 = I wl 0 from by simp [zx_uI, zr, zmap, show wl ≠ 40 from by (unfold bt at hl; omega)]]; rfl) ?_
  refine zv_run 1 (pc' := 39) (lo' := [some (.ref 40), some (.ref wl), some (.ref ww), some (.int c)]) (st' := [.int ((I ww 8) &&& (I wl 0))]) (I' := (zx_uI (zx_uI (zx_uI (zx_uI I 40 0 0) 40 2 0) 40 3 1) 40 1 ((I wl 12) - (c * (I wl 4))))) (L' := L) (R' := zw_RC h sp la) rfl ?_
  refine zv_if_eq (tgt := 68) (zs_at rfl) (by decide) (fun c39 => ?_) (fun c39 => ?_)
  · have _c := c39
    refine zv_run 1 (pc' := 69) (lo' := [some (.ref 40), some (.ref wl), some (.ref ww), some (.int c)]) (st' := [.int 0]) (I' := (zx_uI (zx_uI (zx_uI (zx_uI I 40 0 0) 40 2 0) 40 3 1) 40 1 ((I wl 12) - (c * (I wl 4))))) (L' := L) (R' := zw_RC h sp la) rfl ?_
    exact zv_zret (zs_at rfl) rfl (Or.inl rfl) ⟨Nat.le_refl _, Nat.le_refl _⟩ (zw_to (by simp [fb_left, fb_heat, *]) rfl rfl rfl)
  · have _c := c39
    refine zv_run 3 (pc' := 47) (lo' := [some (.ref 40), some (.ref wl), some (.ref ww), some (.int c)]) (st' := [.ref ww, .int ((I wl 12) - (c * (I wl 4)))]) (I' := (zx_uI (zx_uI (zx_uI (zx_uI I 40 0 0) 40 2 0) 40 3 1) 40 1 ((I wl 12) - (c * (I wl 4))))) (L' := L) (R' := zw_RC h sp la) rfl ?_
    refine zv_get (ci := 2) (k := 2) (t := 0) (zs_at rfl) (zf_ok rfl) (bt_S hb) rfl ?_
    refine zv_run 0 (pc' := 50) (lo' := [some (.ref 40), some (.ref wl), some (.ref ww), some (.int c)]) (st' := [.int (I ww 2), .int ((I wl 12) - (c * (I wl 4)))]) (I' := (zx_uI (zx_uI (zx_uI (zx_uI I 40 0 0) 40 2 0) 40 3 1) 40 1 ((I wl 12) - (c * (I wl 4))))) (L' := L) (R' := zw_RC h sp la) (by rw [show (zx_uI (zx_uI (zx_uI (zx_uI I 40 0 0) 40 2 0) 40 3 1) 40 1 ((I wl 12) - (c * (I wl 4)))) ww 2 = I ww 2 from by simp [zx_uI, zr, zmap, show ww ≠ 40 from by (unfold bt at hb; omega)]]; rfl) ?_
    refine zv_icmp_lt (tgt := 68) (zs_at rfl) (by decide) (fun c50 => ?_) (fun c50 => ?_)
    · have _c := c50
      refine zv_run 1 (pc' := 69) (lo' := [some (.ref 40), some (.ref wl), some (.ref ww), some (.int c)]) (st' := [.int 0]) (I' := (zx_uI (zx_uI (zx_uI (zx_uI I 40 0 0) 40 2 0) 40 3 1) 40 1 ((I wl 12) - (c * (I wl 4))))) (L' := L) (R' := zw_RC h sp la) rfl ?_
      exact zv_zret (zs_at rfl) rfl (Or.inl rfl) ⟨Nat.le_refl _, Nat.le_refl _⟩ (zw_to (by simp [fb_left, fb_heat, *]) rfl rfl rfl)
    · have _c := c50
      refine zv_run 3 (pc' := 58) (lo' := [some (.ref 40), some (.ref wl), some (.ref ww), some (.int c)]) (st' := [.ref ww, .int ((I wl 12) - (c * (I wl 4)))]) (I' := (zx_uI (zx_uI (zx_uI (zx_uI I 40 0 0) 40 2 0) 40 3 1) 40 1 ((I wl 12) - (c * (I wl 4))))) (L' := L) (R' := zw_RC h sp la) rfl ?_
      refine zv_get (ci := 2) (k := 3) (t := 0) (zs_at rfl) (zf_ok rfl) (bt_S hb) rfl ?_
      refine zv_run 0 (pc' := 61) (lo' := [some (.ref 40), some (.ref wl), some (.ref ww), some (.int c)]) (st' := [.int (I ww 3), .int ((I wl 12) - (c * (I wl 4)))]) (I' := (zx_uI (zx_uI (zx_uI (zx_uI I 40 0 0) 40 2 0) 40 3 1) 40 1 ((I wl 12) - (c * (I wl 4))))) (L' := L) (R' := zw_RC h sp la) (by rw [show (zx_uI (zx_uI (zx_uI (zx_uI I 40 0 0) 40 2 0) 40 3 1) 40 1 ((I wl 12) - (c * (I wl 4)))) ww 3 = I ww 3 from by simp [zx_uI, zr, zmap, show ww ≠ 40 from by (unfold bt at hb; omega)]]; rfl) ?_
      refine zv_icmp_gt (tgt := 68) (zs_at rfl) (by decide) (fun c61 => ?_) (fun c61 => ?_)
      · have _c := c61
        refine zv_run 1 (pc' := 69) (lo' := [some (.ref 40), some (.ref wl), some (.ref ww), some (.int c)]) (st' := [.int 0]) (I' := (zx_uI (zx_uI (zx_uI (zx_uI I 40 0 0) 40 2 0) 40 3 1) 40 1 ((I wl 12) - (c * (I wl 4))))) (L' := L) (R' := zw_RC h sp la) rfl ?_
        exact zv_zret (zs_at rfl) rfl (Or.inl rfl) ⟨Nat.le_refl _, Nat.le_refl _⟩ (zw_to (by simp [fb_left, fb_heat, *]) rfl rfl rfl)
      · have _c := c61
        refine zv_run 2 (pc' := 69) (lo' := [some (.ref 40), some (.ref wl), some (.ref ww), some (.int c)]) (st' := [.int 1]) (I' := (zx_uI (zx_uI (zx_uI (zx_uI I 40 0 0) 40 2 0) 40 3 1) 40 1 ((I wl 12) - (c * (I wl 4))))) (L' := L) (R' := zw_RC h sp la) rfl ?_
        exact zv_zret (zs_at rfl) rfl (Or.inr rfl) ⟨Nat.le_refl _, Nat.le_refl _⟩ (zw_to (by simp [fb_left, fb_heat, *]) rfl rfl rfl)
theorem ct_X1_comesFrom {d : Nat} {I : zx_I} {L : zx_L} {h sp : Nat} {la : Option Nat} {ww : Nat} {g : Int32} (hT : tk_ok I) (hb : bt ww) (hv : 1 ≤ (I ww 1).toInt) (hq0 : ¬ fc_p I ww g = -4 → ¬ fc_p I ww g / I 37 2 < 0) (hq1 : ¬ fc_p I ww g = -4 → fc_p I ww g / I 37 2 ≤ I 37 1) : zx_M0 mm_X1_comesFrom (d + 1) 0 0 [.ref 40, .ref 37, .ref ww, .int g] zw_SC I L (zw_RC h sp la) (zw_ret (some (.int (fc_is I ww g))) zw_SC (fc_m I ww g) L (zw_RC h sp la)) := by
  refine zv_entry gd_X1_comesFrom (Nat.le_of_ble_eq_true rfl) ?_
  have K : zx_V mm_X1_comesFrom (d + 1) z0 (zw_ret (some (.int (fc_is I ww g))) zw_SC (fc_m I ww g) L (zw_RC h sp la)) zw_SC 34 [some (.ref 40), some (.ref 37), some (.ref ww), some (.int g), some (.int (I ww 1)), none] [] (zx_uI (zx_uI I 40 3 0) 40 2 (fc_k I ww g)) L (zw_RC h sp la) := by
    refine zv_run 16 (pc' := 59) (lo' := [some (.ref 40), some (.ref 37), some (.ref ww), some (.int g), some (.int (I ww 1)), some (.int ((100 * (fc_k I ww g)) + ((I 37 3) * ((I ww 1) - (fc_k I ww g)))))]) (st' := [.ref ww, .ref 37, .ref 40]) (I' := (zx_uI (zx_uI I 40 3 0) 40 2 (fc_k I ww g))) (L' := L) (R' := zw_RC h sp la) rfl ?_
    refine zv_get (ci := 2) (k := 2) (t := 0) (zs_at rfl) (zf_ok rfl) (bt_S hb) rfl ?_
    refine zv_run 0 (pc' := 62) (lo' := [some (.ref 40), some (.ref 37), some (.ref ww), some (.int g), some (.int (I ww 1)), some (.int ((100 * (fc_k I ww g)) + ((I 37 3) * ((I ww 1) - (fc_k I ww g)))))]) (st' := [.int (I ww 2), .ref 37, .ref 40]) (I' := (zx_uI (zx_uI I 40 3 0) 40 2 (fc_k I ww g))) (L' := L) (R' := zw_RC h sp la) (by rw [show (zx_uI (zx_uI I 40 3 0) 40 2 (fc_k I ww g)) ww 2 = I ww 2 from by simp [zx_uI, zr, zmap, show ww ≠ 40 from by (unfold bt at hb; omega)]]; rfl) ?_
    refine zv_run 8 (pc' := 75) (lo' := [some (.ref 40), some (.ref 37), some (.ref ww), some (.int g), some (.int (I ww 1)), some (.int ((100 * (fc_k I ww g)) + ((I 37 3) * ((I ww 1) - (fc_k I ww g)))))]) (st' := [.int ((I ww 1) - (fc_k I ww g)), .int (((I ww 2) * (I ww 1)) - ((100 * (fc_k I ww g)) + ((I 37 3) * ((I ww 1) - (fc_k I ww g))))), .ref 37, .ref 40]) (I' := (zx_uI (zx_uI I 40 3 0) 40 2 (fc_k I ww g))) (L' := L) (R' := zw_RC h sp la) rfl ?_
    refine zv_cV (M' := mm_X7_pintsFor) (ci := 7) (a := 37) (av := [.int (((I ww 2) * (I ww 1)) - ((100 * (fc_k I ww g)) + ((I 37 3) * ((I ww 1) - (fc_k I ww g))))), .int ((I ww 1) - (fc_k I ww g))]) (st := [.ref 40]) (r := some (.int (ft_pints I (((I ww 2) * (I ww 1)) - ((100 * (fc_k I ww g)) + ((I 37 3) * ((I ww 1) - (fc_k I ww g))))) ((I ww 1) - (fc_k I ww g))))) (I' := (zx_uI (zx_uI I 40 3 0) 40 2 (fc_k I ww g))) (L' := L) (R' := zw_RC h sp la) rfl zc_1_49 gd_X7_pintsFor rfl rfl rfl (Nat.le_of_ble_eq_true rfl) (ct_X7_pintsFor (d := d) (I := (zx_uI (zx_uI I 40 3 0) 40 2 (fc_k I ww g))) hT) ⟨Nat.le_refl _, Nat.le_refl _⟩ ?_
    refine zv_run 0 (pc' := 78) (lo' := [some (.ref 40), some (.ref 37), some (.ref ww), some (.int g), some (.int (I ww 1)), some (.int ((100 * (fc_k I ww g)) + ((I 37 3) * ((I ww 1) - (fc_k I ww g)))))]) (st' := [.int (ft_pints I (((I ww 2) * (I ww 1)) - ((100 * (fc_k I ww g)) + ((I 37 3) * ((I ww 1) - (fc_k I ww g))))) ((I ww 1) - (fc_k I ww g))), .ref 40]) (I' := (zx_uI (zx_uI I 40 3 0) 40 2 (fc_k I ww g))) (L' := L) (R' := zw_RC h sp la) rfl ?_
    refine zv_run 4 (pc' := 87) (lo' := [some (.ref 40), some (.ref 37), some (.ref ww), some (.int g), some (.int (I ww 1)), some (.int ((100 * (fc_k I ww g)) + ((I 37 3) * ((I ww 1) - (fc_k I ww g)))))]) (st' := [.int (-4), .int (ft_pints I (((I ww 2) * (I ww 1)) - ((100 * (fc_k I ww g)) + ((I 37 3) * ((I ww 1) - (fc_k I ww g))))) ((I ww 1) - (fc_k I ww g)))]) (I' := (zx_uI (zx_uI (zx_uI I 40 3 0) 40 2 (fc_k I ww g)) 40 0 (ft_pints I (((I ww 2) * (I ww 1)) - ((100 * (fc_k I ww g)) + ((I 37 3) * ((I ww 1) - (fc_k I ww g))))) ((I ww 1) - (fc_k I ww g))))) (L' := L) (R' := zw_RC h sp la) rfl ?_
    refine zv_icmp_ne (tgt := 92) (zs_at rfl) (by decide) (fun c87 => ?_) (fun c87 => ?_)
    · have _c := c87
      refine zv_run 5 (pc' := 100) (lo' := [some (.ref 40), some (.ref 37), some (.ref ww), some (.int g), some (.int (I ww 1)), some (.int ((100 * (fc_k I ww g)) + ((I 37 3) * ((I ww 1) - (fc_k I ww g)))))]) (st' := [.int (ft_pints I (((I ww 2) * (I ww 1)) - ((100 * (fc_k I ww g)) + ((I 37 3) * ((I ww 1) - (fc_k I ww g))))) ((I ww 1) - (fc_k I ww g))), .ref 37, .int ((100 * (fc_k I ww g)) + ((I 37 3) * ((I ww 1) - (fc_k I ww g)))), .ref 40]) (I' := (zx_uI (zx_uI (zx_uI I 40 3 0) 40 2 (fc_k I ww g)) 40 0 (ft_pints I (((I ww 2) * (I ww 1)) - ((100 * (fc_k I ww g)) + ((I 37 3) * ((I ww 1) - (fc_k I ww g))))) ((I ww 1) - (fc_k I ww g))))) (L' := L) (R' := zw_RC h sp la) rfl ?_
      refine zv_cV (M' := mm_X7_unitsOfTop) (ci := 7) (a := 37) (av := [.int (ft_pints I (((I ww 2) * (I ww 1)) - ((100 * (fc_k I ww g)) + ((I 37 3) * ((I ww 1) - (fc_k I ww g))))) ((I ww 1) - (fc_k I ww g)))]) (st := [.int ((100 * (fc_k I ww g)) + ((I 37 3) * ((I ww 1) - (fc_k I ww g)))), .ref 40]) (r := some (.int (ft_topc I (ft_pints I (((I ww 2) * (I ww 1)) - ((100 * (fc_k I ww g)) + ((I 37 3) * ((I ww 1) - (fc_k I ww g))))) ((I ww 1) - (fc_k I ww g)))))) (I' := (zx_uI (zx_uI (zx_uI I 40 3 0) 40 2 (fc_k I ww g)) 40 0 (ft_pints I (((I ww 2) * (I ww 1)) - ((100 * (fc_k I ww g)) + ((I 37 3) * ((I ww 1) - (fc_k I ww g))))) ((I ww 1) - (fc_k I ww g))))) (L' := L) (R' := zw_RC h sp la) rfl zc_1_53 gd_X7_unitsOfTop rfl rfl rfl (Nat.le_of_ble_eq_true rfl) (ct2_X7_unitsOfTop (d := d) (I := (zx_uI (zx_uI (zx_uI I 40 3 0) 40 2 (fc_k I ww g)) 40 0 (ft_pints I (((I ww 2) * (I ww 1)) - ((100 * (fc_k I ww g)) + ((I 37 3) * ((I ww 1) - (fc_k I ww g))))) ((I ww 1) - (fc_k I ww g))))) hT (by first | exact hq0 (by assumption) | skip) (by first | exact hq1 (by assumption) | skip)) ⟨Nat.le_refl _, Nat.le_refl _⟩ ?_
      refine zv_run 0 (pc' := 103) (lo' := [some (.ref 40), some (.ref 37), some (.ref ww), some (.int g), some (.int (I ww 1)), some (.int ((100 * (fc_k I ww g)) + ((I 37 3) * ((I ww 1) - (fc_k I ww g)))))]) (st' := [.int (ft_topc I (ft_pints I (((I ww 2) * (I ww 1)) - ((100 * (fc_k I ww g)) + ((I 37 3) * ((I ww 1) - (fc_k I ww g))))) ((I ww 1) - (fc_k I ww g)))), .int ((100 * (fc_k I ww g)) + ((I 37 3) * ((I ww 1) - (fc_k I ww g)))), .ref 40]) (I' := (zx_uI (zx_uI (zx_uI I 40 3 0) 40 2 (fc_k I ww g)) 40 0 (ft_pints I (((I ww 2) * (I ww 1)) - ((100 * (fc_k I ww g)) + ((I 37 3) * ((I ww 1) - (fc_k I ww g))))) ((I ww 1) - (fc_k I ww g))))) (L' := L) (R' := zw_RC h sp la) rfl ?_
      refine zv_run 8 (pc' := 116) (lo' := [some (.ref 40), some (.ref 37), some (.ref ww), some (.int g), some (.int (I ww 1)), some (.int ((100 * (fc_k I ww g)) + ((I 37 3) * ((I ww 1) - (fc_k I ww g)))))]) (st' := [.int (I ww 1), .int ((((100 * (fc_k I ww g)) + ((I 37 3) * ((I ww 1) - (fc_k I ww g)))) + (ft_topc I (ft_pints I (((I ww 2) * (I ww 1)) - ((100 * (fc_k I ww g)) + ((I 37 3) * ((I ww 1) - (fc_k I ww g))))) ((I ww 1) - (fc_k I ww g))))) - ((I 37 3) * (ft_pints I (((I ww 2) * (I ww 1)) - ((100 * (fc_k I ww g)) + ((I 37 3) * ((I ww 1) - (fc_k I ww g))))) ((I ww 1) - (fc_k I ww g))))), .ref 40]) (I' := (zx_uI (zx_uI (zx_uI I 40 3 0) 40 2 (fc_k I ww g)) 40 0 (ft_pints I (((I ww 2) * (I ww 1)) - ((100 * (fc_k I ww g)) + ((I 37 3) * ((I ww 1) - (fc_k I ww g))))) ((I ww 1) - (fc_k I ww g))))) (L' := L) (R' := zw_RC h sp la) rfl ?_
      refine zv_idiv (zs_at rfl) (fun q => by rw [q] at hv; exact absurd hv (by decide)) ?_
      refine zv_run 4 (pc' := 125) (lo' := [some (.ref 40), some (.ref 37), some (.ref ww), some (.int g), some (.int (I ww 1)), some (.int ((100 * (fc_k I ww g)) + ((I 37 3) * ((I ww 1) - (fc_k I ww g)))))]) (st' := [.ref ww, .int (((((100 * (fc_k I ww g)) + ((I 37 3) * ((I ww 1) - (fc_k I ww g)))) + (ft_topc I (ft_pints I (((I ww 2) * (I ww 1)) - ((100 * (fc_k I ww g)) + ((I 37 3) * ((I ww 1) - (fc_k I ww g))))) ((I ww 1) - (fc_k I ww g))))) - ((I 37 3) * (ft_pints I (((I ww 2) * (I ww 1)) - ((100 * (fc_k I ww g)) + ((I 37 3) * ((I ww 1) - (fc_k I ww g))))) ((I ww 1) - (fc_k I ww g))))) / (I ww 1))]) (I' := (zx_uI (zx_uI (zx_uI (zx_uI I 40 3 0) 40 2 (fc_k I ww g)) 40 0 (ft_pints I (((I ww 2) * (I ww 1)) - ((100 * (fc_k I ww g)) + ((I 37 3) * ((I ww 1) - (fc_k I ww g))))) ((I ww 1) - (fc_k I ww g)))) 40 1 (((((100 * (fc_k I ww g)) + ((I 37 3) * ((I ww 1) - (fc_k I ww g)))) + (ft_topc I (ft_pints I (((I ww 2) * (I ww 1)) - ((100 * (fc_k I ww g)) + ((I 37 3) * ((I ww 1) - (fc_k I ww g))))) ((I ww 1) - (fc_k I ww g))))) - ((I 37 3) * (ft_pints I (((I ww 2) * (I ww 1)) - ((100 * (fc_k I ww g)) + ((I 37 3) * ((I ww 1) - (fc_k I ww g))))) ((I ww 1) - (fc_k I ww g))))) / (I ww 1)))) (L' := L) (R' := zw_RC h sp la) rfl ?_
      refine zv_get (ci := 2) (k := 3) (t := 0) (zs_at rfl) (zf_ok rfl) (bt_S hb) rfl ?_
      refine zv_run 0 (pc' := 128) (lo' := [some (.ref 40), some (.ref 37), some (.ref ww), some (.int g), some (.int (I ww 1)), some (.int ((100 * (fc_k I ww g)) + ((I 37 3) * ((I ww 1) - (fc_k I ww g)))))]) (st' := [.int (I ww 3), .int (((((100 * (fc_k I ww g)) + ((I 37 3) * ((I ww 1) - (fc_k I ww g)))) + (ft_topc I (ft_pints I (((I ww 2) * (I ww 1)) - ((100 * (fc_k I ww g)) + ((I 37 3) * ((I ww 1) - (fc_k I ww g))))) ((I ww 1) - (fc_k I ww g))))) - ((I 37 3) * (ft_pints I (((I ww 2) * (I ww 1)) - ((100 * (fc_k I ww g)) + ((I 37 3) * ((I ww 1) - (fc_k I ww g))))) ((I ww 1) - (fc_k I ww g))))) / (I ww 1))]) (I' := (zx_uI (zx_uI (zx_uI (zx_uI I 40 3 0) 40 2 (fc_k I ww g)) 40 0 (ft_pints I (((I ww 2) * (I ww 1)) - ((100 * (fc_k I ww g)) + ((I 37 3) * ((I ww 1) - (fc_k I ww g))))) ((I ww 1) - (fc_k I ww g)))) 40 1 (((((100 * (fc_k I ww g)) + ((I 37 3) * ((I ww 1) - (fc_k I ww g)))) + (ft_topc I (ft_pints I (((I ww 2) * (I ww 1)) - ((100 * (fc_k I ww g)) + ((I 37 3) * ((I ww 1) - (fc_k I ww g))))) ((I ww 1) - (fc_k I ww g))))) - ((I 37 3) * (ft_pints I (((I ww 2) * (I ww 1)) - ((100 * (fc_k I ww g)) + ((I 37 3) * ((I ww 1) - (fc_k I ww g))))) ((I ww 1) - (fc_k I ww g))))) / (I ww 1)))) (L' := L) (R' := zw_RC h sp la) (by rw [show (zx_uI (zx_uI (zx_uI (zx_uI I 40 3 0) 40 2 (fc_k I ww g)) 40 0 (ft_pints I (((I ww 2) * (I ww 1)) - ((100 * (fc_k I ww g)) + ((I 37 3) * ((I ww 1) - (fc_k I ww g))))) ((I ww 1) - (fc_k I ww g)))) 40 1 (((((100 * (fc_k I ww g)) + ((I 37 3) * ((I ww 1) - (fc_k I ww g)))) + (ft_topc I (ft_pints I (((I ww 2) * (I ww 1)) - ((100 * (fc_k I ww g)) + ((I 37 3) * ((I ww 1) - (fc_k I ww g))))) ((I ww 1) - (fc_k I ww g))))) - ((I 37 3) * (ft_pints I (((I ww 2) * (I ww 1)) - ((100 * (fc_k I ww g)) + ((I 37 3) * ((I ww 1) - (fc_k I ww g))))) ((I ww 1) - (fc_k I ww g))))) / (I ww 1))) ww 3 = I ww 3 from by simp [zx_uI, zr, zmap, show ww ≠ 40 from by (unfold bt at hb; omega)]]; rfl) ?_
      refine zv_icmp_gt (tgt := 135) (zs_at rfl) (by decide) (fun c128 => ?_) (fun c128 => ?_)
      · have _c := c128
        refine zv_run 1 (pc' := 136) (lo' := [some (.ref 40), some (.ref 37), some (.ref ww), some (.int g), some (.int (I ww 1)), some (.int ((100 * (fc_k I ww g)) + ((I 37 3) * ((I ww 1) - (fc_k I ww g)))))]) (st' := [.int 0]) (I' := (zx_uI (zx_uI (zx_uI (zx_uI I 40 3 0) 40 2 (fc_k I ww g)) 40 0 (ft_pints I (((I ww 2) * (I ww 1)) - ((100 * (fc_k I ww g)) + ((I 37 3) * ((I ww 1) - (fc_k I ww g))))) ((I ww 1) - (fc_k I ww g)))) 40 1 (((((100 * (fc_k I ww g)) + ((I 37 3) * ((I ww 1) - (fc_k I ww g)))) + (ft_topc I (ft_pints I (((I ww 2) * (I ww 1)) - ((100 * (fc_k I ww g)) + ((I 37 3) * ((I ww 1) - (fc_k I ww g))))) ((I ww 1) - (fc_k I ww g))))) - ((I 37 3) * (ft_pints I (((I ww 2) * (I ww 1)) - ((100 * (fc_k I ww g)) + ((I 37 3) * ((I ww 1) - (fc_k I ww g))))) ((I ww 1) - (fc_k I ww g))))) / (I ww 1)))) (L' := L) (R' := zw_RC h sp la) rfl ?_
        exact zv_zret (zs_at rfl) rfl (Or.inl rfl) ⟨Nat.le_refl _, Nat.le_refl _⟩ (zw_to (by unfold fc_is; rw [if_neg (show ¬ fc_p I ww g = -4 from c87), if_pos (show fc_h I ww g > I ww 3 from c128)]) (by unfold fc_m; rw [if_neg (show ¬ fc_p I ww g = -4 from c87)]; rfl) rfl rfl)
      · have _c := c128
        refine zv_run 2 (pc' := 136) (lo' := [some (.ref 40), some (.ref 37), some (.ref ww), some (.int g), some (.int (I ww 1)), some (.int ((100 * (fc_k I ww g)) + ((I 37 3) * ((I ww 1) - (fc_k I ww g)))))]) (st' := [.int 1]) (I' := (zx_uI (zx_uI (zx_uI (zx_uI I 40 3 0) 40 2 (fc_k I ww g)) 40 0 (ft_pints I (((I ww 2) * (I ww 1)) - ((100 * (fc_k I ww g)) + ((I 37 3) * ((I ww 1) - (fc_k I ww g))))) ((I ww 1) - (fc_k I ww g)))) 40 1 (((((100 * (fc_k I ww g)) + ((I 37 3) * ((I ww 1) - (fc_k I ww g)))) + (ft_topc I (ft_pints I (((I ww 2) * (I ww 1)) - ((100 * (fc_k I ww g)) + ((I 37 3) * ((I ww 1) - (fc_k I ww g))))) ((I ww 1) - (fc_k I ww g))))) - ((I 37 3) * (ft_pints I (((I ww 2) * (I ww 1)) - ((100 * (fc_k I ww g)) + ((I 37 3) * ((I ww 1) - (fc_k I ww g))))) ((I ww 1) - (fc_k I ww g))))) / (I ww 1)))) (L' := L) (R' := zw_RC h sp la) rfl ?_
        exact zv_zret (zs_at rfl) rfl (Or.inr rfl) ⟨Nat.le_refl _, Nat.le_refl _⟩ (zw_to (by unfold fc_is; rw [if_neg (show ¬ fc_p I ww g = -4 from c87), if_neg (show ¬ fc_h I ww g > I ww 3 from c128)]) (by unfold fc_m; rw [if_neg (show ¬ fc_p I ww g = -4 from c87)]; rfl) rfl rfl)
    · have _c := c87
      refine zv_run 1 (pc' := 91) (lo' := [some (.ref 40), some (.ref 37), some (.ref ww), some (.int g), some (.int (I ww 1)), some (.int ((100 * (fc_k I ww g)) + ((I 37 3) * ((I ww 1) - (fc_k I ww g)))))]) (st' := [.int 0]) (I' := (zx_uI (zx_uI (zx_uI I 40 3 0) 40 2 (fc_k I ww g)) 40 0 (ft_pints I (((I ww 2) * (I ww 1)) - ((100 * (fc_k I ww g)) + ((I 37 3) * ((I ww 1) - (fc_k I ww g))))) ((I ww 1) - (fc_k I ww g))))) (L' := L) (R' := zw_RC h sp la) rfl ?_
      exact zv_zret (zs_at rfl) rfl (Or.inl rfl) ⟨Nat.le_refl _, Nat.le_refl _⟩ (zw_to (by unfold fc_is; rw [if_pos (show fc_p I ww g = -4 from c87)]) (by unfold fc_m; rw [if_pos (show fc_p I ww g = -4 from c87)]; rfl) rfl rfl)
  refine zv_run 1 (pc' := 1) (lo' := [some (.ref 40), some (.ref 37), some (.ref ww), some (.int g), none, none]) (st' := [.ref ww]) (I' := I) (L' := L) (R' := zw_RC h sp la) rfl ?_
  refine zv_get (ci := 2) (k := 1) (t := 0) (zs_at rfl) (zf_ok rfl) (bt_S hb) rfl ?_
  refine zv_run 0 (pc' := 4) (lo' := [some (.ref 40), some (.ref 37), some (.ref ww), some (.int g), none, none]) (st' := [.int (I ww 1)]) (I' := I) (L' := L) (R' := zw_RC h sp la) rfl ?_
  refine zv_run 3 (pc' := 9) (lo' := [some (.ref 40), some (.ref 37), some (.ref ww), some (.int g), some (.int (I ww 1)), none]) (st' := [.int 1, .int (I ww 1)]) (I' := I) (L' := L) (R' := zw_RC h sp la) rfl ?_
  refine zv_icmp_ge (tgt := 14) (zs_at rfl) (by decide) (fun c9 => ?_) (fun c9 => ?_)
  · have _c := c9
    refine zv_run 6 (pc' := 23) (lo' := [some (.ref 40), some (.ref 37), some (.ref ww), some (.int g), some (.int (I ww 1)), none]) (st' := [.int (I ww 1), .int g, .ref 40]) (I' := (zx_uI I 40 3 0)) (L' := L) (R' := zw_RC h sp la) rfl ?_
    refine zv_icmp_gt (tgt := 30) (zs_at rfl) (by decide) (fun c23 => ?_) (fun c23 => ?_)
    · have _c := c23
      refine zv_run 2 (pc' := 34) (lo' := [some (.ref 40), some (.ref 37), some (.ref ww), some (.int g), some (.int (I ww 1)), none]) (st' := []) (I' := (zx_uI (zx_uI I 40 3 0) 40 2 0)) (L' := L) (R' := zw_RC h sp la) rfl ?_
      have e : fc_k I ww g = 0 := by unfold fc_k; rw [if_pos c23]
      rw [e] at K
      exact K
    · have _c := c23
      refine zv_run 2 (pc' := 31) (lo' := [some (.ref 40), some (.ref 37), some (.ref ww), some (.int g), some (.int (I ww 1)), none]) (st' := [.int g, .ref 40]) (I' := (zx_uI I 40 3 0)) (L' := L) (R' := zw_RC h sp la) rfl ?_
      refine zv_run 1 (pc' := 34) (lo' := [some (.ref 40), some (.ref 37), some (.ref ww), some (.int g), some (.int (I ww 1)), none]) (st' := []) (I' := (zx_uI (zx_uI I 40 3 0) 40 2 g)) (L' := L) (R' := zw_RC h sp la) rfl ?_
      have e : fc_k I ww g = g := by unfold fc_k; rw [if_neg c23]
      rw [e] at K
      exact K
  · exact absurd (Int32.le_iff_toInt_le.mpr (show (1 : Int32).toInt ≤ (I ww 1).toInt from hv)) c9
def fb_reset (I : zx_I) (w : Nat) : zx_I := zx_uI (zx_uI (zx_uI (zx_uI I w 10 (-4)) w 11 (-4)) w 12 (-4)) w 13 (-4)
def fb_like (I : zx_I) (w v : Nat) : zx_I := zx_uI (zx_uI (zx_uI (zx_uI (zx_uI (zx_uI (zx_uI (zx_uI (zx_uI I w 1 (I v 1)) w 2 (I v 2)) w 3 (I v 3)) w 4 (I v 4)) w 5 (I v 5)) w 6 (I v 6)) w 7 (I v 7)) w 8 (I v 8)) w 9 (I v 9)
def fb_told (I : zx_I) (w : Nat) (what : Int32) : Int32 := if what.toInt = 0 then I w 1 else if what.toInt = 1 then I w 2 else if what.toInt = 2 then I w 3 else if what.toInt = 3 then I w 4 else if what.toInt = 4 then I w 5 else if what.toInt = 5 then I w 6 else if what.toInt = 6 then I w 7 else I w 8
theorem ct_X2_isNotInYet {d : Nat} {I : zx_I} {L : zx_L} {h sp : Nat} {la : Option Nat} {ww : Nat} (hb : bt ww) : zx_M0 mm_X2_isNotInYet (d + 0) 0 0 [.ref ww] zw_SC I L (zw_RC h sp la) (zw_ret (none) zw_SC (fb_reset I ww) L (zw_RC h sp la)) := by
  refine zv_entry gd_X2_isNotInYet (Nat.le_of_ble_eq_true rfl) ?_
  refine zv_run 2 (pc' := 3) (lo' := [some (.ref ww)]) (st' := [.int (-4), .ref ww]) (I' := I) (L' := L) (R' := zw_RC h sp la) rfl ?_
  refine zs_putI (ci := 2) (k := 10) (zs_at rfl) (zf_ok rfl) (bt_S hb) (Or.inl rfl) rfl (fun q => absurd q (by decide)) ?_
  refine zv_run 2 (pc' := 9) (lo' := [some (.ref ww)]) (st' := [.int (-4), .ref ww]) (I' := (zx_uI I ww 10 (-4))) (L' := L) (R' := zw_RC h sp la) rfl ?_
  refine zs_putI (ci := 2) (k := 11) (zs_at rfl) (zf_ok rfl) (bt_S hb) (Or.inl rfl) rfl (fun q => absurd q (by decide)) ?_
  refine zv_run 2 (pc' := 15) (lo' := [some (.ref ww)]) (st' := [.int (-4), .ref ww]) (I' := (zx_uI (zx_uI I ww 10 (-4)) ww 11 (-4))) (L' := L) (R' := zw_RC h sp la) rfl ?_
  refine zs_putI (ci := 2) (k := 12) (zs_at rfl) (zf_ok rfl) (bt_S hb) (Or.inl rfl) rfl (fun q => absurd q (by decide)) ?_
  refine zv_run 2 (pc' := 21) (lo' := [some (.ref ww)]) (st' := [.int (-4), .ref ww]) (I' := (zx_uI (zx_uI (zx_uI I ww 10 (-4)) ww 11 (-4)) ww 12 (-4))) (L' := L) (R' := zw_RC h sp la) rfl ?_
  refine zs_putI (ci := 2) (k := 13) (zs_at rfl) (zf_ok rfl) (bt_S hb) (Or.inl rfl) rfl (fun q => absurd q (by decide)) ?_
  exact zv_vret (zs_at rfl) rfl ⟨Nat.le_refl _, Nat.le_refl _⟩ (zw_to rfl rfl rfl rfl)
theorem ct_X2_becomeLike {d : Nat} {I : zx_I} {L : zx_L} {h sp : Nat} {la : Option Nat} {ww wl : Nat} (hb : bt ww) (hl : bt wl) (hne : wl ≠ ww) : zx_M0 mm_X2_becomeLike (d + 0) 0 0 [.ref ww, .ref wl] zw_SC I L (zw_RC h sp la) (zw_ret (none) zw_SC (fb_like I ww wl) L (zw_RC h sp la)) := by
  refine zv_entry gd_X2_becomeLike (Nat.le_of_ble_eq_true rfl) ?_
  refine zv_run 2 (pc' := 2) (lo' := [some (.ref ww), some (.ref wl)]) (st' := [.ref wl, .ref ww]) (I' := I) (L' := L) (R' := zw_RC h sp la) rfl ?_
  refine zv_get (ci := 2) (k := 1) (t := 0) (zs_at rfl) (zf_ok rfl) (bt_S hl) rfl ?_
  refine zv_run 0 (pc' := 5) (lo' := [some (.ref ww), some (.ref wl)]) (st' := [.int (I wl 1), .ref ww]) (I' := I) (L' := L) (R' := zw_RC h sp la) rfl ?_
  refine zs_putI (ci := 2) (k := 1) (zs_at rfl) (zf_ok rfl) (bt_S hb) (Or.inl rfl) rfl (fun q => absurd q (by decide)) ?_
  refine zv_run 2 (pc' := 10) (lo' := [some (.ref ww), some (.ref wl)]) (st' := [.ref wl, .ref ww]) (I' := (zx_uI I ww 1 (I wl 1))) (L' := L) (R' := zw_RC h sp la) rfl ?_
  refine zv_get (ci := 2) (k := 2) (t := 0) (zs_at rfl) (zf_ok rfl) (bt_S hl) rfl ?_
  refine zv_run 0 (pc' := 13) (lo' := [some (.ref ww), some (.ref wl)]) (st' := [.int (I wl 2), .ref ww]) (I' := (zx_uI I ww 1 (I wl 1))) (L' := L) (R' := zw_RC h sp la) (by rw [show (zx_uI I ww 1 (I wl 1)) wl 2 = I wl 2 from by simp [zx_uI, zr, zmap, hne]]; rfl) ?_
  refine zs_putI (ci := 2) (k := 2) (zs_at rfl) (zf_ok rfl) (bt_S hb) (Or.inl rfl) rfl (fun q => absurd q (by decide)) ?_
  refine zv_run 2 (pc' := 18) (lo' := [some (.ref ww), some (.ref wl)]) (st' := [.ref wl, .ref ww]) (I' := (zx_uI (zx_uI I ww 1 (I wl 1)) ww 2 (I wl 2))) (L' := L) (R' := zw_RC h sp la) rfl ?_
  refine zv_get (ci := 2) (k := 3) (t := 0) (zs_at rfl) (zf_ok rfl) (bt_S hl) rfl ?_
  refine zv_run 0 (pc' := 21) (lo' := [some (.ref ww), some (.ref wl)]) (st' := [.int (I wl 3), .ref ww]) (I' := (zx_uI (zx_uI I ww 1 (I wl 1)) ww 2 (I wl 2))) (L' := L) (R' := zw_RC h sp la) (by rw [show (zx_uI (zx_uI I ww 1 (I wl 1)) ww 2 (I wl 2)) wl 3 = I wl 3 from by simp [zx_uI, zr, zmap, hne]]; rfl) ?_
  refine zs_putI (ci := 2) (k := 3) (zs_at rfl) (zf_ok rfl) (bt_S hb) (Or.inl rfl) rfl (fun q => absurd q (by decide)) ?_
  refine zv_run 2 (pc' := 26) (lo' := [some (.ref ww), some (.ref wl)]) (st' := [.ref wl, .ref ww]) (I' := (zx_uI (zx_uI (zx_uI I ww 1 (I wl 1)) ww 2 (I wl 2)) ww 3 (I wl 3))) (L' := L) (R' := zw_RC h sp la) rfl ?_
  refine zv_get (ci := 2) (k := 4) (t := 0) (zs_at rfl) (zf_ok rfl) (bt_S hl) rfl ?_
  refine zv_run 0 (pc' := 29) (lo' := [some (.ref ww), some (.ref wl)]) (st' := [.int (I wl 4), .ref ww]) (I' := (zx_uI (zx_uI (zx_uI I ww 1 (I wl 1)) ww 2 (I wl 2)) ww 3 (I wl 3))) (L' := L) (R' := zw_RC h sp la) (by rw [show (zx_uI (zx_uI (zx_uI I ww 1 (I wl 1)) ww 2 (I wl 2)) ww 3 (I wl 3)) wl 4 = I wl 4 from by simp [zx_uI, zr, zmap, hne]]; rfl) ?_
  refine zs_putI (ci := 2) (k := 4) (zs_at rfl) (zf_ok rfl) (bt_S hb) (Or.inl rfl) rfl (fun q => absurd q (by decide)) ?_
  refine zv_run 2 (pc' := 34) (lo' := [some (.ref ww), some (.ref wl)]) (st' := [.ref wl, .ref ww]) (I' := (zx_uI (zx_uI (zx_uI (zx_uI I ww 1 (I wl 1)) ww 2 (I wl 2)) ww 3 (I wl 3)) ww 4 (I wl 4))) (L' := L) (R' := zw_RC h sp la) rfl ?_
  refine zv_get (ci := 2) (k := 5) (t := 0) (zs_at rfl) (zf_ok rfl) (bt_S hl) rfl ?_
  refine zv_run 0 (pc' := 37) (lo' := [some (.ref ww), some (.ref wl)]) (st' := [.int (I wl 5), .ref ww]) (I' := (zx_uI (zx_uI (zx_uI (zx_uI I ww 1 (I wl 1)) ww 2 (I wl 2)) ww 3 (I wl 3)) ww 4 (I wl 4))) (L' := L) (R' := zw_RC h sp la) (by rw [show (zx_uI (zx_uI (zx_uI (zx_uI I ww 1 (I wl 1)) ww 2 (I wl 2)) ww 3 (I wl 3)) ww 4 (I wl 4)) wl 5 = I wl 5 from by simp [zx_uI, zr, zmap, hne]]; rfl) ?_
  refine zs_putI (ci := 2) (k := 5) (zs_at rfl) (zf_ok rfl) (bt_S hb) (Or.inl rfl) rfl (fun q => absurd q (by decide)) ?_
  refine zv_run 2 (pc' := 42) (lo' := [some (.ref ww), some (.ref wl)]) (st' := [.ref wl, .ref ww]) (I' := (zx_uI (zx_uI (zx_uI (zx_uI (zx_uI I ww 1 (I wl 1)) ww 2 (I wl 2)) ww 3 (I wl 3)) ww 4 (I wl 4)) ww 5 (I wl 5))) (L' := L) (R' := zw_RC h sp la) rfl ?_
  refine zv_get (ci := 2) (k := 6) (t := 0) (zs_at rfl) (zf_ok rfl) (bt_S hl) rfl ?_
  refine zv_run 0 (pc' := 45) (lo' := [some (.ref ww), some (.ref wl)]) (st' := [.int (I wl 6), .ref ww]) (I' := (zx_uI (zx_uI (zx_uI (zx_uI (zx_uI I ww 1 (I wl 1)) ww 2 (I wl 2)) ww 3 (I wl 3)) ww 4 (I wl 4)) ww 5 (I wl 5))) (L' := L) (R' := zw_RC h sp la) (by rw [show (zx_uI (zx_uI (zx_uI (zx_uI (zx_uI I ww 1 (I wl 1)) ww 2 (I wl 2)) ww 3 (I wl 3)) ww 4 (I wl 4)) ww 5 (I wl 5)) wl 6 = I wl 6 from by simp [zx_uI, zr, zmap, hne]]; rfl) ?_
  refine zs_putI (ci := 2) (k := 6) (zs_at rfl) (zf_ok rfl) (bt_S hb) (Or.inl rfl) rfl (fun q => absurd q (by decide)) ?_
  refine zv_run 2 (pc' := 50) (lo' := [some (.ref ww), some (.ref wl)]) (st' := [.ref wl, .ref ww]) (I' := (zx_uI (zx_uI (zx_uI (zx_uI (zx_uI (zx_uI I ww 1 (I wl 1)) ww 2 (I wl 2)) ww 3 (I wl 3)) ww 4 (I wl 4)) ww 5 (I wl 5)) ww 6 (I wl 6))) (L' := L) (R' := zw_RC h sp la) rfl ?_
  refine zv_get (ci := 2) (k := 7) (t := 0) (zs_at rfl) (zf_ok rfl) (bt_S hl) rfl ?_
  refine zv_run 0 (pc' := 53) (lo' := [some (.ref ww), some (.ref wl)]) (st' := [.int (I wl 7), .ref ww]) (I' := (zx_uI (zx_uI (zx_uI (zx_uI (zx_uI (zx_uI I ww 1 (I wl 1)) ww 2 (I wl 2)) ww 3 (I wl 3)) ww 4 (I wl 4)) ww 5 (I wl 5)) ww 6 (I wl 6))) (L' := L) (R' := zw_RC h sp la) (by rw [show (zx_uI (zx_uI (zx_uI (zx_uI (zx_uI (zx_uI I ww 1 (I wl 1)) ww 2 (I wl 2)) ww 3 (I wl 3)) ww 4 (I wl 4)) ww 5 (I wl 5)) ww 6 (I wl 6)) wl 7 = I wl 7 from by simp [zx_uI, zr, zmap, hne]]; rfl) ?_
  refine zs_putI (ci := 2) (k := 7) (zs_at rfl) (zf_ok rfl) (bt_S hb) (Or.inl rfl) rfl (fun q => absurd q (by decide)) ?_
  refine zv_run 2 (pc' := 58) (lo' := [some (.ref ww), some (.ref wl)]) (st' := [.ref wl, .ref ww]) (I' := (zx_uI (zx_uI (zx_uI (zx_uI (zx_uI (zx_uI (zx_uI I ww 1 (I wl 1)) ww 2 (I wl 2)) ww 3 (I wl 3)) ww 4 (I wl 4)) ww 5 (I wl 5)) ww 6 (I wl 6)) ww 7 (I wl 7))) (L' := L) (R' := zw_RC h sp la) rfl ?_
  refine zv_get (ci := 2) (k := 8) (t := 0) (zs_at rfl) (zf_ok rfl) (bt_S hl) rfl ?_
  refine zv_run 0 (pc' := 61) (lo' := [some (.ref ww), some (.ref wl)]) (st' := [.int (I wl 8), .ref ww]) (I' := (zx_uI (zx_uI (zx_uI (zx_uI (zx_uI (zx_uI (zx_uI I ww 1 (I wl 1)) ww 2 (I wl 2)) ww 3 (I wl 3)) ww 4 (I wl 4)) ww 5 (I wl 5)) ww 6 (I wl 6)) ww 7 (I wl 7))) (L' := L) (R' := zw_RC h sp la) (by rw [show (zx_uI (zx_uI (zx_uI (zx_uI (zx_uI (zx_uI (zx_uI I ww 1 (I wl 1)) ww 2 (I wl 2)) ww 3 (I wl 3)) ww 4 (I wl 4)) ww 5 (I wl 5)) ww 6 (I wl 6)) ww 7 (I wl 7)) wl 8 = I wl 8 from by simp [zx_uI, zr, zmap, hne]]; rfl) ?_
  refine zs_putI (ci := 2) (k := 8) (zs_at rfl) (zf_ok rfl) (bt_S hb) (Or.inl rfl) rfl (fun q => absurd q (by decide)) ?_
  refine zv_run 2 (pc' := 66) (lo' := [some (.ref ww), some (.ref wl)]) (st' := [.ref wl, .ref ww]) (I' := (zx_uI (zx_uI (zx_uI (zx_uI (zx_uI (zx_uI (zx_uI (zx_uI I ww 1 (I wl 1)) ww 2 (I wl 2)) ww 3 (I wl 3)) ww 4 (I wl 4)) ww 5 (I wl 5)) ww 6 (I wl 6)) ww 7 (I wl 7)) ww 8 (I wl 8))) (L' := L) (R' := zw_RC h sp la) rfl ?_
  refine zv_get (ci := 2) (k := 9) (t := 0) (zs_at rfl) (zf_ok rfl) (bt_S hl) rfl ?_
  refine zv_run 0 (pc' := 69) (lo' := [some (.ref ww), some (.ref wl)]) (st' := [.int (I wl 9), .ref ww]) (I' := (zx_uI (zx_uI (zx_uI (zx_uI (zx_uI (zx_uI (zx_uI (zx_uI I ww 1 (I wl 1)) ww 2 (I wl 2)) ww 3 (I wl 3)) ww 4 (I wl 4)) ww 5 (I wl 5)) ww 6 (I wl 6)) ww 7 (I wl 7)) ww 8 (I wl 8))) (L' := L) (R' := zw_RC h sp la) (by rw [show (zx_uI (zx_uI (zx_uI (zx_uI (zx_uI (zx_uI (zx_uI (zx_uI I ww 1 (I wl 1)) ww 2 (I wl 2)) ww 3 (I wl 3)) ww 4 (I wl 4)) ww 5 (I wl 5)) ww 6 (I wl 6)) ww 7 (I wl 7)) ww 8 (I wl 8)) wl 9 = I wl 9 from by simp [zx_uI, zr, zmap, hne]]; rfl) ?_
  refine zs_putI (ci := 2) (k := 9) (zs_at rfl) (zf_ok rfl) (bt_S hb) (Or.inl rfl) rfl (fun q => absurd q (by decide)) ?_
  exact zv_vret (zs_at rfl) rfl ⟨Nat.le_refl _, Nat.le_refl _⟩ (zw_to rfl rfl rfl rfl)
theorem ct_X2_toldOf {d : Nat} {I : zx_I} {L : zx_L} {h sp : Nat} {la : Option Nat} {ww : Nat} {what : Int32} (hb : bt ww) : zx_M0 mm_X2_toldOf (d + 0) 0 0 [.ref ww, .int what] zw_SC I L (zw_RC h sp la) (zw_ret (some (.int (fb_told I ww what))) zw_SC I L (zw_RC h sp la)) := by
  refine zv_entry gd_X2_toldOf (Nat.le_of_ble_eq_true rfl) ?_
  refine zv_run 1 (pc' := 1) (lo' := [some (.ref ww), some (.int what)]) (st' := [.int what]) (I' := I) (L' := L) (R' := zw_RC h sp la) rfl ?_
  by_cases t1 : what.toInt < 0 ∨ 6 < what.toInt
  · refine zv_tableOut (tgt := 79) (zs_at rfl) t1 rfl ?_
    refine zv_run 1 (pc' := 80) (lo' := [some (.ref ww), some (.int what)]) (st' := [.ref ww]) (I' := I) (L' := L) (R' := zw_RC h sp la) rfl ?_
    refine zv_get (ci := 2) (k := 8) (t := 0) (zs_at rfl) (zf_ok rfl) (bt_S hb) rfl ?_
    refine zv_run 0 (pc' := 83) (lo' := [some (.ref ww), some (.int what)]) (st' := [.int (I ww 8)]) (I' := I) (L' := L) (R' := zw_RC h sp la) rfl ?_
    exact zv_iret (zs_at rfl) rfl ⟨Nat.le_refl _, Nat.le_refl _⟩ (zw_to (by unfold fb_told; rw [if_neg (by omega), if_neg (by omega), if_neg (by omega), if_neg (by omega), if_neg (by omega), if_neg (by omega), if_neg (by omega)]) rfl rfl rfl)
  · rcases (show what.toInt = 0 ∨ what.toInt = 1 ∨ what.toInt = 2 ∨ what.toInt = 3 ∨ what.toInt = 4 ∨ what.toInt = 5 ∨ what.toInt = 6 from by omega) with t1e | t1e | t1e | t1e | t1e | t1e | t1e
    · refine zv_tableIn (off := 43) (tgt := 44) (zs_at rfl) (by omega) (by omega) (by rw [t1e]; rfl) rfl ?_
      refine zv_run 1 (pc' := 45) (lo' := [some (.ref ww), some (.int what)]) (st' := [.ref ww]) (I' := I) (L' := L) (R' := zw_RC h sp la) rfl ?_
      refine zv_get (ci := 2) (k := 1) (t := 0) (zs_at rfl) (zf_ok rfl) (bt_S hb) rfl ?_
      refine zv_run 0 (pc' := 48) (lo' := [some (.ref ww), some (.int what)]) (st' := [.int (I ww 1)]) (I' := I) (L' := L) (R' := zw_RC h sp la) rfl ?_
      exact zv_iret (zs_at rfl) rfl ⟨Nat.le_refl _, Nat.le_refl _⟩ (zw_to (by unfold fb_told; simp [t1e]) rfl rfl rfl)
    · refine zv_tableIn (off := 48) (tgt := 49) (zs_at rfl) (by omega) (by omega) (by rw [t1e]; rfl) rfl ?_
      refine zv_run 1 (pc' := 50) (lo' := [some (.ref ww), some (.int what)]) (st' := [.ref ww]) (I' := I) (L' := L) (R' := zw_RC h sp la) rfl ?_
      refine zv_get (ci := 2) (k := 2) (t := 0) (zs_at rfl) (zf_ok rfl) (bt_S hb) rfl ?_
      refine zv_run 0 (pc' := 53) (lo' := [some (.ref ww), some (.int what)]) (st' := [.int (I ww 2)]) (I' := I) (L' := L) (R' := zw_RC h sp la) rfl ?_
      exact zv_iret (zs_at rfl) rfl ⟨Nat.le_refl _, Nat.le_refl _⟩ (zw_to (by unfold fb_told; simp [t1e]) rfl rfl rfl)
    · refine zv_tableIn (off := 53) (tgt := 54) (zs_at rfl) (by omega) (by omega) (by rw [t1e]; rfl) rfl ?_
      refine zv_run 1 (pc' := 55) (lo' := [some (.ref ww), some (.int what)]) (st' := [.ref ww]) (I' := I) (L' := L) (R' := zw_RC h sp la) rfl ?_
      refine zv_get (ci := 2) (k := 3) (t := 0) (zs_at rfl) (zf_ok rfl) (bt_S hb) rfl ?_
      refine zv_run 0 (pc' := 58) (lo' := [some (.ref ww), some (.int what)]) (st' := [.int (I ww 3)]) (I' := I) (L' := L) (R' := zw_RC h sp la) rfl ?_
      exact zv_iret (zs_at rfl) rfl ⟨Nat.le_refl _, Nat.le_refl _⟩ (zw_to (by unfold fb_told; simp [t1e]) rfl rfl rfl)
    · refine zv_tableIn (off := 58) (tgt := 59) (zs_at rfl) (by omega) (by omega) (by rw [t1e]; rfl) rfl ?_
      refine zv_run 1 (pc' := 60) (lo' := [some (.ref ww), some (.int what)]) (st' := [.ref ww]) (I' := I) (L' := L) (R' := zw_RC h sp la) rfl ?_
      refine zv_get (ci := 2) (k := 4) (t := 0) (zs_at rfl) (zf_ok rfl) (bt_S hb) rfl ?_
      refine zv_run 0 (pc' := 63) (lo' := [some (.ref ww), some (.int what)]) (st' := [.int (I ww 4)]) (I' := I) (L' := L) (R' := zw_RC h sp la) rfl ?_
      exact zv_iret (zs_at rfl) rfl ⟨Nat.le_refl _, Nat.le_refl _⟩ (zw_to (by unfold fb_told; simp [t1e]) rfl rfl rfl)
    · refine zv_tableIn (off := 63) (tgt := 64) (zs_at rfl) (by omega) (by omega) (by rw [t1e]; rfl) rfl ?_
      refine zv_run 1 (pc' := 65) (lo' := [some (.ref ww), some (.int what)]) (st' := [.ref ww]) (I' := I) (L' := L) (R' := zw_RC h sp la) rfl ?_
      refine zv_get (ci := 2) (k := 5) (t := 0) (zs_at rfl) (zf_ok rfl) (bt_S hb) rfl ?_
      refine zv_run 0 (pc' := 68) (lo' := [some (.ref ww), some (.int what)]) (st' := [.int (I ww 5)]) (I' := I) (L' := L) (R' := zw_RC h sp la) rfl ?_
      exact zv_iret (zs_at rfl) rfl ⟨Nat.le_refl _, Nat.le_refl _⟩ (zw_to (by unfold fb_told; simp [t1e]) rfl rfl rfl)
    · refine zv_tableIn (off := 68) (tgt := 69) (zs_at rfl) (by omega) (by omega) (by rw [t1e]; rfl) rfl ?_
      refine zv_run 1 (pc' := 70) (lo' := [some (.ref ww), some (.int what)]) (st' := [.ref ww]) (I' := I) (L' := L) (R' := zw_RC h sp la) rfl ?_
      refine zv_get (ci := 2) (k := 6) (t := 0) (zs_at rfl) (zf_ok rfl) (bt_S hb) rfl ?_
      refine zv_run 0 (pc' := 73) (lo' := [some (.ref ww), some (.int what)]) (st' := [.int (I ww 6)]) (I' := I) (L' := L) (R' := zw_RC h sp la) rfl ?_
      exact zv_iret (zs_at rfl) rfl ⟨Nat.le_refl _, Nat.le_refl _⟩ (zw_to (by unfold fb_told; simp [t1e]) rfl rfl rfl)
    · refine zv_tableIn (off := 73) (tgt := 74) (zs_at rfl) (by omega) (by omega) (by rw [t1e]; rfl) rfl ?_
      refine zv_run 1 (pc' := 75) (lo' := [some (.ref ww), some (.int what)]) (st' := [.ref ww]) (I' := I) (L' := L) (R' := zw_RC h sp la) rfl ?_
      refine zv_get (ci := 2) (k := 7) (t := 0) (zs_at rfl) (zf_ok rfl) (bt_S hb) rfl ?_
      refine zv_run 0 (pc' := 78) (lo' := [some (.ref ww), some (.int what)]) (st' := [.int (I ww 7)]) (I' := I) (L' := L) (R' := zw_RC h sp la) rfl ?_
      exact zv_iret (zs_at rfl) rfl ⟨Nat.le_refl _, Nat.le_refl _⟩ (zw_to (by unfold fb_told; simp [t1e]) rfl rfl rfl)
def fa_become (I : zx_I) (rule f : Int32) : zx_I := zx_uI (zx_uI (zx_uI (zcp (zx_uI (zx_uI (zx_uI I 34 0 rule) 34 1 (I 24 1)) 34 2 f) 25 35 6) 34 5 0) 34 6 0) 34 7 0
def fa_ch (I : zx_I) (a b : Int32) : zx_I := if a < 0 then I else if a ≥ 6 then I else if b < 0 then I else if b < 6 then zx_uI (zx_uI I 35 a.toNatClampNeg (I 35 b.toNatClampNeg)) 35 b.toNatClampNeg (I 35 a.toNatClampNeg) else I
def fa_place (I : zx_I) (k : Int32) : Int32 := if k < 0 then -4 else if k < 6 then I 35 k.toNatClampNeg else -4
def fa_plans (L : zx_L) (t : Int32) : Int32 := if lg_cmp (L 34 3 >>> (t.toInt64 &&& 63) &&& 1) 0 = 0 then 0 else 1
def fa_taps (I : zx_I) (t : Int32) : Int32 := if t < I 34 5 then 0 else if t ≥ I 34 5 + I 34 6 then 0 else 1
def fa_pref (I : zx_I) (w v : Nat) : Int32 := if I 34 0 ≠ 3 then (if I w 9 ≥ I v 9 then 0 else 1) else (if I w 1 ≥ I v 1 then 0 else 1)
theorem ct_X0_become {d : Nat} {I : zx_I} {L : zx_L} {h sp : Nat} {la : Option Nat} {rule f : Int32}  : zx_M0 mm_X0_become (d + 1) 0 0 [.ref 34, .int rule, .ref 24, .int f] zw_SC I L (zw_RC h sp la) (zw_ret (none) zw_SC (fa_become I rule f) (zx_uL L 34 3 (L 24 2)) (zw_RC h sp la)) := by
  refine zv_entry gd_X0_become (Nat.le_of_ble_eq_true rfl) ?_
  refine zv_run 23 (pc' := 41) (lo' := [some (.ref 34), some (.int rule), some (.ref 24), some (.int f)]) (st' := [.int 6, .int 0, .ref 35, .int 0, .ref 25]) (I' := (zx_uI (zx_uI (zx_uI I 34 0 rule) 34 1 (I 24 1)) 34 2 f)) (L' := (zx_uL L 34 3 (L 24 2))) (R' := zw_RC h sp la) rfl ?_
  refine zv_copy (a0 := 25) (a := 35) rfl zm_0_34 rfl rfl (by decide) (by decide) (by decide) (Nat.le_of_ble_eq_true rfl) ?_
  refine zv_run 0 (pc' := 44) (lo' := [some (.ref 34), some (.int rule), some (.ref 24), some (.int f)]) (st' := []) (I' := (zcp (zx_uI (zx_uI (zx_uI I 34 0 rule) 34 1 (I 24 1)) 34 2 f) 25 35 6)) (L' := (zx_uL L 34 3 (L 24 2))) (R' := zw_RC h sp la) rfl ?_
  refine zv_run 9 (pc' := 59) (lo' := [some (.ref 34), some (.int rule), some (.ref 24), some (.int f)]) (st' := []) (I' := (zx_uI (zx_uI (zx_uI (zcp (zx_uI (zx_uI (zx_uI I 34 0 rule) 34 1 (I 24 1)) 34 2 f) 25 35 6) 34 5 0) 34 6 0) 34 7 0)) (L' := (zx_uL L 34 3 (L 24 2))) (R' := zw_RC h sp la) rfl ?_
  exact zv_vret (zs_at rfl) rfl ⟨Nat.le_refl _, Nat.le_refl _⟩ (zw_to rfl rfl rfl rfl)
theorem ct_X0_copyRowTo_41 {d : Nat} {I : zx_I} {L : zx_L} {h sp : Nat} {la : Option Nat}   : zx_M0 mm_X0_copyRowTo (d + 1) 0 0 [.ref 34, .ref 41] zw_SC I L (zw_RC h sp la) (zw_ret (none) zw_SC (zcp I 35 41 6) L (zw_RC h sp la)) := by
  refine zv_entry gd_X0_copyRowTo (Nat.le_of_ble_eq_true rfl) ?_
  refine zv_run 10 (pc' := 14) (lo' := [some (.ref 34), some (.ref 41)]) (st' := [.int 6, .int 6, .int 0, .ref 41, .int 0, .ref 35]) (I' := I) (L' := L) (R' := zw_RC h sp la) rfl ?_
  refine zv_min rfl zm_0_49 (Nat.le_of_ble_eq_true rfl) ⟨Nat.le_refl _, Nat.le_refl _⟩ ?_
  refine zv_run 0 (pc' := 17) (lo' := [some (.ref 34), some (.ref 41)]) (st' := [.int 6, .int 0, .ref 41, .int 0, .ref 35]) (I' := I) (L' := L) (R' := zw_RC h sp la) rfl ?_
  refine zv_copy (a0 := 35) (a := 41) rfl zm_0_34 rfl rfl (by decide) (by decide) (by decide) (Nat.le_of_ble_eq_true rfl) ?_
  refine zv_run 0 (pc' := 20) (lo' := [some (.ref 34), some (.ref 41)]) (st' := []) (I' := (zcp I 35 41 6)) (L' := L) (R' := zw_RC h sp la) rfl ?_
  exact zv_vret (zs_at rfl) rfl ⟨Nat.le_refl _, Nat.le_refl _⟩ (zw_to rfl rfl rfl rfl)
theorem ct_X0_copyRowTo_25 {d : Nat} {I : zx_I} {L : zx_L} {h sp : Nat} {la : Option Nat}   : zx_M0 mm_X0_copyRowTo (d + 1) 0 0 [.ref 34, .ref 25] zw_SC I L (zw_RC h sp la) (zw_ret (none) zw_SC (zcp I 35 25 6) L (zw_RC h sp la)) := by
  refine zv_entry gd_X0_copyRowTo (Nat.le_of_ble_eq_true rfl) ?_
  refine zv_run 10 (pc' := 14) (lo' := [some (.ref 34), some (.ref 25)]) (st' := [.int 6, .int 6, .int 0, .ref 25, .int 0, .ref 35]) (I' := I) (L' := L) (R' := zw_RC h sp la) rfl ?_
  refine zv_min rfl zm_0_49 (Nat.le_of_ble_eq_true rfl) ⟨Nat.le_refl _, Nat.le_refl _⟩ ?_
  refine zv_run 0 (pc' := 17) (lo' := [some (.ref 34), some (.ref 25)]) (st' := [.int 6, .int 0, .ref 25, .int 0, .ref 35]) (I' := I) (L' := L) (R' := zw_RC h sp la) rfl ?_
  refine zv_copy (a0 := 35) (a := 25) rfl zm_0_34 rfl rfl (by decide) (by decide) (by decide) (Nat.le_of_ble_eq_true rfl) ?_
  refine zv_run 0 (pc' := 20) (lo' := [some (.ref 34), some (.ref 25)]) (st' := []) (I' := (zcp I 35 25 6)) (L' := L) (R' := zw_RC h sp la) rfl ?_
  exact zv_vret (zs_at rfl) rfl ⟨Nat.le_refl _, Nat.le_refl _⟩ (zw_to rfl rfl rfl rfl)
theorem ct_X0_changePlaces {d : Nat} {I : zx_I} {L : zx_L} {h sp : Nat} {la : Option Nat} {a b : Int32}  : zx_M0 mm_X0_changePlaces (d + 0) 0 0 [.ref 34, .int a, .int b] zw_SC I L (zw_RC h sp la) (zw_ret (none) zw_SC (fa_ch I a b) L (zw_RC h sp la)) := by
  refine zv_entry gd_X0_changePlaces (Nat.le_of_ble_eq_true rfl) ?_
  refine zv_run 1 (pc' := 1) (lo' := [some (.ref 34), some (.int a), some (.int b), none]) (st' := [.int a]) (I' := I) (L' := L) (R' := zw_RC h sp la) rfl ?_
  refine zv_if_lt (tgt := 26) (zs_at rfl) (by decide) (fun c1 => ?_) (fun c1 => ?_)
  · have _c := c1
    exact zv_vret (zs_at rfl) rfl ⟨Nat.le_refl _, Nat.le_refl _⟩ (zw_to rfl (by simp [fa_ch, Int32.not_le, Int32.not_lt, *]) rfl rfl)
  · have _c := c1
    refine zv_run 4 (pc' := 10) (lo' := [some (.ref 34), some (.int a), some (.int b), none]) (st' := [.int 6, .int a]) (I' := I) (L' := L) (R' := zw_RC h sp la) rfl ?_
    refine zv_icmp_ge (tgt := 26) (zs_at rfl) (by decide) (fun c10 => ?_) (fun c10 => ?_)
    · have _c := c10
      exact zv_vret (zs_at rfl) rfl ⟨Nat.le_refl _, Nat.le_refl _⟩ (zw_to rfl (by simp [fa_ch, Int32.not_le, Int32.not_lt, *]) rfl rfl)
    · have _c := c10
      refine zv_run 1 (pc' := 14) (lo' := [some (.ref 34), some (.int a), some (.int b), none]) (st' := [.int b]) (I' := I) (L' := L) (R' := zw_RC h sp la) rfl ?_
      refine zv_if_lt (tgt := 26) (zs_at rfl) (by decide) (fun c14 => ?_) (fun c14 => ?_)
      · have _c := c14
        exact zv_vret (zs_at rfl) rfl ⟨Nat.le_refl _, Nat.le_refl _⟩ (zw_to rfl (by simp [fa_ch, Int32.not_le, Int32.not_lt, *]) rfl rfl)
      · have _c := c14
        refine zv_run 4 (pc' := 23) (lo' := [some (.ref 34), some (.int a), some (.int b), none]) (st' := [.int 6, .int b]) (I' := I) (L' := L) (R' := zw_RC h sp la) rfl ?_
        refine zv_icmp_lt (tgt := 27) (zs_at rfl) (by decide) (fun c23 => ?_) (fun c23 => ?_)
        · have _c := c23
          refine zv_run 3 (pc' := 32) (lo' := [some (.ref 34), some (.int a), some (.int b), none]) (st' := [.int a, .ref 35]) (I' := I) (L' := L) (R' := zw_RC h sp la) rfl ?_
          refine zv_iald (zs_at rfl) rfl (zin c1 (zge c10) (by decide)) ?_
          refine zv_run 7 (pc' := 44) (lo' := [some (.ref 34), some (.int a), some (.int b), some (.int (I 35 a.toNatClampNeg))]) (st' := [.int b, .ref 35, .int a, .ref 35]) (I' := I) (L' := L) (R' := zw_RC h sp la) rfl ?_
          refine zv_iald (zs_at rfl) rfl (zin c14 c23 (by decide)) ?_
          refine zv_iast (zs_at rfl) rfl (zin c1 (zge c10) (by decide)) ?_
          refine zv_run 4 (pc' := 52) (lo' := [some (.ref 34), some (.int a), some (.int b), some (.int (I 35 a.toNatClampNeg))]) (st' := [.int (I 35 a.toNatClampNeg), .int b, .ref 35]) (I' := (zx_uI I 35 a.toNatClampNeg (I 35 b.toNatClampNeg))) (L' := L) (R' := zw_RC h sp la) rfl ?_
          refine zv_iast (zs_at rfl) rfl (zin c14 c23 (by decide)) ?_
          exact zv_vret (zs_at rfl) rfl ⟨Nat.le_refl _, Nat.le_refl _⟩ (zw_to rfl (by simp [fa_ch, Int32.not_le, Int32.not_lt, *]) rfl rfl)
        · have _c := c23
          exact zv_vret (zs_at rfl) rfl ⟨Nat.le_refl _, Nat.le_refl _⟩ (zw_to rfl (by simp [fa_ch, Int32.not_le, Int32.not_lt, *]) rfl rfl)
theorem ct_X0_placeInRow {d : Nat} {I : zx_I} {L : zx_L} {h sp : Nat} {la : Option Nat} {k : Int32}  : zx_M0 mm_X0_placeInRow (d + 0) 0 0 [.ref 34, .int k] zw_SC I L (zw_RC h sp la) (zw_ret (some (.int (fa_place I k))) zw_SC I L (zw_RC h sp la)) := by
  refine zv_entry gd_X0_placeInRow (Nat.le_of_ble_eq_true rfl) ?_
  refine zv_run 1 (pc' := 1) (lo' := [some (.ref 34), some (.int k)]) (st' := [.int k]) (I' := I) (L' := L) (R' := zw_RC h sp la) rfl ?_
  refine zv_if_lt (tgt := 13) (zs_at rfl) (by decide) (fun c1 => ?_) (fun c1 => ?_)
  · have _c := c1
    refine zv_run 2 (pc' := 24) (lo' := [some (.ref 34), some (.int k)]) (st' := [.int (-4)]) (I' := I) (L' := L) (R' := zw_RC h sp la) rfl ?_
    exact zv_iret (zs_at rfl) rfl ⟨Nat.le_refl _, Nat.le_refl _⟩ (zw_to (by simp [fa_place, *]) rfl rfl rfl)
  · have _c := c1
    refine zv_run 4 (pc' := 10) (lo' := [some (.ref 34), some (.int k)]) (st' := [.int 6, .int k]) (I' := I) (L' := L) (R' := zw_RC h sp la) rfl ?_
    refine zv_icmp_lt (tgt := 18) (zs_at rfl) (by decide) (fun c10 => ?_) (fun c10 => ?_)
    · have _c := c10
      refine zv_run 3 (pc' := 23) (lo' := [some (.ref 34), some (.int k)]) (st' := [.int k, .ref 35]) (I' := I) (L' := L) (R' := zw_RC h sp la) rfl ?_
      refine zv_iald (zs_at rfl) rfl (zin c1 c10 (by decide)) ?_
      exact zv_iret (zs_at rfl) rfl ⟨Nat.le_refl _, Nat.le_refl _⟩ (zw_to (by simp [fa_place, *]) rfl rfl rfl)
    · have _c := c10
      refine zv_run 2 (pc' := 24) (lo' := [some (.ref 34), some (.int k)]) (st' := [.int (-4)]) (I' := I) (L' := L) (R' := zw_RC h sp la) rfl ?_
      exact zv_iret (zs_at rfl) rfl ⟨Nat.le_refl _, Nat.le_refl _⟩ (zw_to (by simp [fa_place, *]) rfl rfl rfl)
theorem ct_X0_plansFor {d : Nat} {I : zx_I} {L : zx_L} {h sp : Nat} {la : Option Nat} {t : Int32}  : zx_M0 mm_X0_plansFor (d + 0) 0 0 [.ref 34, .int t] zw_SC I L (zw_RC h sp la) (zw_ret (some (.int (fa_plans L t))) zw_SC I L (zw_RC h sp la)) := by
  refine zv_entry gd_X0_plansFor (Nat.le_of_ble_eq_true rfl) ?_
  refine zv_run 8 (pc' := 10) (lo' := [some (.ref 34), some (.int t)]) (st' := [.int (lg_cmp (((L 34 3) >>> (t.toInt64 &&& 63)) &&& (1 : Int64)) (0 : Int64))]) (I' := I) (L' := L) (R' := zw_RC h sp la) rfl ?_
  refine zv_if_eq (tgt := 17) (zs_at rfl) (by decide) (fun c10 => ?_) (fun c10 => ?_)
  · have _c := c10
    refine zv_run 1 (pc' := 18) (lo' := [some (.ref 34), some (.int t)]) (st' := [.int 0]) (I' := I) (L' := L) (R' := zw_RC h sp la) rfl ?_
    exact zv_zret (zs_at rfl) rfl (Or.inl rfl) ⟨Nat.le_refl _, Nat.le_refl _⟩ (zw_to (by simp [fa_plans, *]) rfl rfl rfl)
  · have _c := c10
    refine zv_run 2 (pc' := 18) (lo' := [some (.ref 34), some (.int t)]) (st' := [.int 1]) (I' := I) (L' := L) (R' := zw_RC h sp la) rfl ?_
    exact zv_zret (zs_at rfl) rfl (Or.inr rfl) ⟨Nat.le_refl _, Nat.le_refl _⟩ (zw_to (by simp [fa_plans, *]) rfl rfl rfl)
theorem ct_X0_tapsAt {d : Nat} {I : zx_I} {L : zx_L} {h sp : Nat} {la : Option Nat} {t : Int32}  : zx_M0 mm_X0_tapsAt (d + 0) 0 0 [.ref 34, .int t] zw_SC I L (zw_RC h sp la) (zw_ret (some (.int (fa_taps I t))) zw_SC I L (zw_RC h sp la)) := by
  refine zv_entry gd_X0_tapsAt (Nat.le_of_ble_eq_true rfl) ?_
  refine zv_run 3 (pc' := 5) (lo' := [some (.ref 34), some (.int t)]) (st' := [.int (I 34 5), .int t]) (I' := I) (L' := L) (R' := zw_RC h sp la) rfl ?_
  refine zv_icmp_lt (tgt := 25) (zs_at rfl) (by decide) (fun c5 => ?_) (fun c5 => ?_)
  · have _c := c5
    refine zv_run 1 (pc' := 26) (lo' := [some (.ref 34), some (.int t)]) (st' := [.int 0]) (I' := I) (L' := L) (R' := zw_RC h sp la) rfl ?_
    exact zv_zret (zs_at rfl) rfl (Or.inl rfl) ⟨Nat.le_refl _, Nat.le_refl _⟩ (zw_to (by simp [fa_taps, *]) rfl rfl rfl)
  · have _c := c5
    refine zv_run 6 (pc' := 18) (lo' := [some (.ref 34), some (.int t)]) (st' := [.int ((I 34 5) + (I 34 6)), .int t]) (I' := I) (L' := L) (R' := zw_RC h sp la) rfl ?_
    refine zv_icmp_ge (tgt := 25) (zs_at rfl) (by decide) (fun c18 => ?_) (fun c18 => ?_)
    · have _c := c18
      refine zv_run 1 (pc' := 26) (lo' := [some (.ref 34), some (.int t)]) (st' := [.int 0]) (I' := I) (L' := L) (R' := zw_RC h sp la) rfl ?_
      exact zv_zret (zs_at rfl) rfl (Or.inl rfl) ⟨Nat.le_refl _, Nat.le_refl _⟩ (zw_to (by simp [fa_taps, *]) rfl rfl rfl)
    · have _c := c18
      refine zv_run 2 (pc' := 26) (lo' := [some (.ref 34), some (.int t)]) (st' := [.int 1]) (I' := I) (L' := L) (R' := zw_RC h sp la) rfl ?_
      exact zv_zret (zs_at rfl) rfl (Or.inr rfl) ⟨Nat.le_refl _, Nat.le_refl _⟩ (zw_to (by simp [fa_taps, *]) rfl rfl rfl)
theorem ct_X0_prefers {d : Nat} {I : zx_I} {L : zx_L} {h sp : Nat} {la : Option Nat} {ww wl : Nat} (hb : bt ww) (hl : bt wl) : zx_M0 mm_X0_prefers (d + 0) 0 0 [.ref 34, .ref ww, .ref wl] zw_SC I L (zw_RC h sp la) (zw_ret (some (.int (fa_pref I ww wl))) zw_SC I L (zw_RC h sp la)) := by
  refine zv_entry gd_X0_prefers (Nat.le_of_ble_eq_true rfl) ?_
  refine zv_run 3 (pc' := 5) (lo' := [some (.ref 34), some (.ref ww), some (.ref wl)]) (st' := [.int 3, .int (I 34 0)]) (I' := I) (L' := L) (R' := zw_RC h sp la) rfl ?_
  refine zv_icmp_ne (tgt := 27) (zs_at rfl) (by decide) (fun c5 => ?_) (fun c5 => ?_)
  · have _c := c5
    refine zv_run 1 (pc' := 28) (lo' := [some (.ref 34), some (.ref ww), some (.ref wl)]) (st' := [.ref ww]) (I' := I) (L' := L) (R' := zw_RC h sp la) rfl ?_
    refine zv_get (ci := 2) (k := 9) (t := 0) (zs_at rfl) (zf_ok rfl) (bt_S hb) rfl ?_
    refine zv_run 0 (pc' := 31) (lo' := [some (.ref 34), some (.ref ww), some (.ref wl)]) (st' := [.int (I ww 9)]) (I' := I) (L' := L) (R' := zw_RC h sp la) rfl ?_
    refine zv_run 1 (pc' := 32) (lo' := [some (.ref 34), some (.ref ww), some (.ref wl)]) (st' := [.ref wl, .int (I ww 9)]) (I' := I) (L' := L) (R' := zw_RC h sp la) rfl ?_
    refine zv_get (ci := 2) (k := 9) (t := 0) (zs_at rfl) (zf_ok rfl) (bt_S hl) rfl ?_
    refine zv_run 0 (pc' := 35) (lo' := [some (.ref 34), some (.ref ww), some (.ref wl)]) (st' := [.int (I wl 9), .int (I ww 9)]) (I' := I) (L' := L) (R' := zw_RC h sp la) rfl ?_
    refine zv_icmp_ge (tgt := 42) (zs_at rfl) (by decide) (fun c35 => ?_) (fun c35 => ?_)
    · have _c := c35
      refine zv_run 1 (pc' := 43) (lo' := [some (.ref 34), some (.ref ww), some (.ref wl)]) (st' := [.int 0]) (I' := I) (L' := L) (R' := zw_RC h sp la) rfl ?_
      exact zv_zret (zs_at rfl) rfl (Or.inl rfl) ⟨Nat.le_refl _, Nat.le_refl _⟩ (zw_to (by simp [fa_pref, *]) rfl rfl rfl)
    · have _c := c35
      refine zv_run 2 (pc' := 43) (lo' := [some (.ref 34), some (.ref ww), some (.ref wl)]) (st' := [.int 1]) (I' := I) (L' := L) (R' := zw_RC h sp la) rfl ?_
      exact zv_zret (zs_at rfl) rfl (Or.inr rfl) ⟨Nat.le_refl _, Nat.le_refl _⟩ (zw_to (by simp [fa_pref, *]) rfl rfl rfl)
  · have _c := c5
    refine zv_run 1 (pc' := 9) (lo' := [some (.ref 34), some (.ref ww), some (.ref wl)]) (st' := [.ref ww]) (I' := I) (L' := L) (R' := zw_RC h sp la) rfl ?_
    refine zv_get (ci := 2) (k := 1) (t := 0) (zs_at rfl) (zf_ok rfl) (bt_S hb) rfl ?_
    refine zv_run 0 (pc' := 12) (lo' := [some (.ref 34), some (.ref ww), some (.ref wl)]) (st' := [.int (I ww 1)]) (I' := I) (L' := L) (R' := zw_RC h sp la) rfl ?_
    refine zv_run 1 (pc' := 13) (lo' := [some (.ref 34), some (.ref ww), some (.ref wl)]) (st' := [.ref wl, .int (I ww 1)]) (I' := I) (L' := L) (R' := zw_RC h sp la) rfl ?_
    refine zv_get (ci := 2) (k := 1) (t := 0) (zs_at rfl) (zf_ok rfl) (bt_S hl) rfl ?_
    refine zv_run 0 (pc' := 16) (lo' := [some (.ref 34), some (.ref ww), some (.ref wl)]) (st' := [.int (I wl 1), .int (I ww 1)]) (I' := I) (L' := L) (R' := zw_RC h sp la) rfl ?_
    refine zv_icmp_ge (tgt := 23) (zs_at rfl) (by decide) (fun c16 => ?_) (fun c16 => ?_)
    · have _c := c16
      refine zv_run 2 (pc' := 43) (lo' := [some (.ref 34), some (.ref ww), some (.ref wl)]) (st' := [.int 0]) (I' := I) (L' := L) (R' := zw_RC h sp la) rfl ?_
      exact zv_zret (zs_at rfl) rfl (Or.inl rfl) ⟨Nat.le_refl _, Nat.le_refl _⟩ (zw_to (by simp [fa_pref, *]) rfl rfl rfl)
    · have _c := c16
      refine zv_run 2 (pc' := 43) (lo' := [some (.ref 34), some (.ref ww), some (.ref wl)]) (st' := [.int 1]) (I' := I) (L' := L) (R' := zw_RC h sp la) rfl ?_
      exact zv_zret (zs_at rfl) rfl (Or.inr rfl) ⟨Nat.le_refl _, Nat.le_refl _⟩ (zw_to (by simp [fa_pref, *]) rfl rfl rfl)
