/-! the evening -/
theorem rc_last {h sp : Nat} {la x : Option Nat} : zx_uR (zw_RC h sp la) 36 4 x = zw_RC h sp x := by
  funext a k
  unfold zx_uR
  by_cases ha : a = 36
  · subst ha
    rw [if_pos rfl]
    match k with
    | 0 => rfl
    | 1 => rfl
    | 2 => rfl
    | 3 => rfl
    | 4 => rfl
    | k + 5 => rfl
  · rw [if_neg ha]
    unfold zw_RC
    by_cases hl : a < 42
    · match a, hl, ha with
      | 0, _, _ => rfl
      | 1, _, _ => rfl
      | 2, _, _ => rfl
      | 3, _, _ => rfl
      | 4, _, _ => rfl
      | 5, _, _ => rfl
      | 6, _, _ => rfl
      | 7, _, _ => rfl
      | 8, _, _ => rfl
      | 9, _, _ => rfl
      | 10, _, _ => rfl
      | 11, _, _ => rfl
      | 12, _, _ => rfl
      | 13, _, _ => rfl
      | 14, _, _ => rfl
      | 15, _, _ => rfl
      | 16, _, _ => rfl
      | 17, _, _ => rfl
      | 18, _, _ => rfl
      | 19, _, _ => rfl
      | 20, _, _ => rfl
      | 21, _, _ => rfl
      | 22, _, _ => rfl
      | 23, _, _ => rfl
      | 24, _, _ => rfl
      | 25, _, _ => rfl
      | 26, _, _ => rfl
      | 27, _, _ => rfl
      | 28, _, _ => rfl
      | 29, _, _ => rfl
      | 30, _, _ => rfl
      | 31, _, _ => rfl
      | 32, _, _ => rfl
      | 33, _, _ => rfl
      | 34, _, _ => rfl
      | 35, _, _ => rfl
      | 36, _, h9 => exact absurd rfl h9
      | 37, _, _ => rfl
      | 38, _, _ => rfl
      | 39, _, _ => rfl
      | 40, _, _ => rfl
      | 41, _, _ => rfl
      | n + 42, h9, _ => exact absurd h9 (by omega)
    · have e1 : ∀ z : Option Nat, (zw_RT h sp z).getD a [] = [] := fun z => by
        rw [List.getD_eq_getElem?_getD, List.getElem?_eq_none (show (zw_RT h sp z).length ≤ a by show 38 ≤ a; omega)]; rfl
      rw [e1, e1]
def rs_loop (b : Nat) : Nat → Nat → zx_I → zx_I
  | 0, _, J => J
  | n + 1, j, J => rs_loop b n (j + 1) (fb_reset J (b + j))
def fe_own (I : zx_I) : zx_I := zx_uI (zx_uI (zx_uI (zx_uI I 36 3 0) 36 5 0) 36 6 0) 36 7 0
def fe_begin (I : zx_I) (a : Nat) (f : Int32) : zx_I := rs_loop (a + 4) 6 0 (fe_own (ff_begin (ft_fill I a) f))
theorem lp_X3_begin_4 {d : Nat} {L : zx_L} {h sp : Nat} {f : Int32} : ∀ (n j : Nat) (J : zx_I) (x6 : Option Value), j + n = 6 → zx_V mm_X3_begin (d + 2) z0 (zw_ret none zw_SC (rs_loop 8 n j J) L (zw_RC h sp none)) zw_SC 53 [some (.ref 36), some (.ref 4), some (.int f), some (.ref 7), some (.int 6), some (.int (nI j)), x6] [] J L (zw_RC h sp none) := by
  intro n
  induction n with
  | zero =>
    intro j J x6 hm
    refine zv_run 2 (pc' := 57) (lo' := [some (.ref 36), some (.ref 4), some (.int f), some (.ref 7), some (.int 6), some (.int (nI j)), x6]) (st' := [.int 6, .int (nI j)]) (I' := J) (L' := L) (R' := zw_RC h sp none) rfl ?_
    refine zv_icmp_ge (tgt := 77) (zs_at rfl) (by decide) (fun c57 => ?_) (fun c57 => ?_)
    · have _c := c57
      exact zv_vret (zs_at rfl) rfl ⟨Nat.le_refl _, Nat.le_refl _⟩ (zw_to rfl rfl rfl rfl)
    · exact absurd (by rw [show j = 6 by omega]; exact (by decide)) c57
  | succ n ih =>
    intro j J x6 hm
    refine zv_run 2 (pc' := 57) (lo' := [some (.ref 36), some (.ref 4), some (.int f), some (.ref 7), some (.int 6), some (.int (nI j)), x6]) (st' := [.int 6, .int (nI j)]) (I' := J) (L' := L) (R' := zw_RC h sp none) rfl ?_
    refine zv_icmp_ge (tgt := 77) (zs_at rfl) (by decide) (fun c57 => ?_) (fun c57 => ?_)
    · exact absurd c57 (by exact nI_ge (a := j) (b := 6) (by omega) (by decide))
    · have _c := c57
      refine zv_run 2 (pc' := 63) (lo' := [some (.ref 36), some (.ref 4), some (.int f), some (.ref 7), some (.int 6), some (.int (nI j)), x6]) (st' := [.int (nI j), .ref 7]) (I' := J) (L' := L) (R' := zw_RC h sp none) rfl ?_
      refine zv_aald (zs_at rfl) rfl (Or.inl rfl) (vp_in_nI (by omega) (by decide)) ?_
      refine zv_run 0 (pc' := 64) (lo' := [some (.ref 36), some (.ref 4), some (.int f), some (.ref 7), some (.int 6), some (.int (nI j)), x6]) (st' := [.ref (8 + j)]) (I' := J) (L' := L) (R' := zw_RC h sp none) (by rw [nI_clamp (by omega), rc_7 (by omega)]; rfl) ?_
      refine zv_run 2 (pc' := 68) (lo' := [some (.ref 36), some (.ref 4), some (.int f), some (.ref 7), some (.int 6), some (.int (nI j)), some (.ref (8 + j))]) (st' := [.ref (8 + j)]) (I' := J) (L' := L) (R' := zw_RC h sp none) rfl ?_
      refine zv_cV (M' := mm_X2_isNotInYet) (ci := 2) (a := (8 + j)) (av := []) (st := []) (r := none) (I' := (fb_reset J (8 + j))) (L' := L) (R' := zw_RC h sp none) rfl zc_3_127 gd_X2_isNotInYet (bt_S (by unfold bt; omega)) rfl rfl (Nat.le_of_ble_eq_true rfl) (ct_X2_isNotInYet (d := _) (by unfold bt; omega)) ⟨Nat.le_refl _, Nat.le_refl _⟩ ?_
      refine zv_run 0 (pc' := 71) (lo' := [some (.ref 36), some (.ref 4), some (.int f), some (.ref 7), some (.int 6), some (.int (nI j)), some (.ref (8 + j))]) (st' := []) (I' := (fb_reset J (8 + j))) (L' := L) (R' := zw_RC h sp none) rfl ?_
      refine zv_run 2 (pc' := 53) (lo' := [some (.ref 36), some (.ref 4), some (.int f), some (.ref 7), some (.int 6), some (.int ((nI j) + 1)), some (.ref (8 + j))]) (st' := []) (I' := (fb_reset J (8 + j))) (L' := L) (R' := zw_RC h sp none) rfl ?_
      rw [← nI_succ]
      exact ih (j + 1) _ _ (by omega)
theorem lp_X3_begin_14 {d : Nat} {L : zx_L} {h sp : Nat} {f : Int32} : ∀ (n j : Nat) (J : zx_I) (x6 : Option Value), j + n = 6 → zx_V mm_X3_begin (d + 2) z0 (zw_ret none zw_SC (rs_loop 18 n j J) L (zw_RC h sp none)) zw_SC 53 [some (.ref 36), some (.ref 14), some (.int f), some (.ref 17), some (.int 6), some (.int (nI j)), x6] [] J L (zw_RC h sp none) := by
  intro n
  induction n with
  | zero =>
    intro j J x6 hm
    refine zv_run 2 (pc' := 57) (lo' := [some (.ref 36), some (.ref 14), some (.int f), some (.ref 17), some (.int 6), some (.int (nI j)), x6]) (st' := [.int 6, .int (nI j)]) (I' := J) (L' := L) (R' := zw_RC h sp none) rfl ?_
    refine zv_icmp_ge (tgt := 77) (zs_at rfl) (by decide) (fun c57 => ?_) (fun c57 => ?_)
    · have _c := c57
      exact zv_vret (zs_at rfl) rfl ⟨Nat.le_refl _, Nat.le_refl _⟩ (zw_to rfl rfl rfl rfl)
    · exact absurd (by rw [show j = 6 by omega]; exact (by decide)) c57
  | succ n ih =>
    intro j J x6 hm
    refine zv_run 2 (pc' := 57) (lo' := [some (.ref 36), some (.ref 14), some (.int f), some (.ref 17), some (.int 6), some (.int (nI j)), x6]) (st' := [.int 6, .int (nI j)]) (I' := J) (L' := L) (R' := zw_RC h sp none) rfl ?_
    refine zv_icmp_ge (tgt := 77) (zs_at rfl) (by decide) (fun c57 => ?_) (fun c57 => ?_)
    · exact absurd c57 (by exact nI_ge (a := j) (b := 6) (by omega) (by decide))
    · have _c := c57
      refine zv_run 2 (pc' := 63) (lo' := [some (.ref 36), some (.ref 14), some (.int f), some (.ref 17), some (.int 6), some (.int (nI j)), x6]) (st' := [.int (nI j), .ref 17]) (I' := J) (L' := L) (R' := zw_RC h sp none) rfl ?_
      refine zv_aald (zs_at rfl) rfl (Or.inl rfl) (vp_in_nI (by omega) (by decide)) ?_
      refine zv_run 0 (pc' := 64) (lo' := [some (.ref 36), some (.ref 14), some (.int f), some (.ref 17), some (.int 6), some (.int (nI j)), x6]) (st' := [.ref (18 + j)]) (I' := J) (L' := L) (R' := zw_RC h sp none) (by rw [nI_clamp (by omega), rc_17 (by omega)]; rfl) ?_
      refine zv_run 2 (pc' := 68) (lo' := [some (.ref 36), some (.ref 14), some (.int f), some (.ref 17), some (.int 6), some (.int (nI j)), some (.ref (18 + j))]) (st' := [.ref (18 + j)]) (I' := J) (L' := L) (R' := zw_RC h sp none) rfl ?_
      refine zv_cV (M' := mm_X2_isNotInYet) (ci := 2) (a := (18 + j)) (av := []) (st := []) (r := none) (I' := (fb_reset J (18 + j))) (L' := L) (R' := zw_RC h sp none) rfl zc_3_127 gd_X2_isNotInYet (bt_S (by unfold bt; omega)) rfl rfl (Nat.le_of_ble_eq_true rfl) (ct_X2_isNotInYet (d := _) (by unfold bt; omega)) ⟨Nat.le_refl _, Nat.le_refl _⟩ ?_
      refine zv_run 0 (pc' := 71) (lo' := [some (.ref 36), some (.ref 14), some (.int f), some (.ref 17), some (.int 6), some (.int (nI j)), some (.ref (18 + j))]) (st' := []) (I' := (fb_reset J (18 + j))) (L' := L) (R' := zw_RC h sp none) rfl ?_
      refine zv_run 2 (pc' := 53) (lo' := [some (.ref 36), some (.ref 14), some (.int f), some (.ref 17), some (.int 6), some (.int ((nI j) + 1)), some (.ref (18 + j))]) (st' := []) (I' := (fb_reset J (18 + j))) (L' := L) (R' := zw_RC h sp none) rfl ?_
      rw [← nI_succ]
      exact ih (j + 1) _ _ (by omega)
theorem ct_X3_begin {d : Nat} {I : zx_I} {L : zx_L} {h sp : Nat} {la : Option Nat} {a : Nat} {f : Int32} (ha : a = 4 ∨ a = 14) (hH : hs_tk I a) : zx_M0 mm_X3_begin (d + 2) 0 0 [.ref 36, .ref a, .int f] zw_SC I L (zw_RC h sp la) (zw_ret none zw_SC (fe_begin I a f) L (zw_RC h sp none)) := by
  rcases ha with rfl | rfl
  · refine zv_entry gd_X3_begin (Nat.le_of_ble_eq_true rfl) ?_
    refine zv_run 3 (pc' := 5) (lo' := [some (.ref 36), some (.ref 4), some (.int f), none, none, none, none]) (st' := [.ref 4, .ref 37]) (I' := I) (L' := L) (R' := zw_RC h sp la) rfl ?_
    refine zv_cV (M' := mm_X7_fill) (ci := 7) (a := 37) (av := [.ref 4]) (st := []) (r := none) (I' := (ft_fill I 4)) (L' := L) (R' := zw_RC h sp la) rfl zc_3_108 gd_X7_fill rfl rfl rfl (Nat.le_of_ble_eq_true rfl) (ct_X7_fill (d := _) (Or.inl rfl) hH) ⟨Nat.le_refl _, Nat.le_refl _⟩ ?_
    refine zv_run 0 (pc' := 8) (lo' := [some (.ref 36), some (.ref 4), some (.int f), none, none, none, none]) (st' := []) (I' := (ft_fill I 4)) (L' := L) (R' := zw_RC h sp la) rfl ?_
    refine zv_run 3 (pc' := 13) (lo' := [some (.ref 36), some (.ref 4), some (.int f), none, none, none, none]) (st' := [.int f, .ref 39]) (I' := (ft_fill I 4)) (L' := L) (R' := zw_RC h sp la) rfl ?_
    refine zv_cV (M' := mm_X4_begin) (ci := 4) (a := 39) (av := [.int f]) (st := []) (r := none) (I' := (ff_begin (ft_fill I 4) f)) (L' := L) (R' := zw_RC h sp la) rfl zc_3_111 gd_X4_begin rfl rfl rfl (Nat.le_of_ble_eq_true rfl) (ct_X4_begin (d := _)) ⟨Nat.le_refl _, Nat.le_refl _⟩ ?_
    refine zv_run 0 (pc' := 16) (lo' := [some (.ref 36), some (.ref 4), some (.int f), none, none, none, none]) (st' := []) (I' := (ff_begin (ft_fill I 4) f)) (L' := L) (R' := zw_RC h sp la) rfl ?_
    refine zv_run 23 (pc' := 53) (lo' := [some (.ref 36), some (.ref 4), some (.int f), some (.ref 7), some (.int 6), some (.int 0), none]) (st' := []) (I' := (zx_uI (zx_uI (zx_uI (zx_uI (ff_begin (ft_fill I 4) f) 36 3 0) 36 5 0) 36 6 0) 36 7 0)) (L' := L) (R' := (zx_uR (zw_RC h sp la) 36 4 none)) rfl ?_
    rw [rc_last]
    exact lp_X3_begin_4 6 0 _ none (by omega)
  · refine zv_entry gd_X3_begin (Nat.le_of_ble_eq_true rfl) ?_
    refine zv_run 3 (pc' := 5) (lo' := [some (.ref 36), some (.ref 14), some (.int f), none, none, none, none]) (st' := [.ref 14, .ref 37]) (I' := I) (L' := L) (R' := zw_RC h sp la) rfl ?_
    refine zv_cV (M' := mm_X7_fill) (ci := 7) (a := 37) (av := [.ref 14]) (st := []) (r := none) (I' := (ft_fill I 14)) (L' := L) (R' := zw_RC h sp la) rfl zc_3_108 gd_X7_fill rfl rfl rfl (Nat.le_of_ble_eq_true rfl) (ct_X7_fill (d := _) (Or.inr rfl) hH) ⟨Nat.le_refl _, Nat.le_refl _⟩ ?_
    refine zv_run 0 (pc' := 8) (lo' := [some (.ref 36), some (.ref 14), some (.int f), none, none, none, none]) (st' := []) (I' := (ft_fill I 14)) (L' := L) (R' := zw_RC h sp la) rfl ?_
    refine zv_run 3 (pc' := 13) (lo' := [some (.ref 36), some (.ref 14), some (.int f), none, none, none, none]) (st' := [.int f, .ref 39]) (I' := (ft_fill I 14)) (L' := L) (R' := zw_RC h sp la) rfl ?_
    refine zv_cV (M' := mm_X4_begin) (ci := 4) (a := 39) (av := [.int f]) (st := []) (r := none) (I' := (ff_begin (ft_fill I 14) f)) (L' := L) (R' := zw_RC h sp la) rfl zc_3_111 gd_X4_begin rfl rfl rfl (Nat.le_of_ble_eq_true rfl) (ct_X4_begin (d := _)) ⟨Nat.le_refl _, Nat.le_refl _⟩ ?_
    refine zv_run 0 (pc' := 16) (lo' := [some (.ref 36), some (.ref 14), some (.int f), none, none, none, none]) (st' := []) (I' := (ff_begin (ft_fill I 14) f)) (L' := L) (R' := zw_RC h sp la) rfl ?_
    refine zv_run 23 (pc' := 53) (lo' := [some (.ref 36), some (.ref 14), some (.int f), some (.ref 17), some (.int 6), some (.int 0), none]) (st' := []) (I' := (zx_uI (zx_uI (zx_uI (zx_uI (ff_begin (ft_fill I 14) f) 36 3 0) 36 5 0) 36 6 0) 36 7 0)) (L' := L) (R' := (zx_uR (zw_RC h sp la) 36 4 none)) rfl ?_
    rw [rc_last]
    exact lp_X3_begin_14 6 0 _ none (by omega)
def fe_g (I : zx_I) (a : Nat) : Int32 := if I 36 3 < I a 10 then 0 else I a 9
def fe_lf (I : zx_I) (la : Option Nat) (a ww : Nat) (t : Int32) : Int32 := match la with
  | none => 0
  | some wl => if I wl 11 = t then fb_left I wl ww (I a 11) else 0
def fe_J (I : zx_I) (la : Option Nat) (a : Nat) (t : Int32) : zx_I := match la with
  | none => I
  | some wl => if I wl 11 = t then fb_leftm I wl (I a 11) else I
def fe_can (I : zx_I) (la : Option Nat) (a ww : Nat) (t : Int32) : Int32 := if I ww 9 > t then 0 else if I 36 6 &&& I ww 0 = 0 then (if I ww 7 &&& (I 36 6 ^^^ (-1)) = 0 then (if fe_lf I la a ww t = 0 then fc_is I ww (fe_g I a) else 1) else 0) else 0
def fe_canm (I : zx_I) (la : Option Nat) (a ww : Nat) (t : Int32) : zx_I := if I ww 9 > t then I else if I 36 6 &&& I ww 0 = 0 then (if I ww 7 &&& (I 36 6 ^^^ (-1)) = 0 then (if fe_lf I la a ww t = 0 then fc_m (fe_J I la a t) ww (fe_g I a) else fe_J I la a t) else I) else I
theorem fc_is_01 (I : zx_I) (ww : Nat) (g : Int32) : fc_is I ww g = 0 ∨ fc_is I ww g = 1 := by
  unfold fc_is
  split
  · exact Or.inl rfl
  · split
    · exact Or.inl rfl
    · exact Or.inr rfl
theorem fc_cg {I J : zx_I} {ww : Nat} {g : Int32} (h37 : J 37 = I 37) (h38 : J 38 = I 38) (hw : J ww = I ww) : fc_p J ww g = fc_p I ww g ∧ fc_is J ww g = fc_is I ww g := by
  have hk : fc_k J ww g = fc_k I ww g := by unfold fc_k; rw [hw]
  have hn : fc_nd J ww g = fc_nd I ww g := by unfold fc_nd; rw [hk, hw, h37]
  have hp : fc_p J ww g = fc_p I ww g := by unfold fc_p ft_pints; rw [hn, hk, hw, h37, h38]
  have hh : fc_h J ww g = fc_h I ww g := by unfold fc_h ft_topc ft_top; rw [hn, hp, hw, h37, h38]
  exact ⟨hp, by unfold fc_is; rw [hp, hh, hw]⟩
/-- what a bather must be for its bath to be reckoned without harm -/
def ok_w (I : zx_I) (a w : Nat) : Prop := 1 ≤ (I w 1).toInt ∧ (¬ fc_p I w (fe_g I a) = -4 → ¬ fc_p I w (fe_g I a) / I 37 2 < 0) ∧ (¬ fc_p I w (fe_g I a) = -4 → fc_p I w (fe_g I a) / I 37 2 ≤ I 37 1)
theorem ok_w_g {I : zx_I} {a w : Nat} (h : ok_w I a w) {g : Int32} (hg : g = fe_g I a) : 1 ≤ (I w 1).toInt ∧ (¬ fc_p I w g = -4 → ¬ fc_p I w g / I 37 2 < 0) ∧ (¬ fc_p I w g = -4 → fc_p I w g / I 37 2 ≤ I 37 1) := by subst hg; exact h
theorem zx_uI4_ne {I : zx_I} {wl ww : Nat} {c : Int32} (hb : bt ww) : fb_leftm I wl c ww = I ww := by
  have h : ww ≠ 40 := by unfold bt at hb; omega
  unfold fb_leftm
  rw [zx_uI_ne h, zx_uI_ne h, zx_uI_ne h, zx_uI_ne h]
theorem ct_X3_can_n {d : Nat} {I : zx_I} {L : zx_L} {h sp : Nat} {ww : Nat} {t : Int32} {a : Nat} (ha : a = 4 ∨ a = 14) (hT : tk_ok I) (hb : bt ww)  (hw : ok_w I a ww) : zx_M0 mm_X3_can (d + 2) 0 0 [.ref 36, .ref a, .ref ww, .int t] zw_SC I L (zw_RC h sp none) (zw_ret (some (.int (fe_can I none a ww t))) zw_SC (fe_canm I none a ww t) L (zw_RC h sp none)) := by
  rcases ha with rfl | rfl
  · refine zv_entry gd_X3_can (Nat.le_of_ble_eq_true rfl) ?_
    refine zv_run 1 (pc' := 1) (lo' := [some (.ref 36), some (.ref 4), some (.ref ww), some (.int t)]) (st' := [.ref ww]) (I' := I) (L' := L) (R' := zw_RC h sp none) rfl ?_
    refine zv_get (ci := 2) (k := 9) (t := 0) (zs_at rfl) (zf_ok rfl) (bt_S hb) rfl ?_
    refine zv_run 0 (pc' := 4) (lo' := [some (.ref 36), some (.ref 4), some (.ref ww), some (.int t)]) (st' := [.int (I ww 9)]) (I' := I) (L' := L) (R' := zw_RC h sp none) rfl ?_
    refine zv_run 1 (pc' := 5) (lo' := [some (.ref 36), some (.ref 4), some (.ref ww), some (.int t)]) (st' := [.int t, .int (I ww 9)]) (I' := I) (L' := L) (R' := zw_RC h sp none) rfl ?_
    refine zv_icmp_gt (tgt := 34) (zs_at rfl) (by decide) (fun c5 => ?_) (fun c5 => ?_)
    · have _c := c5
      refine zv_run 1 (pc' := 35) (lo' := [some (.ref 36), some (.ref 4), some (.ref ww), some (.int t)]) (st' := [.int 0]) (I' := I) (L' := L) (R' := zw_RC h sp none) rfl ?_
      exact zv_zret (zs_at rfl) rfl (Or.inl rfl) ⟨Nat.le_refl _, Nat.le_refl _⟩ (zw_to (by unfold fe_can; rw [if_pos c5]) (by unfold fe_canm; rw [if_pos c5]) rfl rfl)
    · have _c := c5
      refine zv_run 3 (pc' := 13) (lo' := [some (.ref 36), some (.ref 4), some (.ref ww), some (.int t)]) (st' := [.ref ww, .int (I 36 6)]) (I' := I) (L' := L) (R' := zw_RC h sp none) rfl ?_
      refine zv_get (ci := 2) (k := 0) (t := 0) (zs_at rfl) (zf_ok rfl) (bt_S hb) rfl ?_
      refine zv_run 0 (pc' := 16) (lo' := [some (.ref 36), some (.ref 4), some (.ref ww), some (.int t)]) (st' := [.int (I ww 0), .int (I 36 6)]) (I' := I) (L' := L) (R' := zw_RC h sp none) rfl ?_
      refine zv_run 1 (pc' := 17) (lo' := [some (.ref 36), some (.ref 4), some (.ref ww), some (.int t)]) (st' := [.int ((I 36 6) &&& (I ww 0))]) (I' := I) (L' := L) (R' := zw_RC h sp none) rfl ?_
      refine zv_if_ne (tgt := 34) (zs_at rfl) (by decide) (fun c17 => ?_) (fun c17 => ?_)
      · have _c := c17
        refine zv_run 1 (pc' := 35) (lo' := [some (.ref 36), some (.ref 4), some (.ref ww), some (.int t)]) (st' := [.int 0]) (I' := I) (L' := L) (R' := zw_RC h sp none) rfl ?_
        exact zv_zret (zs_at rfl) rfl (Or.inl rfl) ⟨Nat.le_refl _, Nat.le_refl _⟩ (zw_to (by unfold fe_can; rw [if_neg c5, if_neg c17]) (by unfold fe_canm; rw [if_neg c5, if_neg c17]) rfl rfl)
      · have _c := c17
        refine zv_run 1 (pc' := 21) (lo' := [some (.ref 36), some (.ref 4), some (.ref ww), some (.int t)]) (st' := [.ref ww]) (I' := I) (L' := L) (R' := zw_RC h sp none) rfl ?_
        refine zv_get (ci := 2) (k := 7) (t := 0) (zs_at rfl) (zf_ok rfl) (bt_S hb) rfl ?_
        refine zv_run 0 (pc' := 24) (lo' := [some (.ref 36), some (.ref 4), some (.ref ww), some (.int t)]) (st' := [.int (I ww 7)]) (I' := I) (L' := L) (R' := zw_RC h sp none) rfl ?_
        refine zv_run 5 (pc' := 31) (lo' := [some (.ref 36), some (.ref 4), some (.ref ww), some (.int t)]) (st' := [.int ((I ww 7) &&& ((I 36 6) ^^^ (-1)))]) (I' := I) (L' := L) (R' := zw_RC h sp none) rfl ?_
        refine zv_if_eq (tgt := 36) (zs_at rfl) (by decide) (fun c31 => ?_) (fun c31 => ?_)
        · have _c := c31
          refine zv_run 2 (pc' := 40) (lo' := [some (.ref 36), some (.ref 4), some (.ref ww), some (.int t)]) (st' := [.null]) (I' := I) (L' := L) (R' := zw_RC h sp none) rfl ?_
          refine zv_ifnullN (tgt := 75) (zs_at rfl) (by decide) ?_
          refine zv_run 9 (pc' := 92) (lo' := [some (.ref 36), some (.ref 4), some (.ref ww), some (.int t)]) (st' := [.int (I 4 10), .int (I 36 3), .ref ww, .ref 37, .ref 40]) (I' := I) (L' := L) (R' := zw_RC h sp none) rfl ?_
          refine zv_icmp_lt (tgt := 102) (zs_at rfl) (by decide) (fun c92 => ?_) (fun c92 => ?_)
          · have _c := c92
            refine zv_run 1 (pc' := 103) (lo' := [some (.ref 36), some (.ref 4), some (.ref ww), some (.int t)]) (st' := [.int 0, .ref ww, .ref 37, .ref 40]) (I' := I) (L' := L) (R' := zw_RC h sp none) rfl ?_
            refine zv_cV (M' := mm_X1_comesFrom) (ci := 1) (a := 40) (av := [.ref 37, .ref ww, .int 0]) (st := []) (r := some (.int (fc_is I ww 0))) (I' := (fc_m I ww 0)) (L' := L) (R' := zw_RC h sp none) rfl zc_3_189 gd_X1_comesFrom rfl rfl rfl (Nat.le_of_ble_eq_true rfl) (ct_X1_comesFrom (d := _) (I := I) (g := 0) hT hb hw.1 (ok_w_g hw (by unfold fe_g; first | rw [if_pos c92] | rw [if_neg c92])).2.1 (ok_w_g hw (by unfold fe_g; first | rw [if_pos c92] | rw [if_neg c92])).2.2) ⟨Nat.le_refl _, Nat.le_refl _⟩ ?_
            refine zv_run 0 (pc' := 106) (lo' := [some (.ref 36), some (.ref 4), some (.ref ww), some (.int t)]) (st' := [.int (fc_is I ww 0)]) (I' := (fc_m I ww 0)) (L' := L) (R' := zw_RC h sp none) rfl ?_
            exact zv_zret (zs_at rfl) rfl (fc_is_01 _ _ _) ⟨Nat.le_refl _, Nat.le_refl _⟩ (zw_to (by unfold fe_can; rw [if_neg c5, if_pos c17, if_pos c31, if_pos (show fe_lf I none _ ww t = 0 from rfl), (show fe_g I 4 = 0 from by unfold fe_g; rw [if_pos c92])]) (by unfold fe_canm; rw [if_neg c5, if_pos c17, if_pos c31, if_pos (show fe_lf I none _ ww t = 0 from rfl), (show fe_g I 4 = 0 from by unfold fe_g; rw [if_pos c92])]; rfl) rfl rfl)
          · have _c := c92
            refine zv_run 3 (pc' := 103) (lo' := [some (.ref 36), some (.ref 4), some (.ref ww), some (.int t)]) (st' := [.int (I 4 9), .ref ww, .ref 37, .ref 40]) (I' := I) (L' := L) (R' := zw_RC h sp none) rfl ?_
            refine zv_cV (M' := mm_X1_comesFrom) (ci := 1) (a := 40) (av := [.ref 37, .ref ww, .int (I 4 9)]) (st := []) (r := some (.int (fc_is I ww (I 4 9)))) (I' := (fc_m I ww (I 4 9))) (L' := L) (R' := zw_RC h sp none) rfl zc_3_189 gd_X1_comesFrom rfl rfl rfl (Nat.le_of_ble_eq_true rfl) (ct_X1_comesFrom (d := _) (I := I) (g := (I 4 9)) hT hb hw.1 (ok_w_g hw (by unfold fe_g; first | rw [if_pos c92] | rw [if_neg c92])).2.1 (ok_w_g hw (by unfold fe_g; first | rw [if_pos c92] | rw [if_neg c92])).2.2) ⟨Nat.le_refl _, Nat.le_refl _⟩ ?_
            refine zv_run 0 (pc' := 106) (lo' := [some (.ref 36), some (.ref 4), some (.ref ww), some (.int t)]) (st' := [.int (fc_is I ww (I 4 9))]) (I' := (fc_m I ww (I 4 9))) (L' := L) (R' := zw_RC h sp none) rfl ?_
            exact zv_zret (zs_at rfl) rfl (fc_is_01 _ _ _) ⟨Nat.le_refl _, Nat.le_refl _⟩ (zw_to (by unfold fe_can; rw [if_neg c5, if_pos c17, if_pos c31, if_pos (show fe_lf I none _ ww t = 0 from rfl), (show fe_g I 4 = I 4 9 from by unfold fe_g; rw [if_neg c92])]) (by unfold fe_canm; rw [if_neg c5, if_pos c17, if_pos c31, if_pos (show fe_lf I none _ ww t = 0 from rfl), (show fe_g I 4 = I 4 9 from by unfold fe_g; rw [if_neg c92])]; rfl) rfl rfl)
        · have _c := c31
          refine zv_run 1 (pc' := 35) (lo' := [some (.ref 36), some (.ref 4), some (.ref ww), some (.int t)]) (st' := [.int 0]) (I' := I) (L' := L) (R' := zw_RC h sp none) rfl ?_
          exact zv_zret (zs_at rfl) rfl (Or.inl rfl) ⟨Nat.le_refl _, Nat.le_refl _⟩ (zw_to (by unfold fe_can; rw [if_neg c5, if_pos c17, if_neg c31]) (by unfold fe_canm; rw [if_neg c5, if_pos c17, if_neg c31]) rfl rfl)
  · refine zv_entry gd_X3_can (Nat.le_of_ble_eq_true rfl) ?_
    refine zv_run 1 (pc' := 1) (lo' := [some (.ref 36), some (.ref 14), some (.ref ww), some (.int t)]) (st' := [.ref ww]) (I' := I) (L' := L) (R' := zw_RC h sp none) rfl ?_
    refine zv_get (ci := 2) (k := 9) (t := 0) (zs_at rfl) (zf_ok rfl) (bt_S hb) rfl ?_
    refine zv_run 0 (pc' := 4) (lo' := [some (.ref 36), some (.ref 14), some (.ref ww), some (.int t)]) (st' := [.int (I ww 9)]) (I' := I) (L' := L) (R' := zw_RC h sp none) rfl ?_
    refine zv_run 1 (pc' := 5) (lo' := [some (.ref 36), some (.ref 14), some (.ref ww), some (.int t)]) (st' := [.int t, .int (I ww 9)]) (I' := I) (L' := L) (R' := zw_RC h sp none) rfl ?_
    refine zv_icmp_gt (tgt := 34) (zs_at rfl) (by decide) (fun c5 => ?_) (fun c5 => ?_)
    · have _c := c5
      refine zv_run 1 (pc' := 35) (lo' := [some (.ref 36), some (.ref 14), some (.ref ww), some (.int t)]) (st' := [.int 0]) (I' := I) (L' := L) (R' := zw_RC h sp none) rfl ?_
      exact zv_zret (zs_at rfl) rfl (Or.inl rfl) ⟨Nat.le_refl _, Nat.le_refl _⟩ (zw_to (by unfold fe_can; rw [if_pos c5]) (by unfold fe_canm; rw [if_pos c5]) rfl rfl)
    · have _c := c5
      refine zv_run 3 (pc' := 13) (lo' := [some (.ref 36), some (.ref 14), some (.ref ww), some (.int t)]) (st' := [.ref ww, .int (I 36 6)]) (I' := I) (L' := L) (R' := zw_RC h sp none) rfl ?_
      refine zv_get (ci := 2) (k := 0) (t := 0) (zs_at rfl) (zf_ok rfl) (bt_S hb) rfl ?_
      refine zv_run 0 (pc' := 16) (lo' := [some (.ref 36), some (.ref 14), some (.ref ww), some (.int t)]) (st' := [.int (I ww 0), .int (I 36 6)]) (I' := I) (L' := L) (R' := zw_RC h sp none) rfl ?_
      refine zv_run 1 (pc' := 17) (lo' := [some (.ref 36), some (.ref 14), some (.ref ww), some (.int t)]) (st' := [.int ((I 36 6) &&& (I ww 0))]) (I' := I) (L' := L) (R' := zw_RC h sp none) rfl ?_
      refine zv_if_ne (tgt := 34) (zs_at rfl) (by decide) (fun c17 => ?_) (fun c17 => ?_)
      · have _c := c17
        refine zv_run 1 (pc' := 35) (lo' := [some (.ref 36), some (.ref 14), some (.ref ww), some (.int t)]) (st' := [.int 0]) (I' := I) (L' := L) (R' := zw_RC h sp none) rfl ?_
        exact zv_zret (zs_at rfl) rfl (Or.inl rfl) ⟨Nat.le_refl _, Nat.le_refl _⟩ (zw_to (by unfold fe_can; rw [if_neg c5, if_neg c17]) (by unfold fe_canm; rw [if_neg c5, if_neg c17]) rfl rfl)
      · have _c := c17
        refine zv_run 1 (pc' := 21) (lo' := [some (.ref 36), some (.ref 14), some (.ref ww), some (.int t)]) (st' := [.ref ww]) (I' := I) (L' := L) (R' := zw_RC h sp none) rfl ?_
        refine zv_get (ci := 2) (k := 7) (t := 0) (zs_at rfl) (zf_ok rfl) (bt_S hb) rfl ?_
        refine zv_run 0 (pc' := 24) (lo' := [some (.ref 36), some (.ref 14), some (.ref ww), some (.int t)]) (st' := [.int (I ww 7)]) (I' := I) (L' := L) (R' := zw_RC h sp none) rfl ?_
        refine zv_run 5 (pc' := 31) (lo' := [some (.ref 36), some (.ref 14), some (.ref ww), some (.int t)]) (st' := [.int ((I ww 7) &&& ((I 36 6) ^^^ (-1)))]) (I' := I) (L' := L) (R' := zw_RC h sp none) rfl ?_
        refine zv_if_eq (tgt := 36) (zs_at rfl) (by decide) (fun c31 => ?_) (fun c31 => ?_)
        · have _c := c31
          refine zv_run 2 (pc' := 40) (lo' := [some (.ref 36), some (.ref 14), some (.ref ww), some (.int t)]) (st' := [.null]) (I' := I) (L' := L) (R' := zw_RC h sp none) rfl ?_
          refine zv_ifnullN (tgt := 75) (zs_at rfl) (by decide) ?_
          refine zv_run 9 (pc' := 92) (lo' := [some (.ref 36), some (.ref 14), some (.ref ww), some (.int t)]) (st' := [.int (I 14 10), .int (I 36 3), .ref ww, .ref 37, .ref 40]) (I' := I) (L' := L) (R' := zw_RC h sp none) rfl ?_
          refine zv_icmp_lt (tgt := 102) (zs_at rfl) (by decide) (fun c92 => ?_) (fun c92 => ?_)
          · have _c := c92
            refine zv_run 1 (pc' := 103) (lo' := [some (.ref 36), some (.ref 14), some (.ref ww), some (.int t)]) (st' := [.int 0, .ref ww, .ref 37, .ref 40]) (I' := I) (L' := L) (R' := zw_RC h sp none) rfl ?_
            refine zv_cV (M' := mm_X1_comesFrom) (ci := 1) (a := 40) (av := [.ref 37, .ref ww, .int 0]) (st := []) (r := some (.int (fc_is I ww 0))) (I' := (fc_m I ww 0)) (L' := L) (R' := zw_RC h sp none) rfl zc_3_189 gd_X1_comesFrom rfl rfl rfl (Nat.le_of_ble_eq_true rfl) (ct_X1_comesFrom (d := _) (I := I) (g := 0) hT hb hw.1 (ok_w_g hw (by unfold fe_g; first | rw [if_pos c92] | rw [if_neg c92])).2.1 (ok_w_g hw (by unfold fe_g; first | rw [if_pos c92] | rw [if_neg c92])).2.2) ⟨Nat.le_refl _, Nat.le_refl _⟩ ?_
            refine zv_run 0 (pc' := 106) (lo' := [some (.ref 36), some (.ref 14), some (.ref ww), some (.int t)]) (st' := [.int (fc_is I ww 0)]) (I' := (fc_m I ww 0)) (L' := L) (R' := zw_RC h sp none) rfl ?_
            exact zv_zret (zs_at rfl) rfl (fc_is_01 _ _ _) ⟨Nat.le_refl _, Nat.le_refl _⟩ (zw_to (by unfold fe_can; rw [if_neg c5, if_pos c17, if_pos c31, if_pos (show fe_lf I none _ ww t = 0 from rfl), (show fe_g I 14 = 0 from by unfold fe_g; rw [if_pos c92])]) (by unfold fe_canm; rw [if_neg c5, if_pos c17, if_pos c31, if_pos (show fe_lf I none _ ww t = 0 from rfl), (show fe_g I 14 = 0 from by unfold fe_g; rw [if_pos c92])]; rfl) rfl rfl)
          · have _c := c92
            refine zv_run 3 (pc' := 103) (lo' := [some (.ref 36), some (.ref 14), some (.ref ww), some (.int t)]) (st' := [.int (I 14 9), .ref ww, .ref 37, .ref 40]) (I' := I) (L' := L) (R' := zw_RC h sp none) rfl ?_
            refine zv_cV (M' := mm_X1_comesFrom) (ci := 1) (a := 40) (av := [.ref 37, .ref ww, .int (I 14 9)]) (st := []) (r := some (.int (fc_is I ww (I 14 9)))) (I' := (fc_m I ww (I 14 9))) (L' := L) (R' := zw_RC h sp none) rfl zc_3_189 gd_X1_comesFrom rfl rfl rfl (Nat.le_of_ble_eq_true rfl) (ct_X1_comesFrom (d := _) (I := I) (g := (I 14 9)) hT hb hw.1 (ok_w_g hw (by unfold fe_g; first | rw [if_pos c92] | rw [if_neg c92])).2.1 (ok_w_g hw (by unfold fe_g; first | rw [if_pos c92] | rw [if_neg c92])).2.2) ⟨Nat.le_refl _, Nat.le_refl _⟩ ?_
            refine zv_run 0 (pc' := 106) (lo' := [some (.ref 36), some (.ref 14), some (.ref ww), some (.int t)]) (st' := [.int (fc_is I ww (I 14 9))]) (I' := (fc_m I ww (I 14 9))) (L' := L) (R' := zw_RC h sp none) rfl ?_
            exact zv_zret (zs_at rfl) rfl (fc_is_01 _ _ _) ⟨Nat.le_refl _, Nat.le_refl _⟩ (zw_to (by unfold fe_can; rw [if_neg c5, if_pos c17, if_pos c31, if_pos (show fe_lf I none _ ww t = 0 from rfl), (show fe_g I 14 = I 14 9 from by unfold fe_g; rw [if_neg c92])]) (by unfold fe_canm; rw [if_neg c5, if_pos c17, if_pos c31, if_pos (show fe_lf I none _ ww t = 0 from rfl), (show fe_g I 14 = I 14 9 from by unfold fe_g; rw [if_neg c92])]; rfl) rfl rfl)
        · have _c := c31
          refine zv_run 1 (pc' := 35) (lo' := [some (.ref 36), some (.ref 14), some (.ref ww), some (.int t)]) (st' := [.int 0]) (I' := I) (L' := L) (R' := zw_RC h sp none) rfl ?_
          exact zv_zret (zs_at rfl) rfl (Or.inl rfl) ⟨Nat.le_refl _, Nat.le_refl _⟩ (zw_to (by unfold fe_can; rw [if_neg c5, if_pos c17, if_neg c31]) (by unfold fe_canm; rw [if_neg c5, if_pos c17, if_neg c31]) rfl rfl)
theorem ct_X3_can_s {d : Nat} {I : zx_I} {L : zx_L} {h sp : Nat} {ww : Nat} {t : Int32} {wl : Nat} {a : Nat} (ha : a = 4 ∨ a = 14) (hT : tk_ok I) (hb : bt ww) (hl : bt wl) (hw : ok_w I a ww) : zx_M0 mm_X3_can (d + 2) 0 0 [.ref 36, .ref a, .ref ww, .int t] zw_SC I L (zw_RC h sp (some wl)) (zw_ret (some (.int (fe_can I (some wl) a ww t))) zw_SC (fe_canm I (some wl) a ww t) L (zw_RC h sp (some wl))) := by
  rcases ha with rfl | rfl
  · refine zv_entry gd_X3_can (Nat.le_of_ble_eq_true rfl) ?_
    refine zv_run 1 (pc' := 1) (lo' := [some (.ref 36), some (.ref 4), some (.ref ww), some (.int t)]) (st' := [.ref ww]) (I' := I) (L' := L) (R' := zw_RC h sp (some wl)) rfl ?_
    refine zv_get (ci := 2) (k := 9) (t := 0) (zs_at rfl) (zf_ok rfl) (bt_S hb) rfl ?_
    refine zv_run 0 (pc' := 4) (lo' := [some (.ref 36), some (.ref 4), some (.ref ww), some (.int t)]) (st' := [.int (I ww 9)]) (I' := I) (L' := L) (R' := zw_RC h sp (some wl)) rfl ?_
    refine zv_run 1 (pc' := 5) (lo' := [some (.ref 36), some (.ref 4), some (.ref ww), some (.int t)]) (st' := [.int t, .int (I ww 9)]) (I' := I) (L' := L) (R' := zw_RC h sp (some wl)) rfl ?_
    refine zv_icmp_gt (tgt := 34) (zs_at rfl) (by decide) (fun c5 => ?_) (fun c5 => ?_)
    · have _c := c5
      refine zv_run 1 (pc' := 35) (lo' := [some (.ref 36), some (.ref 4), some (.ref ww), some (.int t)]) (st' := [.int 0]) (I' := I) (L' := L) (R' := zw_RC h sp (some wl)) rfl ?_
      exact zv_zret (zs_at rfl) rfl (Or.inl rfl) ⟨Nat.le_refl _, Nat.le_refl _⟩ (zw_to (by unfold fe_can; rw [if_pos c5]) (by unfold fe_canm; rw [if_pos c5]) rfl rfl)
    · have _c := c5
      refine zv_run 3 (pc' := 13) (lo' := [some (.ref 36), some (.ref 4), some (.ref ww), some (.int t)]) (st' := [.ref ww, .int (I 36 6)]) (I' := I) (L' := L) (R' := zw_RC h sp (some wl)) rfl ?_
      refine zv_get (ci := 2) (k := 0) (t := 0) (zs_at rfl) (zf_ok rfl) (bt_S hb) rfl ?_
      refine zv_run 0 (pc' := 16) (lo' := [some (.ref 36), some (.ref 4), some (.ref ww), some (.int t)]) (st' := [.int (I ww 0), .int (I 36 6)]) (I' := I) (L' := L) (R' := zw_RC h sp (some wl)) rfl ?_
      refine zv_run 1 (pc' := 17) (lo' := [some (.ref 36), some (.ref 4), some (.ref ww), some (.int t)]) (st' := [.int ((I 36 6) &&& (I ww 0))]) (I' := I) (L' := L) (R' := zw_RC h sp (some wl)) rfl ?_
      refine zv_if_ne (tgt := 34) (zs_at rfl) (by decide) (fun c17 => ?_) (fun c17 => ?_)
      · have _c := c17
        refine zv_run 1 (pc' := 35) (lo' := [some (.ref 36), some (.ref 4), some (.ref ww), some (.int t)]) (st' := [.int 0]) (I' := I) (L' := L) (R' := zw_RC h sp (some wl)) rfl ?_
        exact zv_zret (zs_at rfl) rfl (Or.inl rfl) ⟨Nat.le_refl _, Nat.le_refl _⟩ (zw_to (by unfold fe_can; rw [if_neg c5, if_neg c17]) (by unfold fe_canm; rw [if_neg c5, if_neg c17]) rfl rfl)
      · have _c := c17
        refine zv_run 1 (pc' := 21) (lo' := [some (.ref 36), some (.ref 4), some (.ref ww), some (.int t)]) (st' := [.ref ww]) (I' := I) (L' := L) (R' := zw_RC h sp (some wl)) rfl ?_
        refine zv_get (ci := 2) (k := 7) (t := 0) (zs_at rfl) (zf_ok rfl) (bt_S hb) rfl ?_
        refine zv_run 0 (pc' := 24) (lo' := [some (.ref 36), some (.ref 4), some (.ref ww), some (.int t)]) (st' := [.int (I ww 7)]) (I' := I) (L' := L) (R' := zw_RC h sp (some wl)) rfl ?_
        refine zv_run 5 (pc' := 31) (lo' := [some (.ref 36), some (.ref 4), some (.ref ww), some (.int t)]) (st' := [.int ((I ww 7) &&& ((I 36 6) ^^^ (-1)))]) (I' := I) (L' := L) (R' := zw_RC h sp (some wl)) rfl ?_
        refine zv_if_eq (tgt := 36) (zs_at rfl) (by decide) (fun c31 => ?_) (fun c31 => ?_)
        · have _c := c31
          refine zv_run 2 (pc' := 40) (lo' := [some (.ref 36), some (.ref 4), some (.ref ww), some (.int t)]) (st' := [.ref wl]) (I' := I) (L' := L) (R' := zw_RC h sp (some wl)) rfl ?_
          refine zv_ifnull (zs_at rfl) ?_
          refine zv_run 2 (pc' := 47) (lo' := [some (.ref 36), some (.ref 4), some (.ref ww), some (.int t)]) (st' := [.ref wl]) (I' := I) (L' := L) (R' := zw_RC h sp (some wl)) rfl ?_
          refine zv_get (ci := 2) (k := 11) (t := 0) (zs_at rfl) (zf_ok rfl) (bt_S hl) rfl ?_
          refine zv_run 0 (pc' := 50) (lo' := [some (.ref 36), some (.ref 4), some (.ref ww), some (.int t)]) (st' := [.int (I wl 11)]) (I' := I) (L' := L) (R' := zw_RC h sp (some wl)) rfl ?_
          refine zv_run 1 (pc' := 51) (lo' := [some (.ref 36), some (.ref 4), some (.ref ww), some (.int t)]) (st' := [.int t, .int (I wl 11)]) (I' := I) (L' := L) (R' := zw_RC h sp (some wl)) rfl ?_
          refine zv_icmp_ne (tgt := 75) (zs_at rfl) (by decide) (fun c51 => ?_) (fun c51 => ?_)
          · have _c := c51
            refine zv_run 9 (pc' := 92) (lo' := [some (.ref 36), some (.ref 4), some (.ref ww), some (.int t)]) (st' := [.int (I 4 10), .int (I 36 3), .ref ww, .ref 37, .ref 40]) (I' := I) (L' := L) (R' := zw_RC h sp (some wl)) rfl ?_
            refine zv_icmp_lt (tgt := 102) (zs_at rfl) (by decide) (fun c92 => ?_) (fun c92 => ?_)
            · have _c := c92
              refine zv_run 1 (pc' := 103) (lo' := [some (.ref 36), some (.ref 4), some (.ref ww), some (.int t)]) (st' := [.int 0, .ref ww, .ref 37, .ref 40]) (I' := I) (L' := L) (R' := zw_RC h sp (some wl)) rfl ?_
              refine zv_cV (M' := mm_X1_comesFrom) (ci := 1) (a := 40) (av := [.ref 37, .ref ww, .int 0]) (st := []) (r := some (.int (fc_is I ww 0))) (I' := (fc_m I ww 0)) (L' := L) (R' := zw_RC h sp (some wl)) rfl zc_3_189 gd_X1_comesFrom rfl rfl rfl (Nat.le_of_ble_eq_true rfl) (ct_X1_comesFrom (d := _) (I := I) (g := 0) hT hb hw.1 (ok_w_g hw (by unfold fe_g; first | rw [if_pos c92] | rw [if_neg c92])).2.1 (ok_w_g hw (by unfold fe_g; first | rw [if_pos c92] | rw [if_neg c92])).2.2) ⟨Nat.le_refl _, Nat.le_refl _⟩ ?_
              refine zv_run 0 (pc' := 106) (lo' := [some (.ref 36), some (.ref 4), some (.ref ww), some (.int t)]) (st' := [.int (fc_is I ww 0)]) (I' := (fc_m I ww 0)) (L' := L) (R' := zw_RC h sp (some wl)) rfl ?_
              exact zv_zret (zs_at rfl) rfl (fc_is_01 _ _ _) ⟨Nat.le_refl _, Nat.le_refl _⟩ (zw_to (by unfold fe_can; rw [if_neg c5, if_pos c17, if_pos c31, if_pos (by unfold fe_lf; dsimp only; rw [if_neg c51]), (show fe_g I 4 = 0 from by unfold fe_g; rw [if_pos c92])]) (by unfold fe_canm; rw [if_neg c5, if_pos c17, if_pos c31, if_pos (by unfold fe_lf; dsimp only; rw [if_neg c51]), (show fe_g I 4 = 0 from by unfold fe_g; rw [if_pos c92])]; unfold fe_J; dsimp only; rw [if_neg c51]) rfl rfl)
            · have _c := c92
              refine zv_run 3 (pc' := 103) (lo' := [some (.ref 36), some (.ref 4), some (.ref ww), some (.int t)]) (st' := [.int (I 4 9), .ref ww, .ref 37, .ref 40]) (I' := I) (L' := L) (R' := zw_RC h sp (some wl)) rfl ?_
              refine zv_cV (M' := mm_X1_comesFrom) (ci := 1) (a := 40) (av := [.ref 37, .ref ww, .int (I 4 9)]) (st := []) (r := some (.int (fc_is I ww (I 4 9)))) (I' := (fc_m I ww (I 4 9))) (L' := L) (R' := zw_RC h sp (some wl)) rfl zc_3_189 gd_X1_comesFrom rfl rfl rfl (Nat.le_of_ble_eq_true rfl) (ct_X1_comesFrom (d := _) (I := I) (g := (I 4 9)) hT hb hw.1 (ok_w_g hw (by unfold fe_g; first | rw [if_pos c92] | rw [if_neg c92])).2.1 (ok_w_g hw (by unfold fe_g; first | rw [if_pos c92] | rw [if_neg c92])).2.2) ⟨Nat.le_refl _, Nat.le_refl _⟩ ?_
              refine zv_run 0 (pc' := 106) (lo' := [some (.ref 36), some (.ref 4), some (.ref ww), some (.int t)]) (st' := [.int (fc_is I ww (I 4 9))]) (I' := (fc_m I ww (I 4 9))) (L' := L) (R' := zw_RC h sp (some wl)) rfl ?_
              exact zv_zret (zs_at rfl) rfl (fc_is_01 _ _ _) ⟨Nat.le_refl _, Nat.le_refl _⟩ (zw_to (by unfold fe_can; rw [if_neg c5, if_pos c17, if_pos c31, if_pos (by unfold fe_lf; dsimp only; rw [if_neg c51]), (show fe_g I 4 = I 4 9 from by unfold fe_g; rw [if_neg c92])]) (by unfold fe_canm; rw [if_neg c5, if_pos c17, if_pos c31, if_pos (by unfold fe_lf; dsimp only; rw [if_neg c51]), (show fe_g I 4 = I 4 9 from by unfold fe_g; rw [if_neg c92])]; unfold fe_J; dsimp only; rw [if_neg c51]) rfl rfl)
          · have _c := c51
            refine zv_run 7 (pc' := 67) (lo' := [some (.ref 36), some (.ref 4), some (.ref ww), some (.int t)]) (st' := [.int (I 4 11), .ref ww, .ref wl, .ref 40]) (I' := I) (L' := L) (R' := zw_RC h sp (some wl)) rfl ?_
            refine zv_cV (M' := mm_X1_isLeftBy) (ci := 1) (a := 40) (av := [.ref wl, .ref ww, .int (I 4 11)]) (st := []) (r := some (.int (fb_left I wl ww (I 4 11)))) (I' := (fb_leftm I wl (I 4 11))) (L' := L) (R' := zw_RC h sp (some wl)) rfl zc_3_179 gd_X1_isLeftBy rfl rfl rfl (Nat.le_of_ble_eq_true rfl) (ct_X1_isLeftBy (d := _) hl hb) ⟨Nat.le_refl _, Nat.le_refl _⟩ ?_
            refine zv_run 0 (pc' := 70) (lo' := [some (.ref 36), some (.ref 4), some (.ref ww), some (.int t)]) (st' := [.int (fb_left I wl ww (I 4 11))]) (I' := (fb_leftm I wl (I 4 11))) (L' := L) (R' := zw_RC h sp (some wl)) rfl ?_
            refine zv_if_eq (tgt := 75) (zs_at rfl) (by decide) (fun c70 => ?_) (fun c70 => ?_)
            · have _c := c70
              refine zv_run 9 (pc' := 92) (lo' := [some (.ref 36), some (.ref 4), some (.ref ww), some (.int t)]) (st' := [.int (I 4 10), .int (I 36 3), .ref ww, .ref 37, .ref 40]) (I' := (fb_leftm I wl (I 4 11))) (L' := L) (R' := zw_RC h sp (some wl)) rfl ?_
              refine zv_icmp_lt (tgt := 102) (zs_at rfl) (by decide) (fun c92 => ?_) (fun c92 => ?_)
              · have _c := c92
                refine zv_run 1 (pc' := 103) (lo' := [some (.ref 36), some (.ref 4), some (.ref ww), some (.int t)]) (st' := [.int 0, .ref ww, .ref 37, .ref 40]) (I' := (fb_leftm I wl (I 4 11))) (L' := L) (R' := zw_RC h sp (some wl)) rfl ?_
                refine zv_cV (M' := mm_X1_comesFrom) (ci := 1) (a := 40) (av := [.ref 37, .ref ww, .int 0]) (st := []) (r := some (.int (fc_is (fb_leftm I wl (I 4 11)) ww 0))) (I' := (fc_m (fb_leftm I wl (I 4 11)) ww 0)) (L' := L) (R' := zw_RC h sp (some wl)) rfl zc_3_189 gd_X1_comesFrom rfl rfl rfl (Nat.le_of_ble_eq_true rfl) (ct_X1_comesFrom (d := _) (I := (fb_leftm I wl (I 4 11))) (g := 0) hT hb (by rw [zx_uI4_ne hb]; exact hw.1) (by rw [(fc_cg (I := I) (J := (fb_leftm I wl (I 4 11))) (ww := ww) (g := 0) rfl rfl (zx_uI4_ne hb)).1]; exact (ok_w_g hw (by unfold fe_g; first | rw [if_pos c92] | rw [if_neg c92])).2.1) (by rw [(fc_cg (I := I) (J := (fb_leftm I wl (I 4 11))) (ww := ww) (g := 0) rfl rfl (zx_uI4_ne hb)).1]; exact (ok_w_g hw (by unfold fe_g; first | rw [if_pos c92] | rw [if_neg c92])).2.2)) ⟨Nat.le_refl _, Nat.le_refl _⟩ ?_
                refine zv_run 0 (pc' := 106) (lo' := [some (.ref 36), some (.ref 4), some (.ref ww), some (.int t)]) (st' := [.int (fc_is (fb_leftm I wl (I 4 11)) ww 0)]) (I' := (fc_m (fb_leftm I wl (I 4 11)) ww 0)) (L' := L) (R' := zw_RC h sp (some wl)) rfl ?_
                exact zv_zret (zs_at rfl) rfl (fc_is_01 _ _ _) ⟨Nat.le_refl _, Nat.le_refl _⟩ (zw_to (by rw [(fc_cg (I := I) (J := fb_leftm I wl (I 4 11)) (ww := ww) (g := 0) rfl rfl (zx_uI4_ne hb)).2]; unfold fe_can; rw [if_neg c5, if_pos c17, if_pos c31, if_pos (by unfold fe_lf; dsimp only; rw [if_pos c51]; exact c70), (show fe_g I 4 = 0 from by unfold fe_g; rw [if_pos c92])]) (by unfold fe_canm; rw [if_neg c5, if_pos c17, if_pos c31, if_pos (by unfold fe_lf; dsimp only; rw [if_pos c51]; exact c70), (show fe_g I 4 = 0 from by unfold fe_g; rw [if_pos c92])]; unfold fe_J; dsimp only; rw [if_pos c51]) rfl rfl)
              · have _c := c92
                refine zv_run 3 (pc' := 103) (lo' := [some (.ref 36), some (.ref 4), some (.ref ww), some (.int t)]) (st' := [.int (I 4 9), .ref ww, .ref 37, .ref 40]) (I' := (fb_leftm I wl (I 4 11))) (L' := L) (R' := zw_RC h sp (some wl)) rfl ?_
                refine zv_cV (M' := mm_X1_comesFrom) (ci := 1) (a := 40) (av := [.ref 37, .ref ww, .int (I 4 9)]) (st := []) (r := some (.int (fc_is (fb_leftm I wl (I 4 11)) ww (I 4 9)))) (I' := (fc_m (fb_leftm I wl (I 4 11)) ww (I 4 9))) (L' := L) (R' := zw_RC h sp (some wl)) rfl zc_3_189 gd_X1_comesFrom rfl rfl rfl (Nat.le_of_ble_eq_true rfl) (ct_X1_comesFrom (d := _) (I := (fb_leftm I wl (I 4 11))) (g := (I 4 9)) hT hb (by rw [zx_uI4_ne hb]; exact hw.1) (by rw [(fc_cg (I := I) (J := (fb_leftm I wl (I 4 11))) (ww := ww) (g := (I 4 9)) rfl rfl (zx_uI4_ne hb)).1]; exact (ok_w_g hw (by unfold fe_g; first | rw [if_pos c92] | rw [if_neg c92])).2.1) (by rw [(fc_cg (I := I) (J := (fb_leftm I wl (I 4 11))) (ww := ww) (g := (I 4 9)) rfl rfl (zx_uI4_ne hb)).1]; exact (ok_w_g hw (by unfold fe_g; first | rw [if_pos c92] | rw [if_neg c92])).2.2)) ⟨Nat.le_refl _, Nat.le_refl _⟩ ?_
                refine zv_run 0 (pc' := 106) (lo' := [some (.ref 36), some (.ref 4), some (.ref ww), some (.int t)]) (st' := [.int (fc_is (fb_leftm I wl (I 4 11)) ww (I 4 9))]) (I' := (fc_m (fb_leftm I wl (I 4 11)) ww (I 4 9))) (L' := L) (R' := zw_RC h sp (some wl)) rfl ?_
                exact zv_zret (zs_at rfl) rfl (fc_is_01 _ _ _) ⟨Nat.le_refl _, Nat.le_refl _⟩ (zw_to (by rw [(fc_cg (I := I) (J := fb_leftm I wl (I 4 11)) (ww := ww) (g := I 4 9) rfl rfl (zx_uI4_ne hb)).2]; unfold fe_can; rw [if_neg c5, if_pos c17, if_pos c31, if_pos (by unfold fe_lf; dsimp only; rw [if_pos c51]; exact c70), (show fe_g I 4 = I 4 9 from by unfold fe_g; rw [if_neg c92])]) (by unfold fe_canm; rw [if_neg c5, if_pos c17, if_pos c31, if_pos (by unfold fe_lf; dsimp only; rw [if_pos c51]; exact c70), (show fe_g I 4 = I 4 9 from by unfold fe_g; rw [if_neg c92])]; unfold fe_J; dsimp only; rw [if_pos c51]) rfl rfl)
            · have _c := c70
              refine zv_run 1 (pc' := 74) (lo' := [some (.ref 36), some (.ref 4), some (.ref ww), some (.int t)]) (st' := [.int 1]) (I' := (fb_leftm I wl (I 4 11))) (L' := L) (R' := zw_RC h sp (some wl)) rfl ?_
              exact zv_zret (zs_at rfl) rfl (Or.inr rfl) ⟨Nat.le_refl _, Nat.le_refl _⟩ (zw_to (by unfold fe_can; rw [if_neg c5, if_pos c17, if_pos c31, if_neg (by unfold fe_lf; dsimp only; rw [if_pos c51]; exact c70)]) (by unfold fe_canm; rw [if_neg c5, if_pos c17, if_pos c31, if_neg (by unfold fe_lf; dsimp only; rw [if_pos c51]; exact c70)]; unfold fe_J; dsimp only; rw [if_pos c51]) rfl rfl)
        · have _c := c31
          refine zv_run 1 (pc' := 35) (lo' := [some (.ref 36), some (.ref 4), some (.ref ww), some (.int t)]) (st' := [.int 0]) (I' := I) (L' := L) (R' := zw_RC h sp (some wl)) rfl ?_
          exact zv_zret (zs_at rfl) rfl (Or.inl rfl) ⟨Nat.le_refl _, Nat.le_refl _⟩ (zw_to (by unfold fe_can; rw [if_neg c5, if_pos c17, if_neg c31]) (by unfold fe_canm; rw [if_neg c5, if_pos c17, if_neg c31]) rfl rfl)
  · refine zv_entry gd_X3_can (Nat.le_of_ble_eq_true rfl) ?_
    refine zv_run 1 (pc' := 1) (lo' := [some (.ref 36), some (.ref 14), some (.ref ww), some (.int t)]) (st' := [.ref ww]) (I' := I) (L' := L) (R' := zw_RC h sp (some wl)) rfl ?_
    refine zv_get (ci := 2) (k := 9) (t := 0) (zs_at rfl) (zf_ok rfl) (bt_S hb) rfl ?_
    refine zv_run 0 (pc' := 4) (lo' := [some (.ref 36), some (.ref 14), some (.ref ww), some (.int t)]) (st' := [.int (I ww 9)]) (I' := I) (L' := L) (R' := zw_RC h sp (some wl)) rfl ?_
    refine zv_run 1 (pc' := 5) (lo' := [some (.ref 36), some (.ref 14), some (.ref ww), some (.int t)]) (st' := [.int t, .int (I ww 9)]) (I' := I) (L' := L) (R' := zw_RC h sp (some wl)) rfl ?_
    refine zv_icmp_gt (tgt := 34) (zs_at rfl) (by decide) (fun c5 => ?_) (fun c5 => ?_)
    · have _c := c5
      refine zv_run 1 (pc' := 35) (lo' := [some (.ref 36), some (.ref 14), some (.ref ww), some (.int t)]) (st' := [.int 0]) (I' := I) (L' := L) (R' := zw_RC h sp (some wl)) rfl ?_
      exact zv_zret (zs_at rfl) rfl (Or.inl rfl) ⟨Nat.le_refl _, Nat.le_refl _⟩ (zw_to (by unfold fe_can; rw [if_pos c5]) (by unfold fe_canm; rw [if_pos c5]) rfl rfl)
    · have _c := c5
      refine zv_run 3 (pc' := 13) (lo' := [some (.ref 36), some (.ref 14), some (.ref ww), some (.int t)]) (st' := [.ref ww, .int (I 36 6)]) (I' := I) (L' := L) (R' := zw_RC h sp (some wl)) rfl ?_
      refine zv_get (ci := 2) (k := 0) (t := 0) (zs_at rfl) (zf_ok rfl) (bt_S hb) rfl ?_
      refine zv_run 0 (pc' := 16) (lo' := [some (.ref 36), some (.ref 14), some (.ref ww), some (.int t)]) (st' := [.int (I ww 0), .int (I 36 6)]) (I' := I) (L' := L) (R' := zw_RC h sp (some wl)) rfl ?_
      refine zv_run 1 (pc' := 17) (lo' := [some (.ref 36), some (.ref 14), some (.ref ww), some (.int t)]) (st' := [.int ((I 36 6) &&& (I ww 0))]) (I' := I) (L' := L) (R' := zw_RC h sp (some wl)) rfl ?_
      refine zv_if_ne (tgt := 34) (zs_at rfl) (by decide) (fun c17 => ?_) (fun c17 => ?_)
      · have _c := c17
        refine zv_run 1 (pc' := 35) (lo' := [some (.ref 36), some (.ref 14), some (.ref ww), some (.int t)]) (st' := [.int 0]) (I' := I) (L' := L) (R' := zw_RC h sp (some wl)) rfl ?_
        exact zv_zret (zs_at rfl) rfl (Or.inl rfl) ⟨Nat.le_refl _, Nat.le_refl _⟩ (zw_to (by unfold fe_can; rw [if_neg c5, if_neg c17]) (by unfold fe_canm; rw [if_neg c5, if_neg c17]) rfl rfl)
      · have _c := c17
        refine zv_run 1 (pc' := 21) (lo' := [some (.ref 36), some (.ref 14), some (.ref ww), some (.int t)]) (st' := [.ref ww]) (I' := I) (L' := L) (R' := zw_RC h sp (some wl)) rfl ?_
        refine zv_get (ci := 2) (k := 7) (t := 0) (zs_at rfl) (zf_ok rfl) (bt_S hb) rfl ?_
        refine zv_run 0 (pc' := 24) (lo' := [some (.ref 36), some (.ref 14), some (.ref ww), some (.int t)]) (st' := [.int (I ww 7)]) (I' := I) (L' := L) (R' := zw_RC h sp (some wl)) rfl ?_
        refine zv_run 5 (pc' := 31) (lo' := [some (.ref 36), some (.ref 14), some (.ref ww), some (.int t)]) (st' := [.int ((I ww 7) &&& ((I 36 6) ^^^ (-1)))]) (I' := I) (L' := L) (R' := zw_RC h sp (some wl)) rfl ?_
        refine zv_if_eq (tgt := 36) (zs_at rfl) (by decide) (fun c31 => ?_) (fun c31 => ?_)
        · have _c := c31
          refine zv_run 2 (pc' := 40) (lo' := [some (.ref 36), some (.ref 14), some (.ref ww), some (.int t)]) (st' := [.ref wl]) (I' := I) (L' := L) (R' := zw_RC h sp (some wl)) rfl ?_
          refine zv_ifnull (zs_at rfl) ?_
          refine zv_run 2 (pc' := 47) (lo' := [some (.ref 36), some (.ref 14), some (.ref ww), some (.int t)]) (st' := [.ref wl]) (I' := I) (L' := L) (R' := zw_RC h sp (some wl)) rfl ?_
          refine zv_get (ci := 2) (k := 11) (t := 0) (zs_at rfl) (zf_ok rfl) (bt_S hl) rfl ?_
          refine zv_run 0 (pc' := 50) (lo' := [some (.ref 36), some (.ref 14), some (.ref ww), some (.int t)]) (st' := [.int (I wl 11)]) (I' := I) (L' := L) (R' := zw_RC h sp (some wl)) rfl ?_
          refine zv_run 1 (pc' := 51) (lo' := [some (.ref 36), some (.ref 14), some (.ref ww), some (.int t)]) (st' := [.int t, .int (I wl 11)]) (I' := I) (L' := L) (R' := zw_RC h sp (some wl)) rfl ?_
          refine zv_icmp_ne (tgt := 75) (zs_at rfl) (by decide) (fun c51 => ?_) (fun c51 => ?_)
          · have _c := c51
            refine zv_run 9 (pc' := 92) (lo' := [some (.ref 36), some (.ref 14), some (.ref ww), some (.int t)]) (st' := [.int (I 14 10), .int (I 36 3), .ref ww, .ref 37, .ref 40]) (I' := I) (L' := L) (R' := zw_RC h sp (some wl)) rfl ?_
            refine zv_icmp_lt (tgt := 102) (zs_at rfl) (by decide) (fun c92 => ?_) (fun c92 => ?_)
            · have _c := c92
              refine zv_run 1 (pc' := 103) (lo' := [some (.ref 36), some (.ref 14), some (.ref ww), some (.int t)]) (st' := [.int 0, .ref ww, .ref 37, .ref 40]) (I' := I) (L' := L) (R' := zw_RC h sp (some wl)) rfl ?_
              refine zv_cV (M' := mm_X1_comesFrom) (ci := 1) (a := 40) (av := [.ref 37, .ref ww, .int 0]) (st := []) (r := some (.int (fc_is I ww 0))) (I' := (fc_m I ww 0)) (L' := L) (R' := zw_RC h sp (some wl)) rfl zc_3_189 gd_X1_comesFrom rfl rfl rfl (Nat.le_of_ble_eq_true rfl) (ct_X1_comesFrom (d := _) (I := I) (g := 0) hT hb hw.1 (ok_w_g hw (by unfold fe_g; first | rw [if_pos c92] | rw [if_neg c92])).2.1 (ok_w_g hw (by unfold fe_g; first | rw [if_pos c92] | rw [if_neg c92])).2.2) ⟨Nat.le_refl _, Nat.le_refl _⟩ ?_
              refine zv_run 0 (pc' := 106) (lo' := [some (.ref 36), some (.ref 14), some (.ref ww), some (.int t)]) (st' := [.int (fc_is I ww 0)]) (I' := (fc_m I ww 0)) (L' := L) (R' := zw_RC h sp (some wl)) rfl ?_
              exact zv_zret (zs_at rfl) rfl (fc_is_01 _ _ _) ⟨Nat.le_refl _, Nat.le_refl _⟩ (zw_to (by unfold fe_can; rw [if_neg c5, if_pos c17, if_pos c31, if_pos (by unfold fe_lf; dsimp only; rw [if_neg c51]), (show fe_g I 14 = 0 from by unfold fe_g; rw [if_pos c92])]) (by unfold fe_canm; rw [if_neg c5, if_pos c17, if_pos c31, if_pos (by unfold fe_lf; dsimp only; rw [if_neg c51]), (show fe_g I 14 = 0 from by unfold fe_g; rw [if_pos c92])]; unfold fe_J; dsimp only; rw [if_neg c51]) rfl rfl)
            · have _c := c92
              refine zv_run 3 (pc' := 103) (lo' := [some (.ref 36), some (.ref 14), some (.ref ww), some (.int t)]) (st' := [.int (I 14 9), .ref ww, .ref 37, .ref 40]) (I' := I) (L' := L) (R' := zw_RC h sp (some wl)) rfl ?_
              refine zv_cV (M' := mm_X1_comesFrom) (ci := 1) (a := 40) (av := [.ref 37, .ref ww, .int (I 14 9)]) (st := []) (r := some (.int (fc_is I ww (I 14 9)))) (I' := (fc_m I ww (I 14 9))) (L' := L) (R' := zw_RC h sp (some wl)) rfl zc_3_189 gd_X1_comesFrom rfl rfl rfl (Nat.le_of_ble_eq_true rfl) (ct_X1_comesFrom (d := _) (I := I) (g := (I 14 9)) hT hb hw.1 (ok_w_g hw (by unfold fe_g; first | rw [if_pos c92] | rw [if_neg c92])).2.1 (ok_w_g hw (by unfold fe_g; first | rw [if_pos c92] | rw [if_neg c92])).2.2) ⟨Nat.le_refl _, Nat.le_refl _⟩ ?_
              refine zv_run 0 (pc' := 106) (lo' := [some (.ref 36), some (.ref 14), some (.ref ww), some (.int t)]) (st' := [.int (fc_is I ww (I 14 9))]) (I' := (fc_m I ww (I 14 9))) (L' := L) (R' := zw_RC h sp (some wl)) rfl ?_
              exact zv_zret (zs_at rfl) rfl (fc_is_01 _ _ _) ⟨Nat.le_refl _, Nat.le_refl _⟩ (zw_to (by unfold fe_can; rw [if_neg c5, if_pos c17, if_pos c31, if_pos (by unfold fe_lf; dsimp only; rw [if_neg c51]), (show fe_g I 14 = I 14 9 from by unfold fe_g; rw [if_neg c92])]) (by unfold fe_canm; rw [if_neg c5, if_pos c17, if_pos c31, if_pos (by unfold fe_lf; dsimp only; rw [if_neg c51]), (show fe_g I 14 = I 14 9 from by unfold fe_g; rw [if_neg c92])]; unfold fe_J; dsimp only; rw [if_neg c51]) rfl rfl)
          · have _c := c51
            refine zv_run 7 (pc' := 67) (lo' := [some (.ref 36), some (.ref 14), some (.ref ww), some (.int t)]) (st' := [.int (I 14 11), .ref ww, .ref wl, .ref 40]) (I' := I) (L' := L) (R' := zw_RC h sp (some wl)) rfl ?_
            refine zv_cV (M' := mm_X1_isLeftBy) (ci := 1) (a := 40) (av := [.ref wl, .ref ww, .int (I 14 11)]) (st := []) (r := some (.int (fb_left I wl ww (I 14 11)))) (I' := (fb_leftm I wl (I 14 11))) (L' := L) (R' := zw_RC h sp (some wl)) rfl zc_3_179 gd_X1_isLeftBy rfl rfl rfl (Nat.le_of_ble_eq_true rfl) (ct_X1_isLeftBy (d := _) hl hb) ⟨Nat.le_refl _, Nat.le_refl _⟩ ?_
            refine zv_run 0 (pc' := 70) (lo' := [some (.ref 36), some (.ref 14), some (.ref ww), some (.int t)]) (st' := [.int (fb_left I wl ww (I 14 11))]) (I' := (fb_leftm I wl (I 14 11))) (L' := L) (R' := zw_RC h sp (some wl)) rfl ?_
            refine zv_if_eq (tgt := 75) (zs_at rfl) (by decide) (fun c70 => ?_) (fun c70 => ?_)
            · have _c := c70
              refine zv_run 9 (pc' := 92) (lo' := [some (.ref 36), some (.ref 14), some (.ref ww), some (.int t)]) (st' := [.int (I 14 10), .int (I 36 3), .ref ww, .ref 37, .ref 40]) (I' := (fb_leftm I wl (I 14 11))) (L' := L) (R' := zw_RC h sp (some wl)) rfl ?_
              refine zv_icmp_lt (tgt := 102) (zs_at rfl) (by decide) (fun c92 => ?_) (fun c92 => ?_)
              · have _c := c92
                refine zv_run 1 (pc' := 103) (lo' := [some (.ref 36), some (.ref 14), some (.ref ww), some (.int t)]) (st' := [.int 0, .ref ww, .ref 37, .ref 40]) (I' := (fb_leftm I wl (I 14 11))) (L' := L) (R' := zw_RC h sp (some wl)) rfl ?_
                refine zv_cV (M' := mm_X1_comesFrom) (ci := 1) (a := 40) (av := [.ref 37, .ref ww, .int 0]) (st := []) (r := some (.int (fc_is (fb_leftm I wl (I 14 11)) ww 0))) (I' := (fc_m (fb_leftm I wl (I 14 11)) ww 0)) (L' := L) (R' := zw_RC h sp (some wl)) rfl zc_3_189 gd_X1_comesFrom rfl rfl rfl (Nat.le_of_ble_eq_true rfl) (ct_X1_comesFrom (d := _) (I := (fb_leftm I wl (I 14 11))) (g := 0) hT hb (by rw [zx_uI4_ne hb]; exact hw.1) (by rw [(fc_cg (I := I) (J := (fb_leftm I wl (I 14 11))) (ww := ww) (g := 0) rfl rfl (zx_uI4_ne hb)).1]; exact (ok_w_g hw (by unfold fe_g; first | rw [if_pos c92] | rw [if_neg c92])).2.1) (by rw [(fc_cg (I := I) (J := (fb_leftm I wl (I 14 11))) (ww := ww) (g := 0) rfl rfl (zx_uI4_ne hb)).1]; exact (ok_w_g hw (by unfold fe_g; first | rw [if_pos c92] | rw [if_neg c92])).2.2)) ⟨Nat.le_refl _, Nat.le_refl _⟩ ?_
                refine zv_run 0 (pc' := 106) (lo' := [some (.ref 36), some (.ref 14), some (.ref ww), some (.int t)]) (st' := [.int (fc_is (fb_leftm I wl (I 14 11)) ww 0)]) (I' := (fc_m (fb_leftm I wl (I 14 11)) ww 0)) (L' := L) (R' := zw_RC h sp (some wl)) rfl ?_
                exact zv_zret (zs_at rfl) rfl (fc_is_01 _ _ _) ⟨Nat.le_refl _, Nat.le_refl _⟩ (zw_to (by rw [(fc_cg (I := I) (J := fb_leftm I wl (I 14 11)) (ww := ww) (g := 0) rfl rfl (zx_uI4_ne hb)).2]; unfold fe_can; rw [if_neg c5, if_pos c17, if_pos c31, if_pos (by unfold fe_lf; dsimp only; rw [if_pos c51]; exact c70), (show fe_g I 14 = 0 from by unfold fe_g; rw [if_pos c92])]) (by unfold fe_canm; rw [if_neg c5, if_pos c17, if_pos c31, if_pos (by unfold fe_lf; dsimp only; rw [if_pos c51]; exact c70), (show fe_g I 14 = 0 from by unfold fe_g; rw [if_pos c92])]; unfold fe_J; dsimp only; rw [if_pos c51]) rfl rfl)
              · have _c := c92
                refine zv_run 3 (pc' := 103) (lo' := [some (.ref 36), some (.ref 14), some (.ref ww), some (.int t)]) (st' := [.int (I 14 9), .ref ww, .ref 37, .ref 40]) (I' := (fb_leftm I wl (I 14 11))) (L' := L) (R' := zw_RC h sp (some wl)) rfl ?_
                refine zv_cV (M' := mm_X1_comesFrom) (ci := 1) (a := 40) (av := [.ref 37, .ref ww, .int (I 14 9)]) (st := []) (r := some (.int (fc_is (fb_leftm I wl (I 14 11)) ww (I 14 9)))) (I' := (fc_m (fb_leftm I wl (I 14 11)) ww (I 14 9))) (L' := L) (R' := zw_RC h sp (some wl)) rfl zc_3_189 gd_X1_comesFrom rfl rfl rfl (Nat.le_of_ble_eq_true rfl) (ct_X1_comesFrom (d := _) (I := (fb_leftm I wl (I 14 11))) (g := (I 14 9)) hT hb (by rw [zx_uI4_ne hb]; exact hw.1) (by rw [(fc_cg (I := I) (J := (fb_leftm I wl (I 14 11))) (ww := ww) (g := (I 14 9)) rfl rfl (zx_uI4_ne hb)).1]; exact (ok_w_g hw (by unfold fe_g; first | rw [if_pos c92] | rw [if_neg c92])).2.1) (by rw [(fc_cg (I := I) (J := (fb_leftm I wl (I 14 11))) (ww := ww) (g := (I 14 9)) rfl rfl (zx_uI4_ne hb)).1]; exact (ok_w_g hw (by unfold fe_g; first | rw [if_pos c92] | rw [if_neg c92])).2.2)) ⟨Nat.le_refl _, Nat.le_refl _⟩ ?_
                refine zv_run 0 (pc' := 106) (lo' := [some (.ref 36), some (.ref 14), some (.ref ww), some (.int t)]) (st' := [.int (fc_is (fb_leftm I wl (I 14 11)) ww (I 14 9))]) (I' := (fc_m (fb_leftm I wl (I 14 11)) ww (I 14 9))) (L' := L) (R' := zw_RC h sp (some wl)) rfl ?_
                exact zv_zret (zs_at rfl) rfl (fc_is_01 _ _ _) ⟨Nat.le_refl _, Nat.le_refl _⟩ (zw_to (by rw [(fc_cg (I := I) (J := fb_leftm I wl (I 14 11)) (ww := ww) (g := I 14 9) rfl rfl (zx_uI4_ne hb)).2]; unfold fe_can; rw [if_neg c5, if_pos c17, if_pos c31, if_pos (by unfold fe_lf; dsimp only; rw [if_pos c51]; exact c70), (show fe_g I 14 = I 14 9 from by unfold fe_g; rw [if_neg c92])]) (by unfold fe_canm; rw [if_neg c5, if_pos c17, if_pos c31, if_pos (by unfold fe_lf; dsimp only; rw [if_pos c51]; exact c70), (show fe_g I 14 = I 14 9 from by unfold fe_g; rw [if_neg c92])]; unfold fe_J; dsimp only; rw [if_pos c51]) rfl rfl)
            · have _c := c70
              refine zv_run 1 (pc' := 74) (lo' := [some (.ref 36), some (.ref 14), some (.ref ww), some (.int t)]) (st' := [.int 1]) (I' := (fb_leftm I wl (I 14 11))) (L' := L) (R' := zw_RC h sp (some wl)) rfl ?_
              exact zv_zret (zs_at rfl) rfl (Or.inr rfl) ⟨Nat.le_refl _, Nat.le_refl _⟩ (zw_to (by unfold fe_can; rw [if_neg c5, if_pos c17, if_pos c31, if_neg (by unfold fe_lf; dsimp only; rw [if_pos c51]; exact c70)]) (by unfold fe_canm; rw [if_neg c5, if_pos c17, if_pos c31, if_neg (by unfold fe_lf; dsimp only; rw [if_pos c51]; exact c70)]; unfold fe_J; dsimp only; rw [if_pos c51]) rfl rfl)
        · have _c := c31
          refine zv_run 1 (pc' := 35) (lo' := [some (.ref 36), some (.ref 14), some (.ref ww), some (.int t)]) (st' := [.int 0]) (I' := I) (L' := L) (R' := zw_RC h sp (some wl)) rfl ?_
          exact zv_zret (zs_at rfl) rfl (Or.inl rfl) ⟨Nat.le_refl _, Nat.le_refl _⟩ (zw_to (by unfold fe_can; rw [if_neg c5, if_pos c17, if_neg c31]) (by unfold fe_canm; rw [if_neg c5, if_pos c17, if_neg c31]) rfl rfl)
theorem ct_X3_can {d : Nat} {I : zx_I} {L : zx_L} {h sp : Nat} {la : Option Nat} {ww a : Nat} {t : Int32} (ha : a = 4 ∨ a = 14) (hT : tk_ok I) (hb : bt ww) (hl : ∀ wl, la = some wl → bt wl) (hw : ok_w I a ww) : zx_M0 mm_X3_can (d + 2) 0 0 [.ref 36, .ref a, .ref ww, .int t] zw_SC I L (zw_RC h sp la) (zw_ret (some (.int (fe_can I la a ww t))) zw_SC (fe_canm I la a ww t) L (zw_RC h sp la)) := by
  cases la with
  | none => exact ct_X3_can_n ha hT hb hw
  | some wl => exact ct_X3_can_s ha hT hb (hl wl rfl) hw
