/-! told, looks: comings over and over -/
def st_loop (h w : Nat) (b : Int32) (L : zx_L) : Nat → Nat → Int32 → zx_I → Int32 × zx_I
  | 0, _, s, J => (s, J)
  | n + 1, d, s, J => if J 26 (nI d).toNatClampNeg ≤ 0 then st_loop h w b L n (d + 1) s J else st_loop h w b L n (d + 1) (s + J 26 (nI d).toNatClampNeg * fr_score (zx_uI J w 9 (b + nI d)) L h) (fr_end (zx_uI J w 9 (b + nI d)) L h).1
def tl_loop (h w : Nat) (L : zx_L) : Nat → Nat → Int32 → Int32 → zx_I → Int32 × Int32 × zx_I
  | 0, _, s, m, J => (s, m, J)
  | n + 1, b, s, m, J => if s = -4 ∨ ¬ (st_loop h w (nI b) L 6 0 0 J).1 > m then tl_loop h w L n (b + 1) (nI b) (st_loop h w (nI b) L 6 0 0 J).1 (st_loop h w (nI b) L 6 0 0 J).2 else tl_loop h w L n (b + 1) s m (st_loop h w (nI b) L 6 0 0 J).2
def bc_J (h w : Nat) (L : zx_L) (x : Nat) (J : zx_I) : zx_I := (fr_end (zx_uI J w 9 (J w 5 + nI x)) L h).1
def bc_p (J : zx_I) (w : Nat) : Int32 := if J w 10 ≠ -4 then J w 11 + J w 10 - J w 9 else 198
def bc_loop (h w : Nat) (L : zx_L) : Nat → Nat → Int32 → Int32 → zx_I → Int32 × zx_I
  | 0, _, b, _, J => (b, J)
  | n + 1, x, b, m, J => if nI x = 0 ∨ ¬ bc_p (bc_J h w L x J) w ≥ m then bc_loop h w L n (x + 1) (bc_J h w L x J w 9) (bc_p (bc_J h w L x J) w) (bc_J h w L x J) else bc_loop h w L n (x + 1) b m (bc_J h w L x J)
def bc_best (h w : Nat) (L : zx_L) (J : zx_I) : Int32 × zx_I := bc_loop h w L 6 0 (J w 5) 0 J
def lk_next (h w : Nat) (L : zx_L) (J : zx_I) : zx_I := zx_uI (bc_best h w L J).2 w 9 (bc_best h w L J).1
def lk_an (an : Int32) (h w : Nat) (L : zx_L) (J : zx_I) : Int32 := if an ≠ 0 then 1 else if (bc_best h w L J).1 = J w 9 then 0 else 1
def lk_2 (h : Nat) (L : zx_L) : Nat → Nat → Int32 → zx_I → Int32 × zx_I
  | 0, _, an, J => (an, J)
  | n + 1, i, an, J => lk_2 h L n (i + 1) (lk_an an h (h + 4 + i) L J) (lk_next h (h + 4 + i) L J)
def lk_1 (h m : Nat) (L : zx_L) : Nat → Nat → Int32 → zx_I → Nat × Int32 × zx_I
  | 0, r, an, J => (r, an, J)
  | n + 1, r, an, J => if an = 0 then (r, an, J) else lk_1 h m L n (r + 1) (lk_2 h L m 0 0 J).1 (lk_2 h L m 0 0 J).2
theorem kr_st {K : zx_I → Prop} {h w : Nat} {b : Int32} {L : zx_L} (hK : kr K h) (hw9 : ∀ J x, K J → K (zx_uI J w 9 x)) : ∀ (n d : Nat) (s : Int32) (J : zx_I), K J → K (st_loop h w b L n d s J).2 := by
  intro n
  induction n with
  | zero => intro d s J hJ; exact hJ
  | succ n ih =>
    intro d s J hJ
    rw [st_loop]
    split
    · exact ih _ _ _ hJ
    · exact ih _ _ _ (hK _ _ (hw9 _ _ hJ)).2
theorem kr_bc {K : zx_I → Prop} {h w : Nat} {L : zx_L} (hK : kr K h) (hw9 : ∀ J x, K J → K (zx_uI J w 9 x)) : ∀ (n x : Nat) (b m : Int32) (J : zx_I), K J → K (bc_loop h w L n x b m J).2 := by
  intro n
  induction n with
  | zero => intro x b m J hJ; exact hJ
  | succ n ih =>
    intro x b m J hJ
    rw [bc_loop]
    split
    · exact ih _ _ _ _ (hK _ _ (hw9 _ _ hJ)).2
    · exact ih _ _ _ _ (hK _ _ (hw9 _ _ hJ)).2
theorem lp_X9_sum_4 {d : Nat} {K : zx_I → Prop} {ww : Nat} {b : Int32} {L : zx_L} (hb : bt ww) (hK : kr K 4) (hw9 : ∀ J x, K J → K (zx_uI J ww 9 x)) : ∀ (n t : Nat) (s : Int32) (J : zx_I) (la : Option Nat) (x5 : Option Value), t + n = 6 → K J → zx_V mm_X9_sumToldAt (d + 5) z0 (zw_any (some (.int (st_loop 4 ww b L n t s J).1)) (st_loop 4 ww b L n t s J).2 L 4 14) zw_SC 5 [some (.ref 0), some (.ref ww), some (.int b), some (.int s), some (.int (nI t)), x5] [] J L (zw_RC 4 14 la) := by
  intro n
  induction n with
  | zero =>
    intro t s J la x5 ht hJ
    refine zv_run 5 (pc' := 15) (lo' := [some (.ref 0), some (.ref ww), some (.int b), some (.int s), some (.int (nI t)), x5]) (st' := [.int 6, .int (nI t)]) (I' := J) (L' := L) (R' := zw_RC 4 14 la) rfl ?_
    refine zv_icmp_ge (tgt := 70) (zs_at rfl) (by decide) (fun c15 => ?_) (fun c15 => ?_)
    · have _c := c15
      refine zv_run 1 (pc' := 71) (lo' := [some (.ref 0), some (.ref ww), some (.int b), some (.int s), some (.int (nI t)), x5]) (st' := [.int s]) (I' := J) (L' := L) (R' := zw_RC 4 14 la) rfl ?_
      exact zv_iret (zs_at rfl) rfl ⟨Nat.le_refl _, Nat.le_refl _⟩ (zw_toa rfl rfl rfl)
    · exact absurd (by rw [show t = 6 by omega]; decide) c15
  | succ n ih =>
    intro t s J la x5 ht hJ
    refine zv_run 5 (pc' := 15) (lo' := [some (.ref 0), some (.ref ww), some (.int b), some (.int s), some (.int (nI t)), x5]) (st' := [.int 6, .int (nI t)]) (I' := J) (L' := L) (R' := zw_RC 4 14 la) rfl ?_
    refine zv_icmp_ge (tgt := 70) (zs_at rfl) (by decide) (fun c15 => ?_) (fun c15 => ?_)
    · exact absurd c15 (by exact nI_ge (a := t) (b := 6) (by omega) (by decide))
    · have _c := c15
      refine zv_run 4 (pc' := 27) (lo' := [some (.ref 0), some (.ref ww), some (.int b), some (.int s), some (.int (nI t)), x5]) (st' := [.int (nI t), .ref 26]) (I' := J) (L' := L) (R' := zw_RC 4 14 la) rfl ?_
      refine zv_iald (zs_at rfl) rfl (vp_in_nI (by omega) (by decide)) ?_
      refine zv_run 2 (pc' := 32) (lo' := [some (.ref 0), some (.ref ww), some (.int b), some (.int s), some (.int (nI t)), some (.int (J 26 ((nI t).toNatClampNeg)))]) (st' := [.int (J 26 ((nI t).toNatClampNeg))]) (I' := J) (L' := L) (R' := zw_RC 4 14 la) rfl ?_
      refine zv_if_le (tgt := 64) (zs_at rfl) (by decide) (fun c32 => ?_) (fun c32 => ?_)
      · have _c := c32
        refine zv_run 2 (pc' := 5) (lo' := [some (.ref 0), some (.ref ww), some (.int b), some (.int s), some (.int ((nI t) + 1)), some (.int (J 26 ((nI t).toNatClampNeg)))]) (st' := []) (I' := J) (L' := L) (R' := zw_RC 4 14 la) rfl ?_
        have e : st_loop 4 ww b L (n + 1) t s J = st_loop 4 ww b L n (t + 1) s J := by rw [st_loop]; rw [if_pos c32]
        rw [e, ← nI_succ]
        exact ih (t + 1) _ _ _ _ (by omega) (by first | exact hJ | exact (hK _ _ (hw9 _ _ hJ)).2)
      · have _c := c32
        refine zv_run 4 (pc' := 40) (lo' := [some (.ref 0), some (.ref ww), some (.int b), some (.int s), some (.int (nI t)), some (.int (J 26 ((nI t).toNatClampNeg)))]) (st' := [.int (b + (nI t)), .ref ww]) (I' := J) (L' := L) (R' := zw_RC 4 14 la) rfl ?_
        refine zs_putI (ci := 2) (k := 9) (zs_at rfl) (zf_ok rfl) (bt_S hb) (Or.inl rfl) rfl (fun q => absurd q (by decide)) ?_
        refine zv_run 8 (pc' := 58) (lo' := [some (.ref 0), some (.ref ww), some (.int b), some (.int s), some (.int (nI t)), some (.int (J 26 ((nI t).toNatClampNeg)))]) (st' := [.ref 34, .ref 4, .ref 36, .int (J 26 ((nI t).toNatClampNeg)), .int s]) (I' := (zx_uI J ww 9 (b + (nI t)))) (L' := L) (R' := zw_RC 4 14 la) rfl ?_
        refine zv_cV (M' := mm_X3_run) (ci := 3) (a := 36) (av := [.ref 4, .ref 34]) (st := [.int (J 26 ((nI t).toNatClampNeg)), .int s]) (r := some (.int (fr_score (zx_uI J ww 9 (b + (nI t))) L 4))) (I' := (fr_end (zx_uI J ww 9 (b + (nI t))) L 4).1) (L' := L) (R' := zw_RC 4 14 (fr_end (zx_uI J ww 9 (b + (nI t))) L 4).2) rfl zc_9_159 gd_X3_run rfl rfl rfl (Nat.le_of_ble_eq_true rfl) (ct_X3_run (d := _) (Or.inl rfl) (hK _ _ (hw9 _ _ hJ)).1) ⟨Nat.le_refl _, Nat.le_refl _⟩ ?_
        refine zv_run 0 (pc' := 61) (lo' := [some (.ref 0), some (.ref ww), some (.int b), some (.int s), some (.int (nI t)), some (.int (J 26 ((nI t).toNatClampNeg)))]) (st' := [.int (fr_score (zx_uI J ww 9 (b + (nI t))) L 4), .int (J 26 ((nI t).toNatClampNeg)), .int s]) (I' := (fr_end (zx_uI J ww 9 (b + (nI t))) L 4).1) (L' := L) (R' := zw_RC 4 14 (fr_end (zx_uI J ww 9 (b + (nI t))) L 4).2) rfl ?_
        refine zv_run 5 (pc' := 5) (lo' := [some (.ref 0), some (.ref ww), some (.int b), some (.int (s + ((J 26 ((nI t).toNatClampNeg)) * (fr_score (zx_uI J ww 9 (b + (nI t))) L 4)))), some (.int ((nI t) + 1)), some (.int (J 26 ((nI t).toNatClampNeg)))]) (st' := []) (I' := (fr_end (zx_uI J ww 9 (b + (nI t))) L 4).1) (L' := L) (R' := zw_RC 4 14 (fr_end (zx_uI J ww 9 (b + (nI t))) L 4).2) rfl ?_
        have e : st_loop 4 ww b L (n + 1) t s J = st_loop 4 ww b L n (t + 1) (s + J 26 (nI t).toNatClampNeg * fr_score (zx_uI J ww 9 (b + nI t)) L 4) (fr_end (zx_uI J ww 9 (b + nI t)) L 4).1 := by rw [st_loop]; rw [if_neg c32]
        rw [e, ← nI_succ]
        exact ih (t + 1) _ _ _ _ (by omega) (by first | exact hJ | exact (hK _ _ (hw9 _ _ hJ)).2)
theorem ct_X9_sum_4 {d : Nat} {K : zx_I → Prop} {ww : Nat} {b : Int32} {L : zx_L} (hb : bt ww) (hK : kr K 4) (hw9 : ∀ J x, K J → K (zx_uI J ww 9 x)) {J : zx_I} {la : Option Nat} (hJ : K J) : zx_M0 mm_X9_sumToldAt (d + 5) 0 0 [.ref 0, .ref ww, .int b] zw_SC J L (zw_RC 4 14 la) (zw_any (some (.int (st_loop 4 ww b L 6 0 0 J).1)) (st_loop 4 ww b L 6 0 0 J).2 L 4 14) := by
  refine zv_entry gd_X9_sumToldAt (Nat.le_of_ble_eq_true rfl) ?_
  refine zv_run 4 (pc' := 5) (lo' := [some (.ref 0), some (.ref ww), some (.int b), some (.int 0), some (.int 0), none]) (st' := []) (I' := J) (L' := L) (R' := zw_RC 4 14 la) rfl ?_
  exact lp_X9_sum_4 hb hK hw9 6 0 0 _ _ none rfl hJ
theorem lp_X9_sum_14 {d : Nat} {K : zx_I → Prop} {ww : Nat} {b : Int32} {L : zx_L} (hb : bt ww) (hK : kr K 14) (hw9 : ∀ J x, K J → K (zx_uI J ww 9 x)) : ∀ (n t : Nat) (s : Int32) (J : zx_I) (la : Option Nat) (x5 : Option Value), t + n = 6 → K J → zx_V mm_X9_sumToldAt (d + 5) z0 (zw_any (some (.int (st_loop 14 ww b L n t s J).1)) (st_loop 14 ww b L n t s J).2 L 14 4) zw_SC 5 [some (.ref 0), some (.ref ww), some (.int b), some (.int s), some (.int (nI t)), x5] [] J L (zw_RC 14 4 la) := by
  intro n
  induction n with
  | zero =>
    intro t s J la x5 ht hJ
    refine zv_run 5 (pc' := 15) (lo' := [some (.ref 0), some (.ref ww), some (.int b), some (.int s), some (.int (nI t)), x5]) (st' := [.int 6, .int (nI t)]) (I' := J) (L' := L) (R' := zw_RC 14 4 la) rfl ?_
    refine zv_icmp_ge (tgt := 70) (zs_at rfl) (by decide) (fun c15 => ?_) (fun c15 => ?_)
    · have _c := c15
      refine zv_run 1 (pc' := 71) (lo' := [some (.ref 0), some (.ref ww), some (.int b), some (.int s), some (.int (nI t)), x5]) (st' := [.int s]) (I' := J) (L' := L) (R' := zw_RC 14 4 la) rfl ?_
      exact zv_iret (zs_at rfl) rfl ⟨Nat.le_refl _, Nat.le_refl _⟩ (zw_toa rfl rfl rfl)
    · exact absurd (by rw [show t = 6 by omega]; decide) c15
  | succ n ih =>
    intro t s J la x5 ht hJ
    refine zv_run 5 (pc' := 15) (lo' := [some (.ref 0), some (.ref ww), some (.int b), some (.int s), some (.int (nI t)), x5]) (st' := [.int 6, .int (nI t)]) (I' := J) (L' := L) (R' := zw_RC 14 4 la) rfl ?_
    refine zv_icmp_ge (tgt := 70) (zs_at rfl) (by decide) (fun c15 => ?_) (fun c15 => ?_)
    · exact absurd c15 (by exact nI_ge (a := t) (b := 6) (by omega) (by decide))
    · have _c := c15
      refine zv_run 4 (pc' := 27) (lo' := [some (.ref 0), some (.ref ww), some (.int b), some (.int s), some (.int (nI t)), x5]) (st' := [.int (nI t), .ref 26]) (I' := J) (L' := L) (R' := zw_RC 14 4 la) rfl ?_
      refine zv_iald (zs_at rfl) rfl (vp_in_nI (by omega) (by decide)) ?_
      refine zv_run 2 (pc' := 32) (lo' := [some (.ref 0), some (.ref ww), some (.int b), some (.int s), some (.int (nI t)), some (.int (J 26 ((nI t).toNatClampNeg)))]) (st' := [.int (J 26 ((nI t).toNatClampNeg))]) (I' := J) (L' := L) (R' := zw_RC 14 4 la) rfl ?_
      refine zv_if_le (tgt := 64) (zs_at rfl) (by decide) (fun c32 => ?_) (fun c32 => ?_)
      · have _c := c32
        refine zv_run 2 (pc' := 5) (lo' := [some (.ref 0), some (.ref ww), some (.int b), some (.int s), some (.int ((nI t) + 1)), some (.int (J 26 ((nI t).toNatClampNeg)))]) (st' := []) (I' := J) (L' := L) (R' := zw_RC 14 4 la) rfl ?_
        have e : st_loop 14 ww b L (n + 1) t s J = st_loop 14 ww b L n (t + 1) s J := by rw [st_loop]; rw [if_pos c32]
        rw [e, ← nI_succ]
        exact ih (t + 1) _ _ _ _ (by omega) (by first | exact hJ | exact (hK _ _ (hw9 _ _ hJ)).2)
      · have _c := c32
        refine zv_run 4 (pc' := 40) (lo' := [some (.ref 0), some (.ref ww), some (.int b), some (.int s), some (.int (nI t)), some (.int (J 26 ((nI t).toNatClampNeg)))]) (st' := [.int (b + (nI t)), .ref ww]) (I' := J) (L' := L) (R' := zw_RC 14 4 la) rfl ?_
        refine zs_putI (ci := 2) (k := 9) (zs_at rfl) (zf_ok rfl) (bt_S hb) (Or.inl rfl) rfl (fun q => absurd q (by decide)) ?_
        refine zv_run 8 (pc' := 58) (lo' := [some (.ref 0), some (.ref ww), some (.int b), some (.int s), some (.int (nI t)), some (.int (J 26 ((nI t).toNatClampNeg)))]) (st' := [.ref 34, .ref 14, .ref 36, .int (J 26 ((nI t).toNatClampNeg)), .int s]) (I' := (zx_uI J ww 9 (b + (nI t)))) (L' := L) (R' := zw_RC 14 4 la) rfl ?_
        refine zv_cV (M' := mm_X3_run) (ci := 3) (a := 36) (av := [.ref 14, .ref 34]) (st := [.int (J 26 ((nI t).toNatClampNeg)), .int s]) (r := some (.int (fr_score (zx_uI J ww 9 (b + (nI t))) L 14))) (I' := (fr_end (zx_uI J ww 9 (b + (nI t))) L 14).1) (L' := L) (R' := zw_RC 14 4 (fr_end (zx_uI J ww 9 (b + (nI t))) L 14).2) rfl zc_9_159 gd_X3_run rfl rfl rfl (Nat.le_of_ble_eq_true rfl) (ct_X3_run (d := _) (Or.inr rfl) (hK _ _ (hw9 _ _ hJ)).1) ⟨Nat.le_refl _, Nat.le_refl _⟩ ?_
        refine zv_run 0 (pc' := 61) (lo' := [some (.ref 0), some (.ref ww), some (.int b), some (.int s), some (.int (nI t)), some (.int (J 26 ((nI t).toNatClampNeg)))]) (st' := [.int (fr_score (zx_uI J ww 9 (b + (nI t))) L 14), .int (J 26 ((nI t).toNatClampNeg)), .int s]) (I' := (fr_end (zx_uI J ww 9 (b + (nI t))) L 14).1) (L' := L) (R' := zw_RC 14 4 (fr_end (zx_uI J ww 9 (b + (nI t))) L 14).2) rfl ?_
        refine zv_run 5 (pc' := 5) (lo' := [some (.ref 0), some (.ref ww), some (.int b), some (.int (s + ((J 26 ((nI t).toNatClampNeg)) * (fr_score (zx_uI J ww 9 (b + (nI t))) L 14)))), some (.int ((nI t) + 1)), some (.int (J 26 ((nI t).toNatClampNeg)))]) (st' := []) (I' := (fr_end (zx_uI J ww 9 (b + (nI t))) L 14).1) (L' := L) (R' := zw_RC 14 4 (fr_end (zx_uI J ww 9 (b + (nI t))) L 14).2) rfl ?_
        have e : st_loop 14 ww b L (n + 1) t s J = st_loop 14 ww b L n (t + 1) (s + J 26 (nI t).toNatClampNeg * fr_score (zx_uI J ww 9 (b + nI t)) L 14) (fr_end (zx_uI J ww 9 (b + nI t)) L 14).1 := by rw [st_loop]; rw [if_neg c32]
        rw [e, ← nI_succ]
        exact ih (t + 1) _ _ _ _ (by omega) (by first | exact hJ | exact (hK _ _ (hw9 _ _ hJ)).2)
theorem ct_X9_sum_14 {d : Nat} {K : zx_I → Prop} {ww : Nat} {b : Int32} {L : zx_L} (hb : bt ww) (hK : kr K 14) (hw9 : ∀ J x, K J → K (zx_uI J ww 9 x)) {J : zx_I} {la : Option Nat} (hJ : K J) : zx_M0 mm_X9_sumToldAt (d + 5) 0 0 [.ref 0, .ref ww, .int b] zw_SC J L (zw_RC 14 4 la) (zw_any (some (.int (st_loop 14 ww b L 6 0 0 J).1)) (st_loop 14 ww b L 6 0 0 J).2 L 14 4) := by
  refine zv_entry gd_X9_sumToldAt (Nat.le_of_ble_eq_true rfl) ?_
  refine zv_run 4 (pc' := 5) (lo' := [some (.ref 0), some (.ref ww), some (.int b), some (.int 0), some (.int 0), none]) (st' := []) (I' := J) (L' := L) (R' := zw_RC 14 4 la) rfl ?_
  exact lp_X9_sum_14 hb hK hw9 6 0 0 _ _ none rfl hJ
theorem nI_ngt5 {t : Nat} (h : t < 6) : ¬ nI t > 5 := by
  match t, h with
  | 0, _ => decide
  | 1, _ => decide
  | 2, _ => decide
  | 3, _ => decide
  | 4, _ => decide
  | 5, _ => decide
  | n + 6, h => exact absurd h (by omega)
theorem lp_X9_btc_4 {d : Nat} {K : zx_I → Prop} {ww : Nat} {L : zx_L} (hb : bt ww) (hK : kr K 4) (hw9 : ∀ J x, K J → K (zx_uI J ww 9 x)) : ∀ (n t : Nat) (b m : Int32) (J : zx_I) (la : Option Nat) (x5 : Option Value), t + n = 6 → K J → zx_V mm_X9_bestToCome (d + 5) z0 (zw_any (some (.int (bc_loop 4 ww L n t b m J).1)) (bc_loop 4 ww L n t b m J).2 L 4 14) zw_SC 10 [some (.ref 0), some (.ref ww), some (.int b), some (.int m), some (.int (nI t)), x5] [] J L (zw_RC 4 14 la) := by
  intro n
  induction n with
  | zero =>
    intro t b m J la x5 ht hJ
    refine zv_run 2 (pc' := 13) (lo' := [some (.ref 0), some (.ref ww), some (.int b), some (.int m), some (.int (nI t)), x5]) (st' := [.int 5, .int (nI t)]) (I' := J) (L' := L) (R' := zw_RC 4 14 la) rfl ?_
    refine zv_icmp_gt (tgt := 99) (zs_at rfl) (by decide) (fun c13 => ?_) (fun c13 => ?_)
    · have _c := c13
      refine zv_run 1 (pc' := 100) (lo' := [some (.ref 0), some (.ref ww), some (.int b), some (.int m), some (.int (nI t)), x5]) (st' := [.int b]) (I' := J) (L' := L) (R' := zw_RC 4 14 la) rfl ?_
      exact zv_iret (zs_at rfl) rfl ⟨Nat.le_refl _, Nat.le_refl _⟩ (zw_toa rfl rfl rfl)
    · exact absurd (by rw [show t = 6 by omega]; decide) c13
  | succ n ih =>
    intro t b m J la x5 ht hJ
    refine zv_run 2 (pc' := 13) (lo' := [some (.ref 0), some (.ref ww), some (.int b), some (.int m), some (.int (nI t)), x5]) (st' := [.int 5, .int (nI t)]) (I' := J) (L' := L) (R' := zw_RC 4 14 la) rfl ?_
    refine zv_icmp_gt (tgt := 99) (zs_at rfl) (by decide) (fun c13 => ?_) (fun c13 => ?_)
    · exact absurd c13 (nI_ngt5 (by omega))
    · have _c := c13
      refine zv_run 2 (pc' := 18) (lo' := [some (.ref 0), some (.ref ww), some (.int b), some (.int m), some (.int (nI t)), x5]) (st' := [.ref ww, .ref ww]) (I' := J) (L' := L) (R' := zw_RC 4 14 la) rfl ?_
      refine zv_get (ci := 2) (k := 5) (t := 0) (zs_at rfl) (zf_ok rfl) (bt_S hb) rfl ?_
      refine zv_run 0 (pc' := 21) (lo' := [some (.ref 0), some (.ref ww), some (.int b), some (.int m), some (.int (nI t)), x5]) (st' := [.int (J ww 5), .ref ww]) (I' := J) (L' := L) (R' := zw_RC 4 14 la) rfl ?_
      refine zv_run 2 (pc' := 24) (lo' := [some (.ref 0), some (.ref ww), some (.int b), some (.int m), some (.int (nI t)), x5]) (st' := [.int ((J ww 5) + (nI t)), .ref ww]) (I' := J) (L' := L) (R' := zw_RC 4 14 la) rfl ?_
      refine zs_putI (ci := 2) (k := 9) (zs_at rfl) (zf_ok rfl) (bt_S hb) (Or.inl rfl) rfl (fun q => absurd q (by decide)) ?_
      refine zv_run 6 (pc' := 39) (lo' := [some (.ref 0), some (.ref ww), some (.int b), some (.int m), some (.int (nI t)), x5]) (st' := [.ref 34, .ref 4, .ref 36]) (I' := (zx_uI J ww 9 ((J ww 5) + (nI t)))) (L' := L) (R' := zw_RC 4 14 la) rfl ?_
      refine zv_cV (M' := mm_X3_run) (ci := 3) (a := 36) (av := [.ref 4, .ref 34]) (st := []) (r := some (.int (fr_score (zx_uI J ww 9 ((J ww 5) + (nI t))) L 4))) (I' := (fr_end (zx_uI J ww 9 ((J ww 5) + (nI t))) L 4).1) (L' := L) (R' := zw_RC 4 14 (fr_end (zx_uI J ww 9 ((J ww 5) + (nI t))) L 4).2) rfl zc_9_159 gd_X3_run rfl rfl rfl (Nat.le_of_ble_eq_true rfl) (ct_X3_run (d := _) (Or.inl rfl) (hK _ _ (hw9 _ _ hJ)).1) ⟨Nat.le_refl _, Nat.le_refl _⟩ ?_
      refine zv_run 0 (pc' := 42) (lo' := [some (.ref 0), some (.ref ww), some (.int b), some (.int m), some (.int (nI t)), x5]) (st' := [.int (fr_score (zx_uI J ww 9 ((J ww 5) + (nI t))) L 4)]) (I' := (fr_end (zx_uI J ww 9 ((J ww 5) + (nI t))) L 4).1) (L' := L) (R' := zw_RC 4 14 (fr_end (zx_uI J ww 9 ((J ww 5) + (nI t))) L 4).2) rfl ?_
      refine zv_run 2 (pc' := 44) (lo' := [some (.ref 0), some (.ref ww), some (.int b), some (.int m), some (.int (nI t)), x5]) (st' := [.ref ww]) (I' := (fr_end (zx_uI J ww 9 ((J ww 5) + (nI t))) L 4).1) (L' := L) (R' := zw_RC 4 14 (fr_end (zx_uI J ww 9 ((J ww 5) + (nI t))) L 4).2) rfl ?_
      refine zv_get (ci := 2) (k := 10) (t := 0) (zs_at rfl) (zf_ok rfl) (bt_S hb) rfl ?_
      refine zv_run 0 (pc' := 47) (lo' := [some (.ref 0), some (.ref ww), some (.int b), some (.int m), some (.int (nI t)), x5]) (st' := [.int ((fr_end (zx_uI J ww 9 ((J ww 5) + (nI t))) L 4).1 ww 10)]) (I' := (fr_end (zx_uI J ww 9 ((J ww 5) + (nI t))) L 4).1) (L' := L) (R' := zw_RC 4 14 (fr_end (zx_uI J ww 9 ((J ww 5) + (nI t))) L 4).2) rfl ?_
      refine zv_run 1 (pc' := 49) (lo' := [some (.ref 0), some (.ref ww), some (.int b), some (.int m), some (.int (nI t)), x5]) (st' := [.int (-4), .int ((fr_end (zx_uI J ww 9 ((J ww 5) + (nI t))) L 4).1 ww 10)]) (I' := (fr_end (zx_uI J ww 9 ((J ww 5) + (nI t))) L 4).1) (L' := L) (R' := zw_RC 4 14 (fr_end (zx_uI J ww 9 ((J ww 5) + (nI t))) L 4).2) rfl ?_
      refine zv_icmp_ne (tgt := 58) (zs_at rfl) (by decide) (fun c49 => ?_) (fun c49 => ?_)
      · have _c := c49
        refine zv_run 1 (pc' := 59) (lo' := [some (.ref 0), some (.ref ww), some (.int b), some (.int m), some (.int (nI t)), x5]) (st' := [.ref ww]) (I' := (fr_end (zx_uI J ww 9 ((J ww 5) + (nI t))) L 4).1) (L' := L) (R' := zw_RC 4 14 (fr_end (zx_uI J ww 9 ((J ww 5) + (nI t))) L 4).2) rfl ?_
        refine zv_get (ci := 2) (k := 11) (t := 0) (zs_at rfl) (zf_ok rfl) (bt_S hb) rfl ?_
        refine zv_run 0 (pc' := 62) (lo' := [some (.ref 0), some (.ref ww), some (.int b), some (.int m), some (.int (nI t)), x5]) (st' := [.int ((fr_end (zx_uI J ww 9 ((J ww 5) + (nI t))) L 4).1 ww 11)]) (I' := (fr_end (zx_uI J ww 9 ((J ww 5) + (nI t))) L 4).1) (L' := L) (R' := zw_RC 4 14 (fr_end (zx_uI J ww 9 ((J ww 5) + (nI t))) L 4).2) rfl ?_
        refine zv_run 1 (pc' := 63) (lo' := [some (.ref 0), some (.ref ww), some (.int b), some (.int m), some (.int (nI t)), x5]) (st' := [.ref ww, .int ((fr_end (zx_uI J ww 9 ((J ww 5) + (nI t))) L 4).1 ww 11)]) (I' := (fr_end (zx_uI J ww 9 ((J ww 5) + (nI t))) L 4).1) (L' := L) (R' := zw_RC 4 14 (fr_end (zx_uI J ww 9 ((J ww 5) + (nI t))) L 4).2) rfl ?_
        refine zv_get (ci := 2) (k := 10) (t := 0) (zs_at rfl) (zf_ok rfl) (bt_S hb) rfl ?_
        refine zv_run 0 (pc' := 66) (lo' := [some (.ref 0), some (.ref ww), some (.int b), some (.int m), some (.int (nI t)), x5]) (st' := [.int ((fr_end (zx_uI J ww 9 ((J ww 5) + (nI t))) L 4).1 ww 10), .int ((fr_end (zx_uI J ww 9 ((J ww 5) + (nI t))) L 4).1 ww 11)]) (I' := (fr_end (zx_uI J ww 9 ((J ww 5) + (nI t))) L 4).1) (L' := L) (R' := zw_RC 4 14 (fr_end (zx_uI J ww 9 ((J ww 5) + (nI t))) L 4).2) rfl ?_
        refine zv_run 2 (pc' := 68) (lo' := [some (.ref 0), some (.ref ww), some (.int b), some (.int m), some (.int (nI t)), x5]) (st' := [.ref ww, .int (((fr_end (zx_uI J ww 9 ((J ww 5) + (nI t))) L 4).1 ww 11) + ((fr_end (zx_uI J ww 9 ((J ww 5) + (nI t))) L 4).1 ww 10))]) (I' := (fr_end (zx_uI J ww 9 ((J ww 5) + (nI t))) L 4).1) (L' := L) (R' := zw_RC 4 14 (fr_end (zx_uI J ww 9 ((J ww 5) + (nI t))) L 4).2) rfl ?_
        refine zv_get (ci := 2) (k := 9) (t := 0) (zs_at rfl) (zf_ok rfl) (bt_S hb) rfl ?_
        refine zv_run 0 (pc' := 71) (lo' := [some (.ref 0), some (.ref ww), some (.int b), some (.int m), some (.int (nI t)), x5]) (st' := [.int ((fr_end (zx_uI J ww 9 ((J ww 5) + (nI t))) L 4).1 ww 9), .int (((fr_end (zx_uI J ww 9 ((J ww 5) + (nI t))) L 4).1 ww 11) + ((fr_end (zx_uI J ww 9 ((J ww 5) + (nI t))) L 4).1 ww 10))]) (I' := (fr_end (zx_uI J ww 9 ((J ww 5) + (nI t))) L 4).1) (L' := L) (R' := zw_RC 4 14 (fr_end (zx_uI J ww 9 ((J ww 5) + (nI t))) L 4).2) rfl ?_
        refine zv_run 3 (pc' := 76) (lo' := [some (.ref 0), some (.ref ww), some (.int b), some (.int m), some (.int (nI t)), some (.int ((((fr_end (zx_uI J ww 9 ((J ww 5) + (nI t))) L 4).1 ww 11) + ((fr_end (zx_uI J ww 9 ((J ww 5) + (nI t))) L 4).1 ww 10)) - ((fr_end (zx_uI J ww 9 ((J ww 5) + (nI t))) L 4).1 ww 9)))]) (st' := [.int (nI t)]) (I' := (fr_end (zx_uI J ww 9 ((J ww 5) + (nI t))) L 4).1) (L' := L) (R' := zw_RC 4 14 (fr_end (zx_uI J ww 9 ((J ww 5) + (nI t))) L 4).2) rfl ?_
        refine zv_if_eq (tgt := 85) (zs_at rfl) (by decide) (fun c76 => ?_) (fun c76 => ?_)
        · have _c := c76
          refine zv_run 1 (pc' := 86) (lo' := [some (.ref 0), some (.ref ww), some (.int b), some (.int m), some (.int (nI t)), some (.int ((((fr_end (zx_uI J ww 9 ((J ww 5) + (nI t))) L 4).1 ww 11) + ((fr_end (zx_uI J ww 9 ((J ww 5) + (nI t))) L 4).1 ww 10)) - ((fr_end (zx_uI J ww 9 ((J ww 5) + (nI t))) L 4).1 ww 9)))]) (st' := [.ref ww]) (I' := (fr_end (zx_uI J ww 9 ((J ww 5) + (nI t))) L 4).1) (L' := L) (R' := zw_RC 4 14 (fr_end (zx_uI J ww 9 ((J ww 5) + (nI t))) L 4).2) rfl ?_
          refine zv_get (ci := 2) (k := 9) (t := 0) (zs_at rfl) (zf_ok rfl) (bt_S hb) rfl ?_
          refine zv_run 0 (pc' := 89) (lo' := [some (.ref 0), some (.ref ww), some (.int b), some (.int m), some (.int (nI t)), some (.int ((((fr_end (zx_uI J ww 9 ((J ww 5) + (nI t))) L 4).1 ww 11) + ((fr_end (zx_uI J ww 9 ((J ww 5) + (nI t))) L 4).1 ww 10)) - ((fr_end (zx_uI J ww 9 ((J ww 5) + (nI t))) L 4).1 ww 9)))]) (st' := [.int ((fr_end (zx_uI J ww 9 ((J ww 5) + (nI t))) L 4).1 ww 9)]) (I' := (fr_end (zx_uI J ww 9 ((J ww 5) + (nI t))) L 4).1) (L' := L) (R' := zw_RC 4 14 (fr_end (zx_uI J ww 9 ((J ww 5) + (nI t))) L 4).2) rfl ?_
          refine zv_run 5 (pc' := 10) (lo' := [some (.ref 0), some (.ref ww), some (.int ((fr_end (zx_uI J ww 9 ((J ww 5) + (nI t))) L 4).1 ww 9)), some (.int ((((fr_end (zx_uI J ww 9 ((J ww 5) + (nI t))) L 4).1 ww 11) + ((fr_end (zx_uI J ww 9 ((J ww 5) + (nI t))) L 4).1 ww 10)) - ((fr_end (zx_uI J ww 9 ((J ww 5) + (nI t))) L 4).1 ww 9))), some (.int ((nI t) + 1)), some (.int ((((fr_end (zx_uI J ww 9 ((J ww 5) + (nI t))) L 4).1 ww 11) + ((fr_end (zx_uI J ww 9 ((J ww 5) + (nI t))) L 4).1 ww 10)) - ((fr_end (zx_uI J ww 9 ((J ww 5) + (nI t))) L 4).1 ww 9)))]) (st' := []) (I' := (fr_end (zx_uI J ww 9 ((J ww 5) + (nI t))) L 4).1) (L' := L) (R' := zw_RC 4 14 (fr_end (zx_uI J ww 9 ((J ww 5) + (nI t))) L 4).2) rfl ?_
          have ep : bc_p (bc_J 4 ww L t J) ww = (((fr_end (zx_uI J ww 9 ((J ww 5) + (nI t))) L 4).1 ww 11) + ((fr_end (zx_uI J ww 9 ((J ww 5) + (nI t))) L 4).1 ww 10)) - ((fr_end (zx_uI J ww 9 ((J ww 5) + (nI t))) L 4).1 ww 9) := by unfold bc_p; exact if_pos (show (bc_J 4 ww L t J) ww 10 ≠ -4 from c49)
          have e : bc_loop 4 ww L (n + 1) t b m J = bc_loop 4 ww L n (t + 1) ((bc_J 4 ww L t J) ww 9) (bc_p (bc_J 4 ww L t J) ww) (bc_J 4 ww L t J) := by rw [bc_loop]; rw [if_pos (show nI t = 0 ∨ ¬ bc_p (bc_J 4 ww L t J) ww ≥ m from by first | exact Or.inl c76 | (rw [ep]; exact Or.inr c82))]
          rw [e, ep, ← nI_succ]
          exact ih (t + 1) _ _ _ _ _ (by omega) (hK _ _ (hw9 _ _ hJ)).2
        · have _c := c76
          refine zv_run 2 (pc' := 82) (lo' := [some (.ref 0), some (.ref ww), some (.int b), some (.int m), some (.int (nI t)), some (.int ((((fr_end (zx_uI J ww 9 ((J ww 5) + (nI t))) L 4).1 ww 11) + ((fr_end (zx_uI J ww 9 ((J ww 5) + (nI t))) L 4).1 ww 10)) - ((fr_end (zx_uI J ww 9 ((J ww 5) + (nI t))) L 4).1 ww 9)))]) (st' := [.int m, .int ((((fr_end (zx_uI J ww 9 ((J ww 5) + (nI t))) L 4).1 ww 11) + ((fr_end (zx_uI J ww 9 ((J ww 5) + (nI t))) L 4).1 ww 10)) - ((fr_end (zx_uI J ww 9 ((J ww 5) + (nI t))) L 4).1 ww 9))]) (I' := (fr_end (zx_uI J ww 9 ((J ww 5) + (nI t))) L 4).1) (L' := L) (R' := zw_RC 4 14 (fr_end (zx_uI J ww 9 ((J ww 5) + (nI t))) L 4).2) rfl ?_
          refine zv_icmp_ge (tgt := 93) (zs_at rfl) (by decide) (fun c82 => ?_) (fun c82 => ?_)
          · have _c := c82
            refine zv_run 2 (pc' := 10) (lo' := [some (.ref 0), some (.ref ww), some (.int b), some (.int m), some (.int ((nI t) + 1)), some (.int ((((fr_end (zx_uI J ww 9 ((J ww 5) + (nI t))) L 4).1 ww 11) + ((fr_end (zx_uI J ww 9 ((J ww 5) + (nI t))) L 4).1 ww 10)) - ((fr_end (zx_uI J ww 9 ((J ww 5) + (nI t))) L 4).1 ww 9)))]) (st' := []) (I' := (fr_end (zx_uI J ww 9 ((J ww 5) + (nI t))) L 4).1) (L' := L) (R' := zw_RC 4 14 (fr_end (zx_uI J ww 9 ((J ww 5) + (nI t))) L 4).2) rfl ?_
            have ep : bc_p (bc_J 4 ww L t J) ww = (((fr_end (zx_uI J ww 9 ((J ww 5) + (nI t))) L 4).1 ww 11) + ((fr_end (zx_uI J ww 9 ((J ww 5) + (nI t))) L 4).1 ww 10)) - ((fr_end (zx_uI J ww 9 ((J ww 5) + (nI t))) L 4).1 ww 9) := by unfold bc_p; exact if_pos (show (bc_J 4 ww L t J) ww 10 ≠ -4 from c49)
            have e : bc_loop 4 ww L (n + 1) t b m J = bc_loop 4 ww L n (t + 1) b m (bc_J 4 ww L t J) := by rw [bc_loop]; rw [if_neg (show ¬ (nI t = 0 ∨ ¬ bc_p (bc_J 4 ww L t J) ww ≥ m) from by rw [ep]; exact fun q => q.elim c76 (fun q => q c82))]
            rw [e, ← nI_succ]
            exact ih (t + 1) _ _ _ _ _ (by omega) (hK _ _ (hw9 _ _ hJ)).2
          · have _c := c82
            refine zv_run 1 (pc' := 86) (lo' := [some (.ref 0), some (.ref ww), some (.int b), some (.int m), some (.int (nI t)), some (.int ((((fr_end (zx_uI J ww 9 ((J ww 5) + (nI t))) L 4).1 ww 11) + ((fr_end (zx_uI J ww 9 ((J ww 5) + (nI t))) L 4).1 ww 10)) - ((fr_end (zx_uI J ww 9 ((J ww 5) + (nI t))) L 4).1 ww 9)))]) (st' := [.ref ww]) (I' := (fr_end (zx_uI J ww 9 ((J ww 5) + (nI t))) L 4).1) (L' := L) (R' := zw_RC 4 14 (fr_end (zx_uI J ww 9 ((J ww 5) + (nI t))) L 4).2) rfl ?_
            refine zv_get (ci := 2) (k := 9) (t := 0) (zs_at rfl) (zf_ok rfl) (bt_S hb) rfl ?_
            refine zv_run 0 (pc' := 89) (lo' := [some (.ref 0), some (.ref ww), some (.int b), some (.int m), some (.int (nI t)), some (.int ((((fr_end (zx_uI J ww 9 ((J ww 5) + (nI t))) L 4).1 ww 11) + ((fr_end (zx_uI J ww 9 ((J ww 5) + (nI t))) L 4).1 ww 10)) - ((fr_end (zx_uI J ww 9 ((J ww 5) + (nI t))) L 4).1 ww 9)))]) (st' := [.int ((fr_end (zx_uI J ww 9 ((J ww 5) + (nI t))) L 4).1 ww 9)]) (I' := (fr_end (zx_uI J ww 9 ((J ww 5) + (nI t))) L 4).1) (L' := L) (R' := zw_RC 4 14 (fr_end (zx_uI J ww 9 ((J ww 5) + (nI t))) L 4).2) rfl ?_
            refine zv_run 5 (pc' := 10) (lo' := [some (.ref 0), some (.ref ww), some (.int ((fr_end (zx_uI J ww 9 ((J ww 5) + (nI t))) L 4).1 ww 9)), some (.int ((((fr_end (zx_uI J ww 9 ((J ww 5) + (nI t))) L 4).1 ww 11) + ((fr_end (zx_uI J ww 9 ((J ww 5) + (nI t))) L 4).1 ww 10)) - ((fr_end (zx_uI J ww 9 ((J ww 5) + (nI t))) L 4).1 ww 9))), some (.int ((nI t) + 1)), some (.int ((((fr_end (zx_uI J ww 9 ((J ww 5) + (nI t))) L 4).1 ww 11) + ((fr_end (zx_uI J ww 9 ((J ww 5) + (nI t))) L 4).1 ww 10)) - ((fr_end (zx_uI J ww 9 ((J ww 5) + (nI t))) L 4).1 ww 9)))]) (st' := []) (I' := (fr_end (zx_uI J ww 9 ((J ww 5) + (nI t))) L 4).1) (L' := L) (R' := zw_RC 4 14 (fr_end (zx_uI J ww 9 ((J ww 5) + (nI t))) L 4).2) rfl ?_
            have ep : bc_p (bc_J 4 ww L t J) ww = (((fr_end (zx_uI J ww 9 ((J ww 5) + (nI t))) L 4).1 ww 11) + ((fr_end (zx_uI J ww 9 ((J ww 5) + (nI t))) L 4).1 ww 10)) - ((fr_end (zx_uI J ww 9 ((J ww 5) + (nI t))) L 4).1 ww 9) := by unfold bc_p; exact if_pos (show (bc_J 4 ww L t J) ww 10 ≠ -4 from c49)
            have e : bc_loop 4 ww L (n + 1) t b m J = bc_loop 4 ww L n (t + 1) ((bc_J 4 ww L t J) ww 9) (bc_p (bc_J 4 ww L t J) ww) (bc_J 4 ww L t J) := by rw [bc_loop]; rw [if_pos (show nI t = 0 ∨ ¬ bc_p (bc_J 4 ww L t J) ww ≥ m from by first | exact Or.inl c76 | (rw [ep]; exact Or.inr c82))]
            rw [e, ep, ← nI_succ]
            exact ih (t + 1) _ _ _ _ _ (by omega) (hK _ _ (hw9 _ _ hJ)).2
      · have _c := c49
        refine zv_run 2 (pc' := 72) (lo' := [some (.ref 0), some (.ref ww), some (.int b), some (.int m), some (.int (nI t)), x5]) (st' := [.int 198]) (I' := (fr_end (zx_uI J ww 9 ((J ww 5) + (nI t))) L 4).1) (L' := L) (R' := zw_RC 4 14 (fr_end (zx_uI J ww 9 ((J ww 5) + (nI t))) L 4).2) rfl ?_
        refine zv_run 2 (pc' := 76) (lo' := [some (.ref 0), some (.ref ww), some (.int b), some (.int m), some (.int (nI t)), some (.int 198)]) (st' := [.int (nI t)]) (I' := (fr_end (zx_uI J ww 9 ((J ww 5) + (nI t))) L 4).1) (L' := L) (R' := zw_RC 4 14 (fr_end (zx_uI J ww 9 ((J ww 5) + (nI t))) L 4).2) rfl ?_
        refine zv_if_eq (tgt := 85) (zs_at rfl) (by decide) (fun c76 => ?_) (fun c76 => ?_)
        · have _c := c76
          refine zv_run 1 (pc' := 86) (lo' := [some (.ref 0), some (.ref ww), some (.int b), some (.int m), some (.int (nI t)), some (.int 198)]) (st' := [.ref ww]) (I' := (fr_end (zx_uI J ww 9 ((J ww 5) + (nI t))) L 4).1) (L' := L) (R' := zw_RC 4 14 (fr_end (zx_uI J ww 9 ((J ww 5) + (nI t))) L 4).2) rfl ?_
          refine zv_get (ci := 2) (k := 9) (t := 0) (zs_at rfl) (zf_ok rfl) (bt_S hb) rfl ?_
          refine zv_run 0 (pc' := 89) (lo' := [some (.ref 0), some (.ref ww), some (.int b), some (.int m), some (.int (nI t)), some (.int 198)]) (st' := [.int ((fr_end (zx_uI J ww 9 ((J ww 5) + (nI t))) L 4).1 ww 9)]) (I' := (fr_end (zx_uI J ww 9 ((J ww 5) + (nI t))) L 4).1) (L' := L) (R' := zw_RC 4 14 (fr_end (zx_uI J ww 9 ((J ww 5) + (nI t))) L 4).2) rfl ?_
          refine zv_run 5 (pc' := 10) (lo' := [some (.ref 0), some (.ref ww), some (.int ((fr_end (zx_uI J ww 9 ((J ww 5) + (nI t))) L 4).1 ww 9)), some (.int 198), some (.int ((nI t) + 1)), some (.int 198)]) (st' := []) (I' := (fr_end (zx_uI J ww 9 ((J ww 5) + (nI t))) L 4).1) (L' := L) (R' := zw_RC 4 14 (fr_end (zx_uI J ww 9 ((J ww 5) + (nI t))) L 4).2) rfl ?_
          have ep : bc_p (bc_J 4 ww L t J) ww = 198 := by unfold bc_p; exact if_neg (fun q => q c49)
          have e : bc_loop 4 ww L (n + 1) t b m J = bc_loop 4 ww L n (t + 1) ((bc_J 4 ww L t J) ww 9) (bc_p (bc_J 4 ww L t J) ww) (bc_J 4 ww L t J) := by rw [bc_loop]; rw [if_pos (show nI t = 0 ∨ ¬ bc_p (bc_J 4 ww L t J) ww ≥ m from by first | exact Or.inl c76 | (rw [ep]; exact Or.inr c82))]
          rw [e, ep, ← nI_succ]
          exact ih (t + 1) _ _ _ _ _ (by omega) (hK _ _ (hw9 _ _ hJ)).2
        · have _c := c76
          refine zv_run 2 (pc' := 82) (lo' := [some (.ref 0), some (.ref ww), some (.int b), some (.int m), some (.int (nI t)), some (.int 198)]) (st' := [.int m, .int 198]) (I' := (fr_end (zx_uI J ww 9 ((J ww 5) + (nI t))) L 4).1) (L' := L) (R' := zw_RC 4 14 (fr_end (zx_uI J ww 9 ((J ww 5) + (nI t))) L 4).2) rfl ?_
          refine zv_icmp_ge (tgt := 93) (zs_at rfl) (by decide) (fun c82 => ?_) (fun c82 => ?_)
          · have _c := c82
            refine zv_run 2 (pc' := 10) (lo' := [some (.ref 0), some (.ref ww), some (.int b), some (.int m), some (.int ((nI t) + 1)), some (.int 198)]) (st' := []) (I' := (fr_end (zx_uI J ww 9 ((J ww 5) + (nI t))) L 4).1) (L' := L) (R' := zw_RC 4 14 (fr_end (zx_uI J ww 9 ((J ww 5) + (nI t))) L 4).2) rfl ?_
            have ep : bc_p (bc_J 4 ww L t J) ww = 198 := by unfold bc_p; exact if_neg (fun q => q c49)
            have e : bc_loop 4 ww L (n + 1) t b m J = bc_loop 4 ww L n (t + 1) b m (bc_J 4 ww L t J) := by rw [bc_loop]; rw [if_neg (show ¬ (nI t = 0 ∨ ¬ bc_p (bc_J 4 ww L t J) ww ≥ m) from by rw [ep]; exact fun q => q.elim c76 (fun q => q c82))]
            rw [e, ← nI_succ]
            exact ih (t + 1) _ _ _ _ _ (by omega) (hK _ _ (hw9 _ _ hJ)).2
          · have _c := c82
            refine zv_run 1 (pc' := 86) (lo' := [some (.ref 0), some (.ref ww), some (.int b), some (.int m), some (.int (nI t)), some (.int 198)]) (st' := [.ref ww]) (I' := (fr_end (zx_uI J ww 9 ((J ww 5) + (nI t))) L 4).1) (L' := L) (R' := zw_RC 4 14 (fr_end (zx_uI J ww 9 ((J ww 5) + (nI t))) L 4).2) rfl ?_
            refine zv_get (ci := 2) (k := 9) (t := 0) (zs_at rfl) (zf_ok rfl) (bt_S hb) rfl ?_
            refine zv_run 0 (pc' := 89) (lo' := [some (.ref 0), some (.ref ww), some (.int b), some (.int m), some (.int (nI t)), some (.int 198)]) (st' := [.int ((fr_end (zx_uI J ww 9 ((J ww 5) + (nI t))) L 4).1 ww 9)]) (I' := (fr_end (zx_uI J ww 9 ((J ww 5) + (nI t))) L 4).1) (L' := L) (R' := zw_RC 4 14 (fr_end (zx_uI J ww 9 ((J ww 5) + (nI t))) L 4).2) rfl ?_
            refine zv_run 5 (pc' := 10) (lo' := [some (.ref 0), some (.ref ww), some (.int ((fr_end (zx_uI J ww 9 ((J ww 5) + (nI t))) L 4).1 ww 9)), some (.int 198), some (.int ((nI t) + 1)), some (.int 198)]) (st' := []) (I' := (fr_end (zx_uI J ww 9 ((J ww 5) + (nI t))) L 4).1) (L' := L) (R' := zw_RC 4 14 (fr_end (zx_uI J ww 9 ((J ww 5) + (nI t))) L 4).2) rfl ?_
            have ep : bc_p (bc_J 4 ww L t J) ww = 198 := by unfold bc_p; exact if_neg (fun q => q c49)
            have e : bc_loop 4 ww L (n + 1) t b m J = bc_loop 4 ww L n (t + 1) ((bc_J 4 ww L t J) ww 9) (bc_p (bc_J 4 ww L t J) ww) (bc_J 4 ww L t J) := by rw [bc_loop]; rw [if_pos (show nI t = 0 ∨ ¬ bc_p (bc_J 4 ww L t J) ww ≥ m from by first | exact Or.inl c76 | (rw [ep]; exact Or.inr c82))]
            rw [e, ep, ← nI_succ]
            exact ih (t + 1) _ _ _ _ _ (by omega) (hK _ _ (hw9 _ _ hJ)).2
theorem ct_X9_btc_4 {d : Nat} {K : zx_I → Prop} {ww : Nat} {L : zx_L} (hb : bt ww) (hK : kr K 4) (hw9 : ∀ J x, K J → K (zx_uI J ww 9 x)) {J : zx_I} {la : Option Nat} (hJ : K J) : zx_M0 mm_X9_bestToCome (d + 5) 0 0 [.ref 0, .ref ww] zw_SC J L (zw_RC 4 14 la) (zw_any (some (.int (bc_best 4 ww L J).1)) (bc_best 4 ww L J).2 L 4 14) := by
  refine zv_entry gd_X9_bestToCome (Nat.le_of_ble_eq_true rfl) ?_
  refine zv_run 1 (pc' := 1) (lo' := [some (.ref 0), some (.ref ww), none, none, none, none]) (st' := [.ref ww]) (I' := J) (L' := L) (R' := zw_RC 4 14 la) rfl ?_
  refine zv_get (ci := 2) (k := 5) (t := 0) (zs_at rfl) (zf_ok rfl) (bt_S hb) rfl ?_
  refine zv_run 0 (pc' := 4) (lo' := [some (.ref 0), some (.ref ww), none, none, none, none]) (st' := [.int (J ww 5)]) (I' := J) (L' := L) (R' := zw_RC 4 14 la) rfl ?_
  refine zv_run 5 (pc' := 10) (lo' := [some (.ref 0), some (.ref ww), some (.int (J ww 5)), some (.int 0), some (.int 0), none]) (st' := []) (I' := J) (L' := L) (R' := zw_RC 4 14 la) rfl ?_
  exact lp_X9_btc_4 hb hK hw9 6 0 _ _ _ _ none rfl hJ
theorem lp_X9_btc_14 {d : Nat} {K : zx_I → Prop} {ww : Nat} {L : zx_L} (hb : bt ww) (hK : kr K 14) (hw9 : ∀ J x, K J → K (zx_uI J ww 9 x)) : ∀ (n t : Nat) (b m : Int32) (J : zx_I) (la : Option Nat) (x5 : Option Value), t + n = 6 → K J → zx_V mm_X9_bestToCome (d + 5) z0 (zw_any (some (.int (bc_loop 14 ww L n t b m J).1)) (bc_loop 14 ww L n t b m J).2 L 14 4) zw_SC 10 [some (.ref 0), some (.ref ww), some (.int b), some (.int m), some (.int (nI t)), x5] [] J L (zw_RC 14 4 la) := by
  intro n
  induction n with
  | zero =>
    intro t b m J la x5 ht hJ
    refine zv_run 2 (pc' := 13) (lo' := [some (.ref 0), some (.ref ww), some (.int b), some (.int m), some (.int (nI t)), x5]) (st' := [.int 5, .int (nI t)]) (I' := J) (L' := L) (R' := zw_RC 14 4 la) rfl ?_
    refine zv_icmp_gt (tgt := 99) (zs_at rfl) (by decide) (fun c13 => ?_) (fun c13 => ?_)
    · have _c := c13
      refine zv_run 1 (pc' := 100) (lo' := [some (.ref 0), some (.ref ww), some (.int b), some (.int m), some (.int (nI t)), x5]) (st' := [.int b]) (I' := J) (L' := L) (R' := zw_RC 14 4 la) rfl ?_
      exact zv_iret (zs_at rfl) rfl ⟨Nat.le_refl _, Nat.le_refl _⟩ (zw_toa rfl rfl rfl)
    · exact absurd (by rw [show t = 6 by omega]; decide) c13
  | succ n ih =>
    intro t b m J la x5 ht hJ
    refine zv_run 2 (pc' := 13) (lo' := [some (.ref 0), some (.ref ww), some (.int b), some (.int m), some (.int (nI t)), x5]) (st' := [.int 5, .int (nI t)]) (I' := J) (L' := L) (R' := zw_RC 14 4 la) rfl ?_
    refine zv_icmp_gt (tgt := 99) (zs_at rfl) (by decide) (fun c13 => ?_) (fun c13 => ?_)
    · exact absurd c13 (nI_ngt5 (by omega))
    · have _c := c13
      refine zv_run 2 (pc' := 18) (lo' := [some (.ref 0), some (.ref ww), some (.int b), some (.int m), some (.int (nI t)), x5]) (st' := [.ref ww, .ref ww]) (I' := J) (L' := L) (R' := zw_RC 14 4 la) rfl ?_
      refine zv_get (ci := 2) (k := 5) (t := 0) (zs_at rfl) (zf_ok rfl) (bt_S hb) rfl ?_
      refine zv_run 0 (pc' := 21) (lo' := [some (.ref 0), some (.ref ww), some (.int b), some (.int m), some (.int (nI t)), x5]) (st' := [.int (J ww 5), .ref ww]) (I' := J) (L' := L) (R' := zw_RC 14 4 la) rfl ?_
      refine zv_run 2 (pc' := 24) (lo' := [some (.ref 0), some (.ref ww), some (.int b), some (.int m), some (.int (nI t)), x5]) (st' := [.int ((J ww 5) + (nI t)), .ref ww]) (I' := J) (L' := L) (R' := zw_RC 14 4 la) rfl ?_
      refine zs_putI (ci := 2) (k := 9) (zs_at rfl) (zf_ok rfl) (bt_S hb) (Or.inl rfl) rfl (fun q => absurd q (by decide)) ?_
      refine zv_run 6 (pc' := 39) (lo' := [some (.ref 0), some (.ref ww), some (.int b), some (.int m), some (.int (nI t)), x5]) (st' := [.ref 34, .ref 14, .ref 36]) (I' := (zx_uI J ww 9 ((J ww 5) + (nI t)))) (L' := L) (R' := zw_RC 14 4 la) rfl ?_
      refine zv_cV (M' := mm_X3_run) (ci := 3) (a := 36) (av := [.ref 14, .ref 34]) (st := []) (r := some (.int (fr_score (zx_uI J ww 9 ((J ww 5) + (nI t))) L 14))) (I' := (fr_end (zx_uI J ww 9 ((J ww 5) + (nI t))) L 14).1) (L' := L) (R' := zw_RC 14 4 (fr_end (zx_uI J ww 9 ((J ww 5) + (nI t))) L 14).2) rfl zc_9_159 gd_X3_run rfl rfl rfl (Nat.le_of_ble_eq_true rfl) (ct_X3_run (d := _) (Or.inr rfl) (hK _ _ (hw9 _ _ hJ)).1) ⟨Nat.le_refl _, Nat.le_refl _⟩ ?_
      refine zv_run 0 (pc' := 42) (lo' := [some (.ref 0), some (.ref ww), some (.int b), some (.int m), some (.int (nI t)), x5]) (st' := [.int (fr_score (zx_uI J ww 9 ((J ww 5) + (nI t))) L 14)]) (I' := (fr_end (zx_uI J ww 9 ((J ww 5) + (nI t))) L 14).1) (L' := L) (R' := zw_RC 14 4 (fr_end (zx_uI J ww 9 ((J ww 5) + (nI t))) L 14).2) rfl ?_
      refine zv_run 2 (pc' := 44) (lo' := [some (.ref 0), some (.ref ww), some (.int b), some (.int m), some (.int (nI t)), x5]) (st' := [.ref ww]) (I' := (fr_end (zx_uI J ww 9 ((J ww 5) + (nI t))) L 14).1) (L' := L) (R' := zw_RC 14 4 (fr_end (zx_uI J ww 9 ((J ww 5) + (nI t))) L 14).2) rfl ?_
      refine zv_get (ci := 2) (k := 10) (t := 0) (zs_at rfl) (zf_ok rfl) (bt_S hb) rfl ?_
      refine zv_run 0 (pc' := 47) (lo' := [some (.ref 0), some (.ref ww), some (.int b), some (.int m), some (.int (nI t)), x5]) (st' := [.int ((fr_end (zx_uI J ww 9 ((J ww 5) + (nI t))) L 14).1 ww 10)]) (I' := (fr_end (zx_uI J ww 9 ((J ww 5) + (nI t))) L 14).1) (L' := L) (R' := zw_RC 14 4 (fr_end (zx_uI J ww 9 ((J ww 5) + (nI t))) L 14).2) rfl ?_
      refine zv_run 1 (pc' := 49) (lo' := [some (.ref 0), some (.ref ww), some (.int b), some (.int m), some (.int (nI t)), x5]) (st' := [.int (-4), .int ((fr_end (zx_uI J ww 9 ((J ww 5) + (nI t))) L 14).1 ww 10)]) (I' := (fr_end (zx_uI J ww 9 ((J ww 5) + (nI t))) L 14).1) (L' := L) (R' := zw_RC 14 4 (fr_end (zx_uI J ww 9 ((J ww 5) + (nI t))) L 14).2) rfl ?_
      refine zv_icmp_ne (tgt := 58) (zs_at rfl) (by decide) (fun c49 => ?_) (fun c49 => ?_)
      · have _c := c49
        refine zv_run 1 (pc' := 59) (lo' := [some (.ref 0), some (.ref ww), some (.int b), some (.int m), some (.int (nI t)), x5]) (st' := [.ref ww]) (I' := (fr_end (zx_uI J ww 9 ((J ww 5) + (nI t))) L 14).1) (L' := L) (R' := zw_RC 14 4 (fr_end (zx_uI J ww 9 ((J ww 5) + (nI t))) L 14).2) rfl ?_
        refine zv_get (ci := 2) (k := 11) (t := 0) (zs_at rfl) (zf_ok rfl) (bt_S hb) rfl ?_
        refine zv_run 0 (pc' := 62) (lo' := [some (.ref 0), some (.ref ww), some (.int b), some (.int m), some (.int (nI t)), x5]) (st' := [.int ((fr_end (zx_uI J ww 9 ((J ww 5) + (nI t))) L 14).1 ww 11)]) (I' := (fr_end (zx_uI J ww 9 ((J ww 5) + (nI t))) L 14).1) (L' := L) (R' := zw_RC 14 4 (fr_end (zx_uI J ww 9 ((J ww 5) + (nI t))) L 14).2) rfl ?_
        refine zv_run 1 (pc' := 63) (lo' := [some (.ref 0), some (.ref ww), some (.int b), some (.int m), some (.int (nI t)), x5]) (st' := [.ref ww, .int ((fr_end (zx_uI J ww 9 ((J ww 5) + (nI t))) L 14).1 ww 11)]) (I' := (fr_end (zx_uI J ww 9 ((J ww 5) + (nI t))) L 14).1) (L' := L) (R' := zw_RC 14 4 (fr_end (zx_uI J ww 9 ((J ww 5) + (nI t))) L 14).2) rfl ?_
        refine zv_get (ci := 2) (k := 10) (t := 0) (zs_at rfl) (zf_ok rfl) (bt_S hb) rfl ?_
        refine zv_run 0 (pc' := 66) (lo' := [some (.ref 0), some (.ref ww), some (.int b), some (.int m), some (.int (nI t)), x5]) (st' := [.int ((fr_end (zx_uI J ww 9 ((J ww 5) + (nI t))) L 14).1 ww 10), .int ((fr_end (zx_uI J ww 9 ((J ww 5) + (nI t))) L 14).1 ww 11)]) (I' := (fr_end (zx_uI J ww 9 ((J ww 5) + (nI t))) L 14).1) (L' := L) (R' := zw_RC 14 4 (fr_end (zx_uI J ww 9 ((J ww 5) + (nI t))) L 14).2) rfl ?_
        refine zv_run 2 (pc' := 68) (lo' := [some (.ref 0), some (.ref ww), some (.int b), some (.int m), some (.int (nI t)), x5]) (st' := [.ref ww, .int (((fr_end (zx_uI J ww 9 ((J ww 5) + (nI t))) L 14).1 ww 11) + ((fr_end (zx_uI J ww 9 ((J ww 5) + (nI t))) L 14).1 ww 10))]) (I' := (fr_end (zx_uI J ww 9 ((J ww 5) + (nI t))) L 14).1) (L' := L) (R' := zw_RC 14 4 (fr_end (zx_uI J ww 9 ((J ww 5) + (nI t))) L 14).2) rfl ?_
        refine zv_get (ci := 2) (k := 9) (t := 0) (zs_at rfl) (zf_ok rfl) (bt_S hb) rfl ?_
        refine zv_run 0 (pc' := 71) (lo' := [some (.ref 0), some (.ref ww), some (.int b), some (.int m), some (.int (nI t)), x5]) (st' := [.int ((fr_end (zx_uI J ww 9 ((J ww 5) + (nI t))) L 14).1 ww 9), .int (((fr_end (zx_uI J ww 9 ((J ww 5) + (nI t))) L 14).1 ww 11) + ((fr_end (zx_uI J ww 9 ((J ww 5) + (nI t))) L 14).1 ww 10))]) (I' := (fr_end (zx_uI J ww 9 ((J ww 5) + (nI t))) L 14).1) (L' := L) (R' := zw_RC 14 4 (fr_end (zx_uI J ww 9 ((J ww 5) + (nI t))) L 14).2) rfl ?_
        refine zv_run 3 (pc' := 76) (lo' := [some (.ref 0), some (.ref ww), some (.int b), some (.int m), some (.int (nI t)), some (.int ((((fr_end (zx_uI J ww 9 ((J ww 5) + (nI t))) L 14).1 ww 11) + ((fr_end (zx_uI J ww 9 ((J ww 5) + (nI t))) L 14).1 ww 10)) - ((fr_end (zx_uI J ww 9 ((J ww 5) + (nI t))) L 14).1 ww 9)))]) (st' := [.int (nI t)]) (I' := (fr_end (zx_uI J ww 9 ((J ww 5) + (nI t))) L 14).1) (L' := L) (R' := zw_RC 14 4 (fr_end (zx_uI J ww 9 ((J ww 5) + (nI t))) L 14).2) rfl ?_
        refine zv_if_eq (tgt := 85) (zs_at rfl) (by decide) (fun c76 => ?_) (fun c76 => ?_)
        · have _c := c76
          refine zv_run 1 (pc' := 86) (lo' := [some (.ref 0), some (.ref ww), some (.int b), some (.int m), some (.int (nI t)), some (.int ((((fr_end (zx_uI J ww 9 ((J ww 5) + (nI t))) L 14).1 ww 11) + ((fr_end (zx_uI J ww 9 ((J ww 5) + (nI t))) L 14).1 ww 10)) - ((fr_end (zx_uI J ww 9 ((J ww 5) + (nI t))) L 14).1 ww 9)))]) (st' := [.ref ww]) (I' := (fr_end (zx_uI J ww 9 ((J ww 5) + (nI t))) L 14).1) (L' := L) (R' := zw_RC 14 4 (fr_end (zx_uI J ww 9 ((J ww 5) + (nI t))) L 14).2) rfl ?_
          refine zv_get (ci := 2) (k := 9) (t := 0) (zs_at rfl) (zf_ok rfl) (bt_S hb) rfl ?_
          refine zv_run 0 (pc' := 89) (lo' := [some (.ref 0), some (.ref ww), some (.int b), some (.int m), some (.int (nI t)), some (.int ((((fr_end (zx_uI J ww 9 ((J ww 5) + (nI t))) L 14).1 ww 11) + ((fr_end (zx_uI J ww 9 ((J ww 5) + (nI t))) L 14).1 ww 10)) - ((fr_end (zx_uI J ww 9 ((J ww 5) + (nI t))) L 14).1 ww 9)))]) (st' := [.int ((fr_end (zx_uI J ww 9 ((J ww 5) + (nI t))) L 14).1 ww 9)]) (I' := (fr_end (zx_uI J ww 9 ((J ww 5) + (nI t))) L 14).1) (L' := L) (R' := zw_RC 14 4 (fr_end (zx_uI J ww 9 ((J ww 5) + (nI t))) L 14).2) rfl ?_
          refine zv_run 5 (pc' := 10) (lo' := [some (.ref 0), some (.ref ww), some (.int ((fr_end (zx_uI J ww 9 ((J ww 5) + (nI t))) L 14).1 ww 9)), some (.int ((((fr_end (zx_uI J ww 9 ((J ww 5) + (nI t))) L 14).1 ww 11) + ((fr_end (zx_uI J ww 9 ((J ww 5) + (nI t))) L 14).1 ww 10)) - ((fr_end (zx_uI J ww 9 ((J ww 5) + (nI t))) L 14).1 ww 9))), some (.int ((nI t) + 1)), some (.int ((((fr_end (zx_uI J ww 9 ((J ww 5) + (nI t))) L 14).1 ww 11) + ((fr_end (zx_uI J ww 9 ((J ww 5) + (nI t))) L 14).1 ww 10)) - ((fr_end (zx_uI J ww 9 ((J ww 5) + (nI t))) L 14).1 ww 9)))]) (st' := []) (I' := (fr_end (zx_uI J ww 9 ((J ww 5) + (nI t))) L 14).1) (L' := L) (R' := zw_RC 14 4 (fr_end (zx_uI J ww 9 ((J ww 5) + (nI t))) L 14).2) rfl ?_
          have ep : bc_p (bc_J 14 ww L t J) ww = (((fr_end (zx_uI J ww 9 ((J ww 5) + (nI t))) L 14).1 ww 11) + ((fr_end (zx_uI J ww 9 ((J ww 5) + (nI t))) L 14).1 ww 10)) - ((fr_end (zx_uI J ww 9 ((J ww 5) + (nI t))) L 14).1 ww 9) := by unfold bc_p; exact if_pos (show (bc_J 14 ww L t J) ww 10 ≠ -4 from c49)
          have e : bc_loop 14 ww L (n + 1) t b m J = bc_loop 14 ww L n (t + 1) ((bc_J 14 ww L t J) ww 9) (bc_p (bc_J 14 ww L t J) ww) (bc_J 14 ww L t J) := by rw [bc_loop]; rw [if_pos (show nI t = 0 ∨ ¬ bc_p (bc_J 14 ww L t J) ww ≥ m from by first | exact Or.inl c76 | (rw [ep]; exact Or.inr c82))]
          rw [e, ep, ← nI_succ]
          exact ih (t + 1) _ _ _ _ _ (by omega) (hK _ _ (hw9 _ _ hJ)).2
        · have _c := c76
          refine zv_run 2 (pc' := 82) (lo' := [some (.ref 0), some (.ref ww), some (.int b), some (.int m), some (.int (nI t)), some (.int ((((fr_end (zx_uI J ww 9 ((J ww 5) + (nI t))) L 14).1 ww 11) + ((fr_end (zx_uI J ww 9 ((J ww 5) + (nI t))) L 14).1 ww 10)) - ((fr_end (zx_uI J ww 9 ((J ww 5) + (nI t))) L 14).1 ww 9)))]) (st' := [.int m, .int ((((fr_end (zx_uI J ww 9 ((J ww 5) + (nI t))) L 14).1 ww 11) + ((fr_end (zx_uI J ww 9 ((J ww 5) + (nI t))) L 14).1 ww 10)) - ((fr_end (zx_uI J ww 9 ((J ww 5) + (nI t))) L 14).1 ww 9))]) (I' := (fr_end (zx_uI J ww 9 ((J ww 5) + (nI t))) L 14).1) (L' := L) (R' := zw_RC 14 4 (fr_end (zx_uI J ww 9 ((J ww 5) + (nI t))) L 14).2) rfl ?_
          refine zv_icmp_ge (tgt := 93) (zs_at rfl) (by decide) (fun c82 => ?_) (fun c82 => ?_)
          · have _c := c82
            refine zv_run 2 (pc' := 10) (lo' := [some (.ref 0), some (.ref ww), some (.int b), some (.int m), some (.int ((nI t) + 1)), some (.int ((((fr_end (zx_uI J ww 9 ((J ww 5) + (nI t))) L 14).1 ww 11) + ((fr_end (zx_uI J ww 9 ((J ww 5) + (nI t))) L 14).1 ww 10)) - ((fr_end (zx_uI J ww 9 ((J ww 5) + (nI t))) L 14).1 ww 9)))]) (st' := []) (I' := (fr_end (zx_uI J ww 9 ((J ww 5) + (nI t))) L 14).1) (L' := L) (R' := zw_RC 14 4 (fr_end (zx_uI J ww 9 ((J ww 5) + (nI t))) L 14).2) rfl ?_
            have ep : bc_p (bc_J 14 ww L t J) ww = (((fr_end (zx_uI J ww 9 ((J ww 5) + (nI t))) L 14).1 ww 11) + ((fr_end (zx_uI J ww 9 ((J ww 5) + (nI t))) L 14).1 ww 10)) - ((fr_end (zx_uI J ww 9 ((J ww 5) + (nI t))) L 14).1 ww 9) := by unfold bc_p; exact if_pos (show (bc_J 14 ww L t J) ww 10 ≠ -4 from c49)
            have e : bc_loop 14 ww L (n + 1) t b m J = bc_loop 14 ww L n (t + 1) b m (bc_J 14 ww L t J) := by rw [bc_loop]; rw [if_neg (show ¬ (nI t = 0 ∨ ¬ bc_p (bc_J 14 ww L t J) ww ≥ m) from by rw [ep]; exact fun q => q.elim c76 (fun q => q c82))]
            rw [e, ← nI_succ]
            exact ih (t + 1) _ _ _ _ _ (by omega) (hK _ _ (hw9 _ _ hJ)).2
          · have _c := c82
            refine zv_run 1 (pc' := 86) (lo' := [some (.ref 0), some (.ref ww), some (.int b), some (.int m), some (.int (nI t)), some (.int ((((fr_end (zx_uI J ww 9 ((J ww 5) + (nI t))) L 14).1 ww 11) + ((fr_end (zx_uI J ww 9 ((J ww 5) + (nI t))) L 14).1 ww 10)) - ((fr_end (zx_uI J ww 9 ((J ww 5) + (nI t))) L 14).1 ww 9)))]) (st' := [.ref ww]) (I' := (fr_end (zx_uI J ww 9 ((J ww 5) + (nI t))) L 14).1) (L' := L) (R' := zw_RC 14 4 (fr_end (zx_uI J ww 9 ((J ww 5) + (nI t))) L 14).2) rfl ?_
            refine zv_get (ci := 2) (k := 9) (t := 0) (zs_at rfl) (zf_ok rfl) (bt_S hb) rfl ?_
            refine zv_run 0 (pc' := 89) (lo' := [some (.ref 0), some (.ref ww), some (.int b), some (.int m), some (.int (nI t)), some (.int ((((fr_end (zx_uI J ww 9 ((J ww 5) + (nI t))) L 14).1 ww 11) + ((fr_end (zx_uI J ww 9 ((J ww 5) + (nI t))) L 14).1 ww 10)) - ((fr_end (zx_uI J ww 9 ((J ww 5) + (nI t))) L 14).1 ww 9)))]) (st' := [.int ((fr_end (zx_uI J ww 9 ((J ww 5) + (nI t))) L 14).1 ww 9)]) (I' := (fr_end (zx_uI J ww 9 ((J ww 5) + (nI t))) L 14).1) (L' := L) (R' := zw_RC 14 4 (fr_end (zx_uI J ww 9 ((J ww 5) + (nI t))) L 14).2) rfl ?_
            refine zv_run 5 (pc' := 10) (lo' := [some (.ref 0), some (.ref ww), some (.int ((fr_end (zx_uI J ww 9 ((J ww 5) + (nI t))) L 14).1 ww 9)), some (.int ((((fr_end (zx_uI J ww 9 ((J ww 5) + (nI t))) L 14).1 ww 11) + ((fr_end (zx_uI J ww 9 ((J ww 5) + (nI t))) L 14).1 ww 10)) - ((fr_end (zx_uI J ww 9 ((J ww 5) + (nI t))) L 14).1 ww 9))), some (.int ((nI t) + 1)), some (.int ((((fr_end (zx_uI J ww 9 ((J ww 5) + (nI t))) L 14).1 ww 11) + ((fr_end (zx_uI J ww 9 ((J ww 5) + (nI t))) L 14).1 ww 10)) - ((fr_end (zx_uI J ww 9 ((J ww 5) + (nI t))) L 14).1 ww 9)))]) (st' := []) (I' := (fr_end (zx_uI J ww 9 ((J ww 5) + (nI t))) L 14).1) (L' := L) (R' := zw_RC 14 4 (fr_end (zx_uI J ww 9 ((J ww 5) + (nI t))) L 14).2) rfl ?_
            have ep : bc_p (bc_J 14 ww L t J) ww = (((fr_end (zx_uI J ww 9 ((J ww 5) + (nI t))) L 14).1 ww 11) + ((fr_end (zx_uI J ww 9 ((J ww 5) + (nI t))) L 14).1 ww 10)) - ((fr_end (zx_uI J ww 9 ((J ww 5) + (nI t))) L 14).1 ww 9) := by unfold bc_p; exact if_pos (show (bc_J 14 ww L t J) ww 10 ≠ -4 from c49)
            have e : bc_loop 14 ww L (n + 1) t b m J = bc_loop 14 ww L n (t + 1) ((bc_J 14 ww L t J) ww 9) (bc_p (bc_J 14 ww L t J) ww) (bc_J 14 ww L t J) := by rw [bc_loop]; rw [if_pos (show nI t = 0 ∨ ¬ bc_p (bc_J 14 ww L t J) ww ≥ m from by first | exact Or.inl c76 | (rw [ep]; exact Or.inr c82))]
            rw [e, ep, ← nI_succ]
            exact ih (t + 1) _ _ _ _ _ (by omega) (hK _ _ (hw9 _ _ hJ)).2
      · have _c := c49
        refine zv_run 2 (pc' := 72) (lo' := [some (.ref 0), some (.ref ww), some (.int b), some (.int m), some (.int (nI t)), x5]) (st' := [.int 198]) (I' := (fr_end (zx_uI J ww 9 ((J ww 5) + (nI t))) L 14).1) (L' := L) (R' := zw_RC 14 4 (fr_end (zx_uI J ww 9 ((J ww 5) + (nI t))) L 14).2) rfl ?_
        refine zv_run 2 (pc' := 76) (lo' := [some (.ref 0), some (.ref ww), some (.int b), some (.int m), some (.int (nI t)), some (.int 198)]) (st' := [.int (nI t)]) (I' := (fr_end (zx_uI J ww 9 ((J ww 5) + (nI t))) L 14).1) (L' := L) (R' := zw_RC 14 4 (fr_end (zx_uI J ww 9 ((J ww 5) + (nI t))) L 14).2) rfl ?_
        refine zv_if_eq (tgt := 85) (zs_at rfl) (by decide) (fun c76 => ?_) (fun c76 => ?_)
        · have _c := c76
          refine zv_run 1 (pc' := 86) (lo' := [some (.ref 0), some (.ref ww), some (.int b), some (.int m), some (.int (nI t)), some (.int 198)]) (st' := [.ref ww]) (I' := (fr_end (zx_uI J ww 9 ((J ww 5) + (nI t))) L 14).1) (L' := L) (R' := zw_RC 14 4 (fr_end (zx_uI J ww 9 ((J ww 5) + (nI t))) L 14).2) rfl ?_
          refine zv_get (ci := 2) (k := 9) (t := 0) (zs_at rfl) (zf_ok rfl) (bt_S hb) rfl ?_
          refine zv_run 0 (pc' := 89) (lo' := [some (.ref 0), some (.ref ww), some (.int b), some (.int m), some (.int (nI t)), some (.int 198)]) (st' := [.int ((fr_end (zx_uI J ww 9 ((J ww 5) + (nI t))) L 14).1 ww 9)]) (I' := (fr_end (zx_uI J ww 9 ((J ww 5) + (nI t))) L 14).1) (L' := L) (R' := zw_RC 14 4 (fr_end (zx_uI J ww 9 ((J ww 5) + (nI t))) L 14).2) rfl ?_
          refine zv_run 5 (pc' := 10) (lo' := [some (.ref 0), some (.ref ww), some (.int ((fr_end (zx_uI J ww 9 ((J ww 5) + (nI t))) L 14).1 ww 9)), some (.int 198), some (.int ((nI t) + 1)), some (.int 198)]) (st' := []) (I' := (fr_end (zx_uI J ww 9 ((J ww 5) + (nI t))) L 14).1) (L' := L) (R' := zw_RC 14 4 (fr_end (zx_uI J ww 9 ((J ww 5) + (nI t))) L 14).2) rfl ?_
          have ep : bc_p (bc_J 14 ww L t J) ww = 198 := by unfold bc_p; exact if_neg (fun q => q c49)
          have e : bc_loop 14 ww L (n + 1) t b m J = bc_loop 14 ww L n (t + 1) ((bc_J 14 ww L t J) ww 9) (bc_p (bc_J 14 ww L t J) ww) (bc_J 14 ww L t J) := by rw [bc_loop]; rw [if_pos (show nI t = 0 ∨ ¬ bc_p (bc_J 14 ww L t J) ww ≥ m from by first | exact Or.inl c76 | (rw [ep]; exact Or.inr c82))]
          rw [e, ep, ← nI_succ]
          exact ih (t + 1) _ _ _ _ _ (by omega) (hK _ _ (hw9 _ _ hJ)).2
        · have _c := c76
          refine zv_run 2 (pc' := 82) (lo' := [some (.ref 0), some (.ref ww), some (.int b), some (.int m), some (.int (nI t)), some (.int 198)]) (st' := [.int m, .int 198]) (I' := (fr_end (zx_uI J ww 9 ((J ww 5) + (nI t))) L 14).1) (L' := L) (R' := zw_RC 14 4 (fr_end (zx_uI J ww 9 ((J ww 5) + (nI t))) L 14).2) rfl ?_
          refine zv_icmp_ge (tgt := 93) (zs_at rfl) (by decide) (fun c82 => ?_) (fun c82 => ?_)
          · have _c := c82
            refine zv_run 2 (pc' := 10) (lo' := [some (.ref 0), some (.ref ww), some (.int b), some (.int m), some (.int ((nI t) + 1)), some (.int 198)]) (st' := []) (I' := (fr_end (zx_uI J ww 9 ((J ww 5) + (nI t))) L 14).1) (L' := L) (R' := zw_RC 14 4 (fr_end (zx_uI J ww 9 ((J ww 5) + (nI t))) L 14).2) rfl ?_
            have ep : bc_p (bc_J 14 ww L t J) ww = 198 := by unfold bc_p; exact if_neg (fun q => q c49)
            have e : bc_loop 14 ww L (n + 1) t b m J = bc_loop 14 ww L n (t + 1) b m (bc_J 14 ww L t J) := by rw [bc_loop]; rw [if_neg (show ¬ (nI t = 0 ∨ ¬ bc_p (bc_J 14 ww L t J) ww ≥ m) from by rw [ep]; exact fun q => q.elim c76 (fun q => q c82))]
            rw [e, ← nI_succ]
            exact ih (t + 1) _ _ _ _ _ (by omega) (hK _ _ (hw9 _ _ hJ)).2
          · have _c := c82
            refine zv_run 1 (pc' := 86) (lo' := [some (.ref 0), some (.ref ww), some (.int b), some (.int m), some (.int (nI t)), some (.int 198)]) (st' := [.ref ww]) (I' := (fr_end (zx_uI J ww 9 ((J ww 5) + (nI t))) L 14).1) (L' := L) (R' := zw_RC 14 4 (fr_end (zx_uI J ww 9 ((J ww 5) + (nI t))) L 14).2) rfl ?_
            refine zv_get (ci := 2) (k := 9) (t := 0) (zs_at rfl) (zf_ok rfl) (bt_S hb) rfl ?_
            refine zv_run 0 (pc' := 89) (lo' := [some (.ref 0), some (.ref ww), some (.int b), some (.int m), some (.int (nI t)), some (.int 198)]) (st' := [.int ((fr_end (zx_uI J ww 9 ((J ww 5) + (nI t))) L 14).1 ww 9)]) (I' := (fr_end (zx_uI J ww 9 ((J ww 5) + (nI t))) L 14).1) (L' := L) (R' := zw_RC 14 4 (fr_end (zx_uI J ww 9 ((J ww 5) + (nI t))) L 14).2) rfl ?_
            refine zv_run 5 (pc' := 10) (lo' := [some (.ref 0), some (.ref ww), some (.int ((fr_end (zx_uI J ww 9 ((J ww 5) + (nI t))) L 14).1 ww 9)), some (.int 198), some (.int ((nI t) + 1)), some (.int 198)]) (st' := []) (I' := (fr_end (zx_uI J ww 9 ((J ww 5) + (nI t))) L 14).1) (L' := L) (R' := zw_RC 14 4 (fr_end (zx_uI J ww 9 ((J ww 5) + (nI t))) L 14).2) rfl ?_
            have ep : bc_p (bc_J 14 ww L t J) ww = 198 := by unfold bc_p; exact if_neg (fun q => q c49)
            have e : bc_loop 14 ww L (n + 1) t b m J = bc_loop 14 ww L n (t + 1) ((bc_J 14 ww L t J) ww 9) (bc_p (bc_J 14 ww L t J) ww) (bc_J 14 ww L t J) := by rw [bc_loop]; rw [if_pos (show nI t = 0 ∨ ¬ bc_p (bc_J 14 ww L t J) ww ≥ m from by first | exact Or.inl c76 | (rw [ep]; exact Or.inr c82))]
            rw [e, ep, ← nI_succ]
            exact ih (t + 1) _ _ _ _ _ (by omega) (hK _ _ (hw9 _ _ hJ)).2
theorem ct_X9_btc_14 {d : Nat} {K : zx_I → Prop} {ww : Nat} {L : zx_L} (hb : bt ww) (hK : kr K 14) (hw9 : ∀ J x, K J → K (zx_uI J ww 9 x)) {J : zx_I} {la : Option Nat} (hJ : K J) : zx_M0 mm_X9_bestToCome (d + 5) 0 0 [.ref 0, .ref ww] zw_SC J L (zw_RC 14 4 la) (zw_any (some (.int (bc_best 14 ww L J).1)) (bc_best 14 ww L J).2 L 14 4) := by
  refine zv_entry gd_X9_bestToCome (Nat.le_of_ble_eq_true rfl) ?_
  refine zv_run 1 (pc' := 1) (lo' := [some (.ref 0), some (.ref ww), none, none, none, none]) (st' := [.ref ww]) (I' := J) (L' := L) (R' := zw_RC 14 4 la) rfl ?_
  refine zv_get (ci := 2) (k := 5) (t := 0) (zs_at rfl) (zf_ok rfl) (bt_S hb) rfl ?_
  refine zv_run 0 (pc' := 4) (lo' := [some (.ref 0), some (.ref ww), none, none, none, none]) (st' := [.int (J ww 5)]) (I' := J) (L' := L) (R' := zw_RC 14 4 la) rfl ?_
  refine zv_run 5 (pc' := 10) (lo' := [some (.ref 0), some (.ref ww), some (.int (J ww 5)), some (.int 0), some (.int 0), none]) (st' := []) (I' := J) (L' := L) (R' := zw_RC 14 4 la) rfl ?_
  exact lp_X9_btc_14 hb hK hw9 6 0 _ _ _ _ none rfl hJ
def q_tdok (I : zx_I) (h : Nat) (rule i what : Int32) : Option Nat := match fh_who I h i with
  | none => none
  | some w => if q_rule rule = 0 then none else if what < 0 then none else if what ≤ 1 then some w else none
def q_td (I : zx_I) (L : zx_L) (h w F : Nat) (rule : Int32) : Int32 × Int32 × zx_I := tl_loop h w (q_L L) (F + 1) 0 (-4) (-4) (q_ask I h rule)
theorem lp_X9_told_4 {d : Nat} {rule i0 what : Int32} {K : zx_I → Prop} {ww F : Nat} {L : zx_L} (hb : bt ww) (hK : kr K 4) (hw9 : ∀ J x, K J → K (zx_uI J ww 9 x)) (hF : F ≤ 60) (hfr : ∀ J, K J → J ww 5 = nI F) : ∀ (n t : Nat) (s m : Int32) (J : zx_I) (la : Option Nat) (x8 : Option Value), t + n = F + 1 → K J → zx_V mm_X9_told (d + 6) z0 (zw_any (some (.int (if what ≠ 0 then (tl_loop 4 ww L n t s m J).2.1 else (tl_loop 4 ww L n t s m J).1))) (tl_loop 4 ww L n t s m J).2.2 L 4 14) zw_SC 64 [some (.ref 0), some (.int rule), some (.int i0), some (.int what), some (.ref ww), some (.int s), some (.int m), some (.int (nI t)), x8] [] J L (zw_RC 4 14 la) := by
  intro n
  induction n with
  | zero =>
    intro t s m J la x8 ht hJ
    refine zv_run 2 (pc' := 68) (lo' := [some (.ref 0), some (.int rule), some (.int i0), some (.int what), some (.ref ww), some (.int s), some (.int m), some (.int (nI t)), x8]) (st' := [.ref ww, .int (nI t)]) (I' := J) (L' := L) (R' := zw_RC 4 14 la) rfl ?_
    refine zv_get (ci := 2) (k := 5) (t := 0) (zs_at rfl) (zf_ok rfl) (bt_S hb) rfl ?_
    refine zv_run 0 (pc' := 71) (lo' := [some (.ref 0), some (.int rule), some (.int i0), some (.int what), some (.ref ww), some (.int s), some (.int m), some (.int (nI t)), x8]) (st' := [.int (J ww 5), .int (nI t)]) (I' := J) (L' := L) (R' := zw_RC 4 14 la) rfl ?_
    refine zv_icmp_gt (tgt := 112) (zs_at rfl) (by decide) (fun c71 => ?_) (fun c71 => ?_)
    · have _c := c71
      refine zv_run 1 (pc' := 113) (lo' := [some (.ref 0), some (.int rule), some (.int i0), some (.int what), some (.ref ww), some (.int s), some (.int m), some (.int (nI t)), x8]) (st' := [.int what]) (I' := J) (L' := L) (R' := zw_RC 4 14 la) rfl ?_
      refine zv_if_ne (tgt := 121) (zs_at rfl) (by decide) (fun c113 => ?_) (fun c113 => ?_)
      · have _c := c113
        refine zv_run 1 (pc' := 123) (lo' := [some (.ref 0), some (.int rule), some (.int i0), some (.int what), some (.ref ww), some (.int s), some (.int m), some (.int (nI t)), x8]) (st' := [.int m]) (I' := J) (L' := L) (R' := zw_RC 4 14 la) rfl ?_
        exact zv_iret (zs_at rfl) rfl ⟨Nat.le_refl _, Nat.le_refl _⟩ (zw_toa (by rw [if_pos c113]; rfl) rfl rfl)
      · have _c := c113
        refine zv_run 2 (pc' := 123) (lo' := [some (.ref 0), some (.int rule), some (.int i0), some (.int what), some (.ref ww), some (.int s), some (.int m), some (.int (nI t)), x8]) (st' := [.int s]) (I' := J) (L' := L) (R' := zw_RC 4 14 la) rfl ?_
        exact zv_iret (zs_at rfl) rfl ⟨Nat.le_refl _, Nat.le_refl _⟩ (zw_toa (by rw [if_neg (fun q => q c113)]; rfl) rfl rfl)
    · exact absurd (by rw [hfr J hJ]; exact nI_lt (by omega) (by omega)) c71
  | succ n ih =>
    intro t s m J la x8 ht hJ
    refine zv_run 2 (pc' := 68) (lo' := [some (.ref 0), some (.int rule), some (.int i0), some (.int what), some (.ref ww), some (.int s), some (.int m), some (.int (nI t)), x8]) (st' := [.ref ww, .int (nI t)]) (I' := J) (L' := L) (R' := zw_RC 4 14 la) rfl ?_
    refine zv_get (ci := 2) (k := 5) (t := 0) (zs_at rfl) (zf_ok rfl) (bt_S hb) rfl ?_
    refine zv_run 0 (pc' := 71) (lo' := [some (.ref 0), some (.int rule), some (.int i0), some (.int what), some (.ref ww), some (.int s), some (.int m), some (.int (nI t)), x8]) (st' := [.int (J ww 5), .int (nI t)]) (I' := J) (L' := L) (R' := zw_RC 4 14 la) rfl ?_
    refine zv_icmp_gt (tgt := 112) (zs_at rfl) (by decide) (fun c71 => ?_) (fun c71 => ?_)
    · exact absurd c71 (by rw [hfr J hJ]; exact nI_nlt (by omega) (by omega))
    · have _c := c71
      refine zv_run 3 (pc' := 79) (lo' := [some (.ref 0), some (.int rule), some (.int i0), some (.int what), some (.ref ww), some (.int s), some (.int m), some (.int (nI t)), x8]) (st' := [.int (nI t), .ref ww, .ref 0]) (I' := J) (L' := L) (R' := zw_RC 4 14 la) rfl ?_
      refine zv_cVa (M' := mm_X9_sumToldAt) (ci := 9) (a := 0) (av := [.ref ww, .int (nI t)]) (st := []) (r := some (.int ((st_loop 4 ww (nI t) L 6 0 0 J).1))) (I' := (st_loop 4 ww (nI t) L 6 0 0 J).2) (L' := L) rfl zc_9_239 gd_X9_sumToldAt rfl rfl rfl (Nat.le_of_ble_eq_true rfl) (ct_X9_sum_4 (d := _) hb hK hw9 hJ) ⟨Nat.le_refl _, Nat.le_refl _⟩ ?_
      intro la1
      refine zv_run 0 (pc' := 82) (lo' := [some (.ref 0), some (.int rule), some (.int i0), some (.int what), some (.ref ww), some (.int s), some (.int m), some (.int (nI t)), x8]) (st' := [.int ((st_loop 4 ww (nI t) L 6 0 0 J).1)]) (I' := (st_loop 4 ww (nI t) L 6 0 0 J).2) (L' := L) (R' := zw_RC 4 14 la1) rfl ?_
      refine zv_run 3 (pc' := 88) (lo' := [some (.ref 0), some (.int rule), some (.int i0), some (.int what), some (.ref ww), some (.int s), some (.int m), some (.int (nI t)), some (.int ((st_loop 4 ww (nI t) L 6 0 0 J).1))]) (st' := [.int (-4), .int s]) (I' := (st_loop 4 ww (nI t) L 6 0 0 J).2) (L' := L) (R' := zw_RC 4 14 la1) rfl ?_
      refine zv_icmp_eq (tgt := 98) (zs_at rfl) (by decide) (fun c88 => ?_) (fun c88 => ?_)
      · have _c := c88
        refine zv_run 6 (pc' := 64) (lo' := [some (.ref 0), some (.int rule), some (.int i0), some (.int what), some (.ref ww), some (.int (nI t)), some (.int ((st_loop 4 ww (nI t) L 6 0 0 J).1)), some (.int ((nI t) + 1)), some (.int ((st_loop 4 ww (nI t) L 6 0 0 J).1))]) (st' := []) (I' := (st_loop 4 ww (nI t) L 6 0 0 J).2) (L' := L) (R' := zw_RC 4 14 la1) rfl ?_
        have e : tl_loop 4 ww L (n + 1) t s m J = tl_loop 4 ww L n (t + 1) (nI t) (st_loop 4 ww (nI t) L 6 0 0 J).1 (st_loop 4 ww (nI t) L 6 0 0 J).2 := by rw [tl_loop]; rw [if_pos (show s = -4 ∨ ¬ (st_loop 4 ww (nI t) L 6 0 0 J).1 > m from by first | exact Or.inl c88 | exact Or.inr c95)]
        rw [e, ← nI_succ]
        exact ih (t + 1) _ _ _ _ _ (by omega) (kr_st hK hw9 6 0 0 J hJ)
      · have _c := c88
        refine zv_run 2 (pc' := 95) (lo' := [some (.ref 0), some (.int rule), some (.int i0), some (.int what), some (.ref ww), some (.int s), some (.int m), some (.int (nI t)), some (.int ((st_loop 4 ww (nI t) L 6 0 0 J).1))]) (st' := [.int m, .int ((st_loop 4 ww (nI t) L 6 0 0 J).1)]) (I' := (st_loop 4 ww (nI t) L 6 0 0 J).2) (L' := L) (R' := zw_RC 4 14 la1) rfl ?_
        refine zv_icmp_gt (tgt := 106) (zs_at rfl) (by decide) (fun c95 => ?_) (fun c95 => ?_)
        · have _c := c95
          refine zv_run 2 (pc' := 64) (lo' := [some (.ref 0), some (.int rule), some (.int i0), some (.int what), some (.ref ww), some (.int s), some (.int m), some (.int ((nI t) + 1)), some (.int ((st_loop 4 ww (nI t) L 6 0 0 J).1))]) (st' := []) (I' := (st_loop 4 ww (nI t) L 6 0 0 J).2) (L' := L) (R' := zw_RC 4 14 la1) rfl ?_
          have e : tl_loop 4 ww L (n + 1) t s m J = tl_loop 4 ww L n (t + 1) s m (st_loop 4 ww (nI t) L 6 0 0 J).2 := by rw [tl_loop]; rw [if_neg (show ¬ (s = -4 ∨ ¬ (st_loop 4 ww (nI t) L 6 0 0 J).1 > m) from fun q => q.elim c88 (fun q => q c95))]
          rw [e, ← nI_succ]
          exact ih (t + 1) _ _ _ _ _ (by omega) (kr_st hK hw9 6 0 0 J hJ)
        · have _c := c95
          refine zv_run 6 (pc' := 64) (lo' := [some (.ref 0), some (.int rule), some (.int i0), some (.int what), some (.ref ww), some (.int (nI t)), some (.int ((st_loop 4 ww (nI t) L 6 0 0 J).1)), some (.int ((nI t) + 1)), some (.int ((st_loop 4 ww (nI t) L 6 0 0 J).1))]) (st' := []) (I' := (st_loop 4 ww (nI t) L 6 0 0 J).2) (L' := L) (R' := zw_RC 4 14 la1) rfl ?_
          have e : tl_loop 4 ww L (n + 1) t s m J = tl_loop 4 ww L n (t + 1) (nI t) (st_loop 4 ww (nI t) L 6 0 0 J).1 (st_loop 4 ww (nI t) L 6 0 0 J).2 := by rw [tl_loop]; rw [if_pos (show s = -4 ∨ ¬ (st_loop 4 ww (nI t) L 6 0 0 J).1 > m from by first | exact Or.inl c88 | exact Or.inr c95)]
          rw [e, ← nI_succ]
          exact ih (t + 1) _ _ _ _ _ (by omega) (kr_st hK hw9 6 0 0 J hJ)
theorem lp_X9_told_14 {d : Nat} {rule i0 what : Int32} {K : zx_I → Prop} {ww F : Nat} {L : zx_L} (hb : bt ww) (hK : kr K 14) (hw9 : ∀ J x, K J → K (zx_uI J ww 9 x)) (hF : F ≤ 60) (hfr : ∀ J, K J → J ww 5 = nI F) : ∀ (n t : Nat) (s m : Int32) (J : zx_I) (la : Option Nat) (x8 : Option Value), t + n = F + 1 → K J → zx_V mm_X9_told (d + 6) z0 (zw_any (some (.int (if what ≠ 0 then (tl_loop 14 ww L n t s m J).2.1 else (tl_loop 14 ww L n t s m J).1))) (tl_loop 14 ww L n t s m J).2.2 L 14 4) zw_SC 64 [some (.ref 0), some (.int rule), some (.int i0), some (.int what), some (.ref ww), some (.int s), some (.int m), some (.int (nI t)), x8] [] J L (zw_RC 14 4 la) := by
  intro n
  induction n with
  | zero =>
    intro t s m J la x8 ht hJ
    refine zv_run 2 (pc' := 68) (lo' := [some (.ref 0), some (.int rule), some (.int i0), some (.int what), some (.ref ww), some (.int s), some (.int m), some (.int (nI t)), x8]) (st' := [.ref ww, .int (nI t)]) (I' := J) (L' := L) (R' := zw_RC 14 4 la) rfl ?_
    refine zv_get (ci := 2) (k := 5) (t := 0) (zs_at rfl) (zf_ok rfl) (bt_S hb) rfl ?_
    refine zv_run 0 (pc' := 71) (lo' := [some (.ref 0), some (.int rule), some (.int i0), some (.int what), some (.ref ww), some (.int s), some (.int m), some (.int (nI t)), x8]) (st' := [.int (J ww 5), .int (nI t)]) (I' := J) (L' := L) (R' := zw_RC 14 4 la) rfl ?_
    refine zv_icmp_gt (tgt := 112) (zs_at rfl) (by decide) (fun c71 => ?_) (fun c71 => ?_)
    · have _c := c71
      refine zv_run 1 (pc' := 113) (lo' := [some (.ref 0), some (.int rule), some (.int i0), some (.int what), some (.ref ww), some (.int s), some (.int m), some (.int (nI t)), x8]) (st' := [.int what]) (I' := J) (L' := L) (R' := zw_RC 14 4 la) rfl ?_
      refine zv_if_ne (tgt := 121) (zs_at rfl) (by decide) (fun c113 => ?_) (fun c113 => ?_)
      · have _c := c113
        refine zv_run 1 (pc' := 123) (lo' := [some (.ref 0), some (.int rule), some (.int i0), some (.int what), some (.ref ww), some (.int s), some (.int m), some (.int (nI t)), x8]) (st' := [.int m]) (I' := J) (L' := L) (R' := zw_RC 14 4 la) rfl ?_
        exact zv_iret (zs_at rfl) rfl ⟨Nat.le_refl _, Nat.le_refl _⟩ (zw_toa (by rw [if_pos c113]; rfl) rfl rfl)
      · have _c := c113
        refine zv_run 2 (pc' := 123) (lo' := [some (.ref 0), some (.int rule), some (.int i0), some (.int what), some (.ref ww), some (.int s), some (.int m), some (.int (nI t)), x8]) (st' := [.int s]) (I' := J) (L' := L) (R' := zw_RC 14 4 la) rfl ?_
        exact zv_iret (zs_at rfl) rfl ⟨Nat.le_refl _, Nat.le_refl _⟩ (zw_toa (by rw [if_neg (fun q => q c113)]; rfl) rfl rfl)
    · exact absurd (by rw [hfr J hJ]; exact nI_lt (by omega) (by omega)) c71
  | succ n ih =>
    intro t s m J la x8 ht hJ
    refine zv_run 2 (pc' := 68) (lo' := [some (.ref 0), some (.int rule), some (.int i0), some (.int what), some (.ref ww), some (.int s), some (.int m), some (.int (nI t)), x8]) (st' := [.ref ww, .int (nI t)]) (I' := J) (L' := L) (R' := zw_RC 14 4 la) rfl ?_
    refine zv_get (ci := 2) (k := 5) (t := 0) (zs_at rfl) (zf_ok rfl) (bt_S hb) rfl ?_
    refine zv_run 0 (pc' := 71) (lo' := [some (.ref 0), some (.int rule), some (.int i0), some (.int what), some (.ref ww), some (.int s), some (.int m), some (.int (nI t)), x8]) (st' := [.int (J ww 5), .int (nI t)]) (I' := J) (L' := L) (R' := zw_RC 14 4 la) rfl ?_
    refine zv_icmp_gt (tgt := 112) (zs_at rfl) (by decide) (fun c71 => ?_) (fun c71 => ?_)
    · exact absurd c71 (by rw [hfr J hJ]; exact nI_nlt (by omega) (by omega))
    · have _c := c71
      refine zv_run 3 (pc' := 79) (lo' := [some (.ref 0), some (.int rule), some (.int i0), some (.int what), some (.ref ww), some (.int s), some (.int m), some (.int (nI t)), x8]) (st' := [.int (nI t), .ref ww, .ref 0]) (I' := J) (L' := L) (R' := zw_RC 14 4 la) rfl ?_
      refine zv_cVa (M' := mm_X9_sumToldAt) (ci := 9) (a := 0) (av := [.ref ww, .int (nI t)]) (st := []) (r := some (.int ((st_loop 14 ww (nI t) L 6 0 0 J).1))) (I' := (st_loop 14 ww (nI t) L 6 0 0 J).2) (L' := L) rfl zc_9_239 gd_X9_sumToldAt rfl rfl rfl (Nat.le_of_ble_eq_true rfl) (ct_X9_sum_14 (d := _) hb hK hw9 hJ) ⟨Nat.le_refl _, Nat.le_refl _⟩ ?_
      intro la1
      refine zv_run 0 (pc' := 82) (lo' := [some (.ref 0), some (.int rule), some (.int i0), some (.int what), some (.ref ww), some (.int s), some (.int m), some (.int (nI t)), x8]) (st' := [.int ((st_loop 14 ww (nI t) L 6 0 0 J).1)]) (I' := (st_loop 14 ww (nI t) L 6 0 0 J).2) (L' := L) (R' := zw_RC 14 4 la1) rfl ?_
      refine zv_run 3 (pc' := 88) (lo' := [some (.ref 0), some (.int rule), some (.int i0), some (.int what), some (.ref ww), some (.int s), some (.int m), some (.int (nI t)), some (.int ((st_loop 14 ww (nI t) L 6 0 0 J).1))]) (st' := [.int (-4), .int s]) (I' := (st_loop 14 ww (nI t) L 6 0 0 J).2) (L' := L) (R' := zw_RC 14 4 la1) rfl ?_
      refine zv_icmp_eq (tgt := 98) (zs_at rfl) (by decide) (fun c88 => ?_) (fun c88 => ?_)
      · have _c := c88
        refine zv_run 6 (pc' := 64) (lo' := [some (.ref 0), some (.int rule), some (.int i0), some (.int what), some (.ref ww), some (.int (nI t)), some (.int ((st_loop 14 ww (nI t) L 6 0 0 J).1)), some (.int ((nI t) + 1)), some (.int ((st_loop 14 ww (nI t) L 6 0 0 J).1))]) (st' := []) (I' := (st_loop 14 ww (nI t) L 6 0 0 J).2) (L' := L) (R' := zw_RC 14 4 la1) rfl ?_
        have e : tl_loop 14 ww L (n + 1) t s m J = tl_loop 14 ww L n (t + 1) (nI t) (st_loop 14 ww (nI t) L 6 0 0 J).1 (st_loop 14 ww (nI t) L 6 0 0 J).2 := by rw [tl_loop]; rw [if_pos (show s = -4 ∨ ¬ (st_loop 14 ww (nI t) L 6 0 0 J).1 > m from by first | exact Or.inl c88 | exact Or.inr c95)]
        rw [e, ← nI_succ]
        exact ih (t + 1) _ _ _ _ _ (by omega) (kr_st hK hw9 6 0 0 J hJ)
      · have _c := c88
        refine zv_run 2 (pc' := 95) (lo' := [some (.ref 0), some (.int rule), some (.int i0), some (.int what), some (.ref ww), some (.int s), some (.int m), some (.int (nI t)), some (.int ((st_loop 14 ww (nI t) L 6 0 0 J).1))]) (st' := [.int m, .int ((st_loop 14 ww (nI t) L 6 0 0 J).1)]) (I' := (st_loop 14 ww (nI t) L 6 0 0 J).2) (L' := L) (R' := zw_RC 14 4 la1) rfl ?_
        refine zv_icmp_gt (tgt := 106) (zs_at rfl) (by decide) (fun c95 => ?_) (fun c95 => ?_)
        · have _c := c95
          refine zv_run 2 (pc' := 64) (lo' := [some (.ref 0), some (.int rule), some (.int i0), some (.int what), some (.ref ww), some (.int s), some (.int m), some (.int ((nI t) + 1)), some (.int ((st_loop 14 ww (nI t) L 6 0 0 J).1))]) (st' := []) (I' := (st_loop 14 ww (nI t) L 6 0 0 J).2) (L' := L) (R' := zw_RC 14 4 la1) rfl ?_
          have e : tl_loop 14 ww L (n + 1) t s m J = tl_loop 14 ww L n (t + 1) s m (st_loop 14 ww (nI t) L 6 0 0 J).2 := by rw [tl_loop]; rw [if_neg (show ¬ (s = -4 ∨ ¬ (st_loop 14 ww (nI t) L 6 0 0 J).1 > m) from fun q => q.elim c88 (fun q => q c95))]
          rw [e, ← nI_succ]
          exact ih (t + 1) _ _ _ _ _ (by omega) (kr_st hK hw9 6 0 0 J hJ)
        · have _c := c95
          refine zv_run 6 (pc' := 64) (lo' := [some (.ref 0), some (.int rule), some (.int i0), some (.int what), some (.ref ww), some (.int (nI t)), some (.int ((st_loop 14 ww (nI t) L 6 0 0 J).1)), some (.int ((nI t) + 1)), some (.int ((st_loop 14 ww (nI t) L 6 0 0 J).1))]) (st' := []) (I' := (st_loop 14 ww (nI t) L 6 0 0 J).2) (L' := L) (R' := zw_RC 14 4 la1) rfl ?_
          have e : tl_loop 14 ww L (n + 1) t s m J = tl_loop 14 ww L n (t + 1) (nI t) (st_loop 14 ww (nI t) L 6 0 0 J).1 (st_loop 14 ww (nI t) L 6 0 0 J).2 := by rw [tl_loop]; rw [if_pos (show s = -4 ∨ ¬ (st_loop 14 ww (nI t) L 6 0 0 J).1 > m from by first | exact Or.inl c88 | exact Or.inr c95)]
          rw [e, ← nI_succ]
          exact ih (t + 1) _ _ _ _ _ (by omega) (kr_st hK hw9 6 0 0 J hJ)
theorem ct_X9_told_bad_4 {d : Nat} {I : zx_I} {L : zx_L} {la : Option Nat} {rule i what : Int32} (hno : q_tdok I 4 rule i what = none) : zx_M0 mm_X9_told (d + 1) 0 0 [.ref 0, .int rule, .int i, .int what] zw_SC I L (zw_RC 4 14 la) (zw_ret (some (.int (-1))) zw_SC I L (zw_RC 4 14 la)) := by
  refine zv_entry gd_X9_told (Nat.le_of_ble_eq_true rfl) ?_
  refine zv_run 3 (pc' := 5) (lo' := [some (.ref 0), some (.int rule), some (.int i), some (.int what), none, none, none, none, none]) (st' := [.int i, .ref 4]) (I' := I) (L' := L) (R' := zw_RC 4 14 la) rfl ?_
  refine zv_cV (M' := mm_X5_who) (ci := 5) (a := 4) (av := [.int i]) (st := []) (r := some (va_rf (fh_who I 4 i))) (I' := I) (L' := L) (R' := zw_RC 4 14 la) rfl zc_9_85 gd_X5_who rfl rfl rfl (Nat.le_of_ble_eq_true rfl) (ct_X5_who (d := _) (Or.inl rfl)) ⟨Nat.le_refl _, Nat.le_refl _⟩ ?_
  rcases hw8 : fh_who I 4 i with _ | w
  · refine zv_run 0 (pc' := 8) (lo' := [some (.ref 0), some (.int rule), some (.int i), some (.int what), none, none, none, none, none]) (st' := [.null]) (I' := I) (L' := L) (R' := zw_RC 4 14 la) rfl ?_
    refine zv_run 2 (pc' := 11) (lo' := [some (.ref 0), some (.int rule), some (.int i), some (.int what), some (.null), none, none, none, none]) (st' := [.int rule]) (I' := I) (L' := L) (R' := zw_RC 4 14 la) rfl ?_
    refine zv_cS (M' := mm_X9_isRule) (av := [.int rule]) (st := []) (r := some (.int (q_rule rule))) (I' := I) (L' := L) (R' := zw_RC 4 14 la) rfl zc_9_152 gd_X9_isRule rfl (Nat.le_of_ble_eq_true rfl) (ct_X9_isRule (d := _)) ⟨Nat.le_refl _, Nat.le_refl _⟩ ?_
    refine zv_run 0 (pc' := 14) (lo' := [some (.ref 0), some (.int rule), some (.int i), some (.int what), some (.null), none, none, none, none]) (st' := [.int (q_rule rule)]) (I' := I) (L' := L) (R' := zw_RC 4 14 la) rfl ?_
    refine zv_if_eq (tgt := 31) (zs_at rfl) (by decide) (fun c14 => ?_) (fun c14 => ?_)
    · have _c := c14
      refine zv_run 1 (pc' := 32) (lo' := [some (.ref 0), some (.int rule), some (.int i), some (.int what), some (.null), none, none, none, none]) (st' := [.int (-1)]) (I' := I) (L' := L) (R' := zw_RC 4 14 la) rfl ?_
      exact zv_iret (zs_at rfl) rfl ⟨Nat.le_refl _, Nat.le_refl _⟩ (zw_to rfl rfl rfl rfl)
    · have _c := c14
      refine zv_run 1 (pc' := 19) (lo' := [some (.ref 0), some (.int rule), some (.int i), some (.int what), some (.null), none, none, none, none]) (st' := [.null]) (I' := I) (L' := L) (R' := zw_RC 4 14 la) rfl ?_
      refine zv_ifnullN (tgt := 31) (zs_at rfl) (by decide) ?_
      refine zv_run 1 (pc' := 32) (lo' := [some (.ref 0), some (.int rule), some (.int i), some (.int what), some (.null), none, none, none, none]) (st' := [.int (-1)]) (I' := I) (L' := L) (R' := zw_RC 4 14 la) rfl ?_
      exact zv_iret (zs_at rfl) rfl ⟨Nat.le_refl _, Nat.le_refl _⟩ (zw_to rfl rfl rfl rfl)
  · refine zv_run 0 (pc' := 8) (lo' := [some (.ref 0), some (.int rule), some (.int i), some (.int what), none, none, none, none, none]) (st' := [.ref w]) (I' := I) (L' := L) (R' := zw_RC 4 14 la) rfl ?_
    have hwf := fh_who_bt (Or.inl rfl) hw8
    refine zv_run 2 (pc' := 11) (lo' := [some (.ref 0), some (.int rule), some (.int i), some (.int what), some (.ref w), none, none, none, none]) (st' := [.int rule]) (I' := I) (L' := L) (R' := zw_RC 4 14 la) rfl ?_
    refine zv_cS (M' := mm_X9_isRule) (av := [.int rule]) (st := []) (r := some (.int (q_rule rule))) (I' := I) (L' := L) (R' := zw_RC 4 14 la) rfl zc_9_152 gd_X9_isRule rfl (Nat.le_of_ble_eq_true rfl) (ct_X9_isRule (d := _)) ⟨Nat.le_refl _, Nat.le_refl _⟩ ?_
    refine zv_run 0 (pc' := 14) (lo' := [some (.ref 0), some (.int rule), some (.int i), some (.int what), some (.ref w), none, none, none, none]) (st' := [.int (q_rule rule)]) (I' := I) (L' := L) (R' := zw_RC 4 14 la) rfl ?_
    refine zv_if_eq (tgt := 31) (zs_at rfl) (by decide) (fun c14 => ?_) (fun c14 => ?_)
    · have _c := c14
      refine zv_run 1 (pc' := 32) (lo' := [some (.ref 0), some (.int rule), some (.int i), some (.int what), some (.ref w), none, none, none, none]) (st' := [.int (-1)]) (I' := I) (L' := L) (R' := zw_RC 4 14 la) rfl ?_
      exact zv_iret (zs_at rfl) rfl ⟨Nat.le_refl _, Nat.le_refl _⟩ (zw_to rfl rfl rfl rfl)
    · have _c := c14
      refine zv_run 1 (pc' := 19) (lo' := [some (.ref 0), some (.int rule), some (.int i), some (.int what), some (.ref w), none, none, none, none]) (st' := [.ref w]) (I' := I) (L' := L) (R' := zw_RC 4 14 la) rfl ?_
      refine zv_ifnull (zs_at rfl) ?_
      refine zv_run 1 (pc' := 23) (lo' := [some (.ref 0), some (.int rule), some (.int i), some (.int what), some (.ref w), none, none, none, none]) (st' := [.int what]) (I' := I) (L' := L) (R' := zw_RC 4 14 la) rfl ?_
      refine zv_if_lt (tgt := 31) (zs_at rfl) (by decide) (fun c23 => ?_) (fun c23 => ?_)
      · have _c := c23
        refine zv_run 1 (pc' := 32) (lo' := [some (.ref 0), some (.int rule), some (.int i), some (.int what), some (.ref w), none, none, none, none]) (st' := [.int (-1)]) (I' := I) (L' := L) (R' := zw_RC 4 14 la) rfl ?_
        exact zv_iret (zs_at rfl) rfl ⟨Nat.le_refl _, Nat.le_refl _⟩ (zw_to rfl rfl rfl rfl)
      · have _c := c23
        refine zv_run 2 (pc' := 28) (lo' := [some (.ref 0), some (.int rule), some (.int i), some (.int what), some (.ref w), none, none, none, none]) (st' := [.int 1, .int what]) (I' := I) (L' := L) (R' := zw_RC 4 14 la) rfl ?_
        refine zv_icmp_le (tgt := 33) (zs_at rfl) (by decide) (fun c28 => ?_) (fun c28 => ?_)
        · have _c := c28
          exact absurd hno (by unfold q_tdok; rw [hw8]; dsimp only; rw [if_neg c14, if_neg c23, if_pos c28]; exact fun q => by cases q)
        · have _c := c28
          refine zv_run 1 (pc' := 32) (lo' := [some (.ref 0), some (.int rule), some (.int i), some (.int what), some (.ref w), none, none, none, none]) (st' := [.int (-1)]) (I' := I) (L' := L) (R' := zw_RC 4 14 la) rfl ?_
          exact zv_iret (zs_at rfl) rfl ⟨Nat.le_refl _, Nat.le_refl _⟩ (zw_to rfl rfl rfl rfl)
theorem ct_X9_told_bad_14 {d : Nat} {I : zx_I} {L : zx_L} {la : Option Nat} {rule i what : Int32} (hno : q_tdok I 14 rule i what = none) : zx_M0 mm_X9_told (d + 1) 0 0 [.ref 0, .int rule, .int i, .int what] zw_SC I L (zw_RC 14 4 la) (zw_ret (some (.int (-1))) zw_SC I L (zw_RC 14 4 la)) := by
  refine zv_entry gd_X9_told (Nat.le_of_ble_eq_true rfl) ?_
  refine zv_run 3 (pc' := 5) (lo' := [some (.ref 0), some (.int rule), some (.int i), some (.int what), none, none, none, none, none]) (st' := [.int i, .ref 14]) (I' := I) (L' := L) (R' := zw_RC 14 4 la) rfl ?_
  refine zv_cV (M' := mm_X5_who) (ci := 5) (a := 14) (av := [.int i]) (st := []) (r := some (va_rf (fh_who I 14 i))) (I' := I) (L' := L) (R' := zw_RC 14 4 la) rfl zc_9_85 gd_X5_who rfl rfl rfl (Nat.le_of_ble_eq_true rfl) (ct_X5_who (d := _) (Or.inr rfl)) ⟨Nat.le_refl _, Nat.le_refl _⟩ ?_
  rcases hw8 : fh_who I 14 i with _ | w
  · refine zv_run 0 (pc' := 8) (lo' := [some (.ref 0), some (.int rule), some (.int i), some (.int what), none, none, none, none, none]) (st' := [.null]) (I' := I) (L' := L) (R' := zw_RC 14 4 la) rfl ?_
    refine zv_run 2 (pc' := 11) (lo' := [some (.ref 0), some (.int rule), some (.int i), some (.int what), some (.null), none, none, none, none]) (st' := [.int rule]) (I' := I) (L' := L) (R' := zw_RC 14 4 la) rfl ?_
    refine zv_cS (M' := mm_X9_isRule) (av := [.int rule]) (st := []) (r := some (.int (q_rule rule))) (I' := I) (L' := L) (R' := zw_RC 14 4 la) rfl zc_9_152 gd_X9_isRule rfl (Nat.le_of_ble_eq_true rfl) (ct_X9_isRule (d := _)) ⟨Nat.le_refl _, Nat.le_refl _⟩ ?_
    refine zv_run 0 (pc' := 14) (lo' := [some (.ref 0), some (.int rule), some (.int i), some (.int what), some (.null), none, none, none, none]) (st' := [.int (q_rule rule)]) (I' := I) (L' := L) (R' := zw_RC 14 4 la) rfl ?_
    refine zv_if_eq (tgt := 31) (zs_at rfl) (by decide) (fun c14 => ?_) (fun c14 => ?_)
    · have _c := c14
      refine zv_run 1 (pc' := 32) (lo' := [some (.ref 0), some (.int rule), some (.int i), some (.int what), some (.null), none, none, none, none]) (st' := [.int (-1)]) (I' := I) (L' := L) (R' := zw_RC 14 4 la) rfl ?_
      exact zv_iret (zs_at rfl) rfl ⟨Nat.le_refl _, Nat.le_refl _⟩ (zw_to rfl rfl rfl rfl)
    · have _c := c14
      refine zv_run 1 (pc' := 19) (lo' := [some (.ref 0), some (.int rule), some (.int i), some (.int what), some (.null), none, none, none, none]) (st' := [.null]) (I' := I) (L' := L) (R' := zw_RC 14 4 la) rfl ?_
      refine zv_ifnullN (tgt := 31) (zs_at rfl) (by decide) ?_
      refine zv_run 1 (pc' := 32) (lo' := [some (.ref 0), some (.int rule), some (.int i), some (.int what), some (.null), none, none, none, none]) (st' := [.int (-1)]) (I' := I) (L' := L) (R' := zw_RC 14 4 la) rfl ?_
      exact zv_iret (zs_at rfl) rfl ⟨Nat.le_refl _, Nat.le_refl _⟩ (zw_to rfl rfl rfl rfl)
  · refine zv_run 0 (pc' := 8) (lo' := [some (.ref 0), some (.int rule), some (.int i), some (.int what), none, none, none, none, none]) (st' := [.ref w]) (I' := I) (L' := L) (R' := zw_RC 14 4 la) rfl ?_
    have hwf := fh_who_bt (Or.inr rfl) hw8
    refine zv_run 2 (pc' := 11) (lo' := [some (.ref 0), some (.int rule), some (.int i), some (.int what), some (.ref w), none, none, none, none]) (st' := [.int rule]) (I' := I) (L' := L) (R' := zw_RC 14 4 la) rfl ?_
    refine zv_cS (M' := mm_X9_isRule) (av := [.int rule]) (st := []) (r := some (.int (q_rule rule))) (I' := I) (L' := L) (R' := zw_RC 14 4 la) rfl zc_9_152 gd_X9_isRule rfl (Nat.le_of_ble_eq_true rfl) (ct_X9_isRule (d := _)) ⟨Nat.le_refl _, Nat.le_refl _⟩ ?_
    refine zv_run 0 (pc' := 14) (lo' := [some (.ref 0), some (.int rule), some (.int i), some (.int what), some (.ref w), none, none, none, none]) (st' := [.int (q_rule rule)]) (I' := I) (L' := L) (R' := zw_RC 14 4 la) rfl ?_
    refine zv_if_eq (tgt := 31) (zs_at rfl) (by decide) (fun c14 => ?_) (fun c14 => ?_)
    · have _c := c14
      refine zv_run 1 (pc' := 32) (lo' := [some (.ref 0), some (.int rule), some (.int i), some (.int what), some (.ref w), none, none, none, none]) (st' := [.int (-1)]) (I' := I) (L' := L) (R' := zw_RC 14 4 la) rfl ?_
      exact zv_iret (zs_at rfl) rfl ⟨Nat.le_refl _, Nat.le_refl _⟩ (zw_to rfl rfl rfl rfl)
    · have _c := c14
      refine zv_run 1 (pc' := 19) (lo' := [some (.ref 0), some (.int rule), some (.int i), some (.int what), some (.ref w), none, none, none, none]) (st' := [.ref w]) (I' := I) (L' := L) (R' := zw_RC 14 4 la) rfl ?_
      refine zv_ifnull (zs_at rfl) ?_
      refine zv_run 1 (pc' := 23) (lo' := [some (.ref 0), some (.int rule), some (.int i), some (.int what), some (.ref w), none, none, none, none]) (st' := [.int what]) (I' := I) (L' := L) (R' := zw_RC 14 4 la) rfl ?_
      refine zv_if_lt (tgt := 31) (zs_at rfl) (by decide) (fun c23 => ?_) (fun c23 => ?_)
      · have _c := c23
        refine zv_run 1 (pc' := 32) (lo' := [some (.ref 0), some (.int rule), some (.int i), some (.int what), some (.ref w), none, none, none, none]) (st' := [.int (-1)]) (I' := I) (L' := L) (R' := zw_RC 14 4 la) rfl ?_
        exact zv_iret (zs_at rfl) rfl ⟨Nat.le_refl _, Nat.le_refl _⟩ (zw_to rfl rfl rfl rfl)
      · have _c := c23
        refine zv_run 2 (pc' := 28) (lo' := [some (.ref 0), some (.int rule), some (.int i), some (.int what), some (.ref w), none, none, none, none]) (st' := [.int 1, .int what]) (I' := I) (L' := L) (R' := zw_RC 14 4 la) rfl ?_
        refine zv_icmp_le (tgt := 33) (zs_at rfl) (by decide) (fun c28 => ?_) (fun c28 => ?_)
        · have _c := c28
          exact absurd hno (by unfold q_tdok; rw [hw8]; dsimp only; rw [if_neg c14, if_neg c23, if_pos c28]; exact fun q => by cases q)
        · have _c := c28
          refine zv_run 1 (pc' := 32) (lo' := [some (.ref 0), some (.int rule), some (.int i), some (.int what), some (.ref w), none, none, none, none]) (st' := [.int (-1)]) (I' := I) (L' := L) (R' := zw_RC 14 4 la) rfl ?_
          exact zv_iret (zs_at rfl) rfl ⟨Nat.le_refl _, Nat.le_refl _⟩ (zw_to rfl rfl rfl rfl)
theorem ct_X9_told_bad {d : Nat} {I : zx_I} {L : zx_L} {h sp : Nat} {la : Option Nat} {rule i what : Int32} (hh : hsp h sp) (hno : q_tdok I h rule i what = none) : zx_M0 mm_X9_told (d + 1) 0 0 [.ref 0, .int rule, .int i, .int what] zw_SC I L (zw_RC h sp la) (zw_ret (some (.int (-1))) zw_SC I L (zw_RC h sp la)) := by
  rcases hh with ⟨rfl, rfl⟩ | ⟨rfl, rfl⟩
  · exact ct_X9_told_bad_4 hno
  · exact ct_X9_told_bad_14 hno
theorem ct_X9_told_no_4 {d : Nat} {I : zx_I} {L : zx_L} {la : Option Nat} {rule i what : Int32} {w0 : Nat} (hok : q_tdok I 4 rule i what = some w0) (hs : ut_sum (I 26) 6 ≠ 10) : zx_M0 mm_X9_told (d + 1) 0 0 [.ref 0, .int rule, .int i, .int what] zw_SC I L (zw_RC 4 14 la) (zw_ret (some (.int (-2))) zw_SC I L (zw_RC 4 14 la)) := by
  refine zv_entry gd_X9_told (Nat.le_of_ble_eq_true rfl) ?_
  refine zv_run 3 (pc' := 5) (lo' := [some (.ref 0), some (.int rule), some (.int i), some (.int what), none, none, none, none, none]) (st' := [.int i, .ref 4]) (I' := I) (L' := L) (R' := zw_RC 4 14 la) rfl ?_
  refine zv_cV (M' := mm_X5_who) (ci := 5) (a := 4) (av := [.int i]) (st := []) (r := some (va_rf (fh_who I 4 i))) (I' := I) (L' := L) (R' := zw_RC 4 14 la) rfl zc_9_85 gd_X5_who rfl rfl rfl (Nat.le_of_ble_eq_true rfl) (ct_X5_who (d := _) (Or.inl rfl)) ⟨Nat.le_refl _, Nat.le_refl _⟩ ?_
  rcases hw8 : fh_who I 4 i with _ | w
  · refine zv_run 0 (pc' := 8) (lo' := [some (.ref 0), some (.int rule), some (.int i), some (.int what), none, none, none, none, none]) (st' := [.null]) (I' := I) (L' := L) (R' := zw_RC 4 14 la) rfl ?_
    refine zv_run 2 (pc' := 11) (lo' := [some (.ref 0), some (.int rule), some (.int i), some (.int what), some (.null), none, none, none, none]) (st' := [.int rule]) (I' := I) (L' := L) (R' := zw_RC 4 14 la) rfl ?_
    refine zv_cS (M' := mm_X9_isRule) (av := [.int rule]) (st := []) (r := some (.int (q_rule rule))) (I' := I) (L' := L) (R' := zw_RC 4 14 la) rfl zc_9_152 gd_X9_isRule rfl (Nat.le_of_ble_eq_true rfl) (ct_X9_isRule (d := _)) ⟨Nat.le_refl _, Nat.le_refl _⟩ ?_
    refine zv_run 0 (pc' := 14) (lo' := [some (.ref 0), some (.int rule), some (.int i), some (.int what), some (.null), none, none, none, none]) (st' := [.int (q_rule rule)]) (I' := I) (L' := L) (R' := zw_RC 4 14 la) rfl ?_
    refine zv_if_eq (tgt := 31) (zs_at rfl) (by decide) (fun c14 => ?_) (fun c14 => ?_)
    · have _c := c14
      refine zv_run 1 (pc' := 32) (lo' := [some (.ref 0), some (.int rule), some (.int i), some (.int what), some (.null), none, none, none, none]) (st' := [.int (-1)]) (I' := I) (L' := L) (R' := zw_RC 4 14 la) rfl ?_
      exact zv_iret (zs_at rfl) rfl ⟨Nat.le_refl _, Nat.le_refl _⟩ (absurd hok (by unfold q_tdok; rw [hw8]; first | (exact fun q => by cases q) | (dsimp only; first | (rw [if_pos c14]; exact fun q => by cases q) | (rw [if_neg c14, if_pos c23]; exact fun q => by cases q) | (rw [if_neg c14, if_neg c23, if_neg c28]; exact fun q => by cases q))))
    · have _c := c14
      refine zv_run 1 (pc' := 19) (lo' := [some (.ref 0), some (.int rule), some (.int i), some (.int what), some (.null), none, none, none, none]) (st' := [.null]) (I' := I) (L' := L) (R' := zw_RC 4 14 la) rfl ?_
      refine zv_ifnullN (tgt := 31) (zs_at rfl) (by decide) ?_
      refine zv_run 1 (pc' := 32) (lo' := [some (.ref 0), some (.int rule), some (.int i), some (.int what), some (.null), none, none, none, none]) (st' := [.int (-1)]) (I' := I) (L' := L) (R' := zw_RC 4 14 la) rfl ?_
      exact zv_iret (zs_at rfl) rfl ⟨Nat.le_refl _, Nat.le_refl _⟩ (absurd hok (by unfold q_tdok; rw [hw8]; first | (exact fun q => by cases q) | (dsimp only; first | (rw [if_pos c14]; exact fun q => by cases q) | (rw [if_neg c14, if_pos c23]; exact fun q => by cases q) | (rw [if_neg c14, if_neg c23, if_neg c28]; exact fun q => by cases q))))
  · refine zv_run 0 (pc' := 8) (lo' := [some (.ref 0), some (.int rule), some (.int i), some (.int what), none, none, none, none, none]) (st' := [.ref w]) (I' := I) (L' := L) (R' := zw_RC 4 14 la) rfl ?_
    have hwf := fh_who_bt (Or.inl rfl) hw8
    refine zv_run 2 (pc' := 11) (lo' := [some (.ref 0), some (.int rule), some (.int i), some (.int what), some (.ref w), none, none, none, none]) (st' := [.int rule]) (I' := I) (L' := L) (R' := zw_RC 4 14 la) rfl ?_
    refine zv_cS (M' := mm_X9_isRule) (av := [.int rule]) (st := []) (r := some (.int (q_rule rule))) (I' := I) (L' := L) (R' := zw_RC 4 14 la) rfl zc_9_152 gd_X9_isRule rfl (Nat.le_of_ble_eq_true rfl) (ct_X9_isRule (d := _)) ⟨Nat.le_refl _, Nat.le_refl _⟩ ?_
    refine zv_run 0 (pc' := 14) (lo' := [some (.ref 0), some (.int rule), some (.int i), some (.int what), some (.ref w), none, none, none, none]) (st' := [.int (q_rule rule)]) (I' := I) (L' := L) (R' := zw_RC 4 14 la) rfl ?_
    refine zv_if_eq (tgt := 31) (zs_at rfl) (by decide) (fun c14 => ?_) (fun c14 => ?_)
    · have _c := c14
      refine zv_run 1 (pc' := 32) (lo' := [some (.ref 0), some (.int rule), some (.int i), some (.int what), some (.ref w), none, none, none, none]) (st' := [.int (-1)]) (I' := I) (L' := L) (R' := zw_RC 4 14 la) rfl ?_
      exact zv_iret (zs_at rfl) rfl ⟨Nat.le_refl _, Nat.le_refl _⟩ (absurd hok (by unfold q_tdok; rw [hw8]; first | (exact fun q => by cases q) | (dsimp only; first | (rw [if_pos c14]; exact fun q => by cases q) | (rw [if_neg c14, if_pos c23]; exact fun q => by cases q) | (rw [if_neg c14, if_neg c23, if_neg c28]; exact fun q => by cases q))))
    · have _c := c14
      refine zv_run 1 (pc' := 19) (lo' := [some (.ref 0), some (.int rule), some (.int i), some (.int what), some (.ref w), none, none, none, none]) (st' := [.ref w]) (I' := I) (L' := L) (R' := zw_RC 4 14 la) rfl ?_
      refine zv_ifnull (zs_at rfl) ?_
      refine zv_run 1 (pc' := 23) (lo' := [some (.ref 0), some (.int rule), some (.int i), some (.int what), some (.ref w), none, none, none, none]) (st' := [.int what]) (I' := I) (L' := L) (R' := zw_RC 4 14 la) rfl ?_
      refine zv_if_lt (tgt := 31) (zs_at rfl) (by decide) (fun c23 => ?_) (fun c23 => ?_)
      · have _c := c23
        refine zv_run 1 (pc' := 32) (lo' := [some (.ref 0), some (.int rule), some (.int i), some (.int what), some (.ref w), none, none, none, none]) (st' := [.int (-1)]) (I' := I) (L' := L) (R' := zw_RC 4 14 la) rfl ?_
        exact zv_iret (zs_at rfl) rfl ⟨Nat.le_refl _, Nat.le_refl _⟩ (absurd hok (by unfold q_tdok; rw [hw8]; first | (exact fun q => by cases q) | (dsimp only; first | (rw [if_pos c14]; exact fun q => by cases q) | (rw [if_neg c14, if_pos c23]; exact fun q => by cases q) | (rw [if_neg c14, if_neg c23, if_neg c28]; exact fun q => by cases q))))
      · have _c := c23
        refine zv_run 2 (pc' := 28) (lo' := [some (.ref 0), some (.int rule), some (.int i), some (.int what), some (.ref w), none, none, none, none]) (st' := [.int 1, .int what]) (I' := I) (L' := L) (R' := zw_RC 4 14 la) rfl ?_
        refine zv_icmp_le (tgt := 33) (zs_at rfl) (by decide) (fun c28 => ?_) (fun c28 => ?_)
        · have _c := c28
          refine zv_run 2 (pc' := 37) (lo' := [some (.ref 0), some (.int rule), some (.int i), some (.int what), some (.ref w), none, none, none, none]) (st' := [.ref 24]) (I' := I) (L' := L) (R' := zw_RC 4 14 la) rfl ?_
          refine zv_cV (M' := mm_X8_sumOfTenths) (ci := 8) (a := 24) (av := []) (st := []) (r := some (.int (ut_sum (I 26) 6))) (I' := I) (L' := L) (R' := zw_RC 4 14 la) rfl zc_9_233 gd_X8_sumOfTenths rfl rfl rfl (Nat.le_of_ble_eq_true rfl) (ct_X8_sumOfTenths (d := _)) ⟨Nat.le_refl _, Nat.le_refl _⟩ ?_
          refine zv_run 0 (pc' := 40) (lo' := [some (.ref 0), some (.int rule), some (.int i), some (.int what), some (.ref w), none, none, none, none]) (st' := [.int (ut_sum (I 26) 6)]) (I' := I) (L' := L) (R' := zw_RC 4 14 la) rfl ?_
          refine zv_run 1 (pc' := 42) (lo' := [some (.ref 0), some (.int rule), some (.int i), some (.int what), some (.ref w), none, none, none, none]) (st' := [.int 10, .int (ut_sum (I 26) 6)]) (I' := I) (L' := L) (R' := zw_RC 4 14 la) rfl ?_
          refine zv_icmp_eq (tgt := 48) (zs_at rfl) (by decide) (fun c42 => ?_) (fun c42 => ?_)
          · exact absurd c42 hs
          · have _c := c42
            refine zv_run 1 (pc' := 47) (lo' := [some (.ref 0), some (.int rule), some (.int i), some (.int what), some (.ref w), none, none, none, none]) (st' := [.int (-2)]) (I' := I) (L' := L) (R' := zw_RC 4 14 la) rfl ?_
            exact zv_iret (zs_at rfl) rfl ⟨Nat.le_refl _, Nat.le_refl _⟩ (zw_to rfl rfl rfl rfl)
        · have _c := c28
          refine zv_run 1 (pc' := 32) (lo' := [some (.ref 0), some (.int rule), some (.int i), some (.int what), some (.ref w), none, none, none, none]) (st' := [.int (-1)]) (I' := I) (L' := L) (R' := zw_RC 4 14 la) rfl ?_
          exact zv_iret (zs_at rfl) rfl ⟨Nat.le_refl _, Nat.le_refl _⟩ (absurd hok (by unfold q_tdok; rw [hw8]; first | (exact fun q => by cases q) | (dsimp only; first | (rw [if_pos c14]; exact fun q => by cases q) | (rw [if_neg c14, if_pos c23]; exact fun q => by cases q) | (rw [if_neg c14, if_neg c23, if_neg c28]; exact fun q => by cases q))))
theorem ct_X9_told_no_14 {d : Nat} {I : zx_I} {L : zx_L} {la : Option Nat} {rule i what : Int32} {w0 : Nat} (hok : q_tdok I 14 rule i what = some w0) (hs : ut_sum (I 26) 6 ≠ 10) : zx_M0 mm_X9_told (d + 1) 0 0 [.ref 0, .int rule, .int i, .int what] zw_SC I L (zw_RC 14 4 la) (zw_ret (some (.int (-2))) zw_SC I L (zw_RC 14 4 la)) := by
  refine zv_entry gd_X9_told (Nat.le_of_ble_eq_true rfl) ?_
  refine zv_run 3 (pc' := 5) (lo' := [some (.ref 0), some (.int rule), some (.int i), some (.int what), none, none, none, none, none]) (st' := [.int i, .ref 14]) (I' := I) (L' := L) (R' := zw_RC 14 4 la) rfl ?_
  refine zv_cV (M' := mm_X5_who) (ci := 5) (a := 14) (av := [.int i]) (st := []) (r := some (va_rf (fh_who I 14 i))) (I' := I) (L' := L) (R' := zw_RC 14 4 la) rfl zc_9_85 gd_X5_who rfl rfl rfl (Nat.le_of_ble_eq_true rfl) (ct_X5_who (d := _) (Or.inr rfl)) ⟨Nat.le_refl _, Nat.le_refl _⟩ ?_
  rcases hw8 : fh_who I 14 i with _ | w
  · refine zv_run 0 (pc' := 8) (lo' := [some (.ref 0), some (.int rule), some (.int i), some (.int what), none, none, none, none, none]) (st' := [.null]) (I' := I) (L' := L) (R' := zw_RC 14 4 la) rfl ?_
    refine zv_run 2 (pc' := 11) (lo' := [some (.ref 0), some (.int rule), some (.int i), some (.int what), some (.null), none, none, none, none]) (st' := [.int rule]) (I' := I) (L' := L) (R' := zw_RC 14 4 la) rfl ?_
    refine zv_cS (M' := mm_X9_isRule) (av := [.int rule]) (st := []) (r := some (.int (q_rule rule))) (I' := I) (L' := L) (R' := zw_RC 14 4 la) rfl zc_9_152 gd_X9_isRule rfl (Nat.le_of_ble_eq_true rfl) (ct_X9_isRule (d := _)) ⟨Nat.le_refl _, Nat.le_refl _⟩ ?_
    refine zv_run 0 (pc' := 14) (lo' := [some (.ref 0), some (.int rule), some (.int i), some (.int what), some (.null), none, none, none, none]) (st' := [.int (q_rule rule)]) (I' := I) (L' := L) (R' := zw_RC 14 4 la) rfl ?_
    refine zv_if_eq (tgt := 31) (zs_at rfl) (by decide) (fun c14 => ?_) (fun c14 => ?_)
    · have _c := c14
      refine zv_run 1 (pc' := 32) (lo' := [some (.ref 0), some (.int rule), some (.int i), some (.int what), some (.null), none, none, none, none]) (st' := [.int (-1)]) (I' := I) (L' := L) (R' := zw_RC 14 4 la) rfl ?_
      exact zv_iret (zs_at rfl) rfl ⟨Nat.le_refl _, Nat.le_refl _⟩ (absurd hok (by unfold q_tdok; rw [hw8]; first | (exact fun q => by cases q) | (dsimp only; first | (rw [if_pos c14]; exact fun q => by cases q) | (rw [if_neg c14, if_pos c23]; exact fun q => by cases q) | (rw [if_neg c14, if_neg c23, if_neg c28]; exact fun q => by cases q))))
    · have _c := c14
      refine zv_run 1 (pc' := 19) (lo' := [some (.ref 0), some (.int rule), some (.int i), some (.int what), some (.null), none, none, none, none]) (st' := [.null]) (I' := I) (L' := L) (R' := zw_RC 14 4 la) rfl ?_
      refine zv_ifnullN (tgt := 31) (zs_at rfl) (by decide) ?_
      refine zv_run 1 (pc' := 32) (lo' := [some (.ref 0), some (.int rule), some (.int i), some (.int what), some (.null), none, none, none, none]) (st' := [.int (-1)]) (I' := I) (L' := L) (R' := zw_RC 14 4 la) rfl ?_
      exact zv_iret (zs_at rfl) rfl ⟨Nat.le_refl _, Nat.le_refl _⟩ (absurd hok (by unfold q_tdok; rw [hw8]; first | (exact fun q => by cases q) | (dsimp only; first | (rw [if_pos c14]; exact fun q => by cases q) | (rw [if_neg c14, if_pos c23]; exact fun q => by cases q) | (rw [if_neg c14, if_neg c23, if_neg c28]; exact fun q => by cases q))))
  · refine zv_run 0 (pc' := 8) (lo' := [some (.ref 0), some (.int rule), some (.int i), some (.int what), none, none, none, none, none]) (st' := [.ref w]) (I' := I) (L' := L) (R' := zw_RC 14 4 la) rfl ?_
    have hwf := fh_who_bt (Or.inr rfl) hw8
    refine zv_run 2 (pc' := 11) (lo' := [some (.ref 0), some (.int rule), some (.int i), some (.int what), some (.ref w), none, none, none, none]) (st' := [.int rule]) (I' := I) (L' := L) (R' := zw_RC 14 4 la) rfl ?_
    refine zv_cS (M' := mm_X9_isRule) (av := [.int rule]) (st := []) (r := some (.int (q_rule rule))) (I' := I) (L' := L) (R' := zw_RC 14 4 la) rfl zc_9_152 gd_X9_isRule rfl (Nat.le_of_ble_eq_true rfl) (ct_X9_isRule (d := _)) ⟨Nat.le_refl _, Nat.le_refl _⟩ ?_
    refine zv_run 0 (pc' := 14) (lo' := [some (.ref 0), some (.int rule), some (.int i), some (.int what), some (.ref w), none, none, none, none]) (st' := [.int (q_rule rule)]) (I' := I) (L' := L) (R' := zw_RC 14 4 la) rfl ?_
    refine zv_if_eq (tgt := 31) (zs_at rfl) (by decide) (fun c14 => ?_) (fun c14 => ?_)
    · have _c := c14
      refine zv_run 1 (pc' := 32) (lo' := [some (.ref 0), some (.int rule), some (.int i), some (.int what), some (.ref w), none, none, none, none]) (st' := [.int (-1)]) (I' := I) (L' := L) (R' := zw_RC 14 4 la) rfl ?_
      exact zv_iret (zs_at rfl) rfl ⟨Nat.le_refl _, Nat.le_refl _⟩ (absurd hok (by unfold q_tdok; rw [hw8]; first | (exact fun q => by cases q) | (dsimp only; first | (rw [if_pos c14]; exact fun q => by cases q) | (rw [if_neg c14, if_pos c23]; exact fun q => by cases q) | (rw [if_neg c14, if_neg c23, if_neg c28]; exact fun q => by cases q))))
    · have _c := c14
      refine zv_run 1 (pc' := 19) (lo' := [some (.ref 0), some (.int rule), some (.int i), some (.int what), some (.ref w), none, none, none, none]) (st' := [.ref w]) (I' := I) (L' := L) (R' := zw_RC 14 4 la) rfl ?_
      refine zv_ifnull (zs_at rfl) ?_
      refine zv_run 1 (pc' := 23) (lo' := [some (.ref 0), some (.int rule), some (.int i), some (.int what), some (.ref w), none, none, none, none]) (st' := [.int what]) (I' := I) (L' := L) (R' := zw_RC 14 4 la) rfl ?_
      refine zv_if_lt (tgt := 31) (zs_at rfl) (by decide) (fun c23 => ?_) (fun c23 => ?_)
      · have _c := c23
        refine zv_run 1 (pc' := 32) (lo' := [some (.ref 0), some (.int rule), some (.int i), some (.int what), some (.ref w), none, none, none, none]) (st' := [.int (-1)]) (I' := I) (L' := L) (R' := zw_RC 14 4 la) rfl ?_
        exact zv_iret (zs_at rfl) rfl ⟨Nat.le_refl _, Nat.le_refl _⟩ (absurd hok (by unfold q_tdok; rw [hw8]; first | (exact fun q => by cases q) | (dsimp only; first | (rw [if_pos c14]; exact fun q => by cases q) | (rw [if_neg c14, if_pos c23]; exact fun q => by cases q) | (rw [if_neg c14, if_neg c23, if_neg c28]; exact fun q => by cases q))))
      · have _c := c23
        refine zv_run 2 (pc' := 28) (lo' := [some (.ref 0), some (.int rule), some (.int i), some (.int what), some (.ref w), none, none, none, none]) (st' := [.int 1, .int what]) (I' := I) (L' := L) (R' := zw_RC 14 4 la) rfl ?_
        refine zv_icmp_le (tgt := 33) (zs_at rfl) (by decide) (fun c28 => ?_) (fun c28 => ?_)
        · have _c := c28
          refine zv_run 2 (pc' := 37) (lo' := [some (.ref 0), some (.int rule), some (.int i), some (.int what), some (.ref w), none, none, none, none]) (st' := [.ref 24]) (I' := I) (L' := L) (R' := zw_RC 14 4 la) rfl ?_
          refine zv_cV (M' := mm_X8_sumOfTenths) (ci := 8) (a := 24) (av := []) (st := []) (r := some (.int (ut_sum (I 26) 6))) (I' := I) (L' := L) (R' := zw_RC 14 4 la) rfl zc_9_233 gd_X8_sumOfTenths rfl rfl rfl (Nat.le_of_ble_eq_true rfl) (ct_X8_sumOfTenths (d := _)) ⟨Nat.le_refl _, Nat.le_refl _⟩ ?_
          refine zv_run 0 (pc' := 40) (lo' := [some (.ref 0), some (.int rule), some (.int i), some (.int what), some (.ref w), none, none, none, none]) (st' := [.int (ut_sum (I 26) 6)]) (I' := I) (L' := L) (R' := zw_RC 14 4 la) rfl ?_
          refine zv_run 1 (pc' := 42) (lo' := [some (.ref 0), some (.int rule), some (.int i), some (.int what), some (.ref w), none, none, none, none]) (st' := [.int 10, .int (ut_sum (I 26) 6)]) (I' := I) (L' := L) (R' := zw_RC 14 4 la) rfl ?_
          refine zv_icmp_eq (tgt := 48) (zs_at rfl) (by decide) (fun c42 => ?_) (fun c42 => ?_)
          · exact absurd c42 hs
          · have _c := c42
            refine zv_run 1 (pc' := 47) (lo' := [some (.ref 0), some (.int rule), some (.int i), some (.int what), some (.ref w), none, none, none, none]) (st' := [.int (-2)]) (I' := I) (L' := L) (R' := zw_RC 14 4 la) rfl ?_
            exact zv_iret (zs_at rfl) rfl ⟨Nat.le_refl _, Nat.le_refl _⟩ (zw_to rfl rfl rfl rfl)
        · have _c := c28
          refine zv_run 1 (pc' := 32) (lo' := [some (.ref 0), some (.int rule), some (.int i), some (.int what), some (.ref w), none, none, none, none]) (st' := [.int (-1)]) (I' := I) (L' := L) (R' := zw_RC 14 4 la) rfl ?_
          exact zv_iret (zs_at rfl) rfl ⟨Nat.le_refl _, Nat.le_refl _⟩ (absurd hok (by unfold q_tdok; rw [hw8]; first | (exact fun q => by cases q) | (dsimp only; first | (rw [if_pos c14]; exact fun q => by cases q) | (rw [if_neg c14, if_pos c23]; exact fun q => by cases q) | (rw [if_neg c14, if_neg c23, if_neg c28]; exact fun q => by cases q))))
theorem ct_X9_told_no {d : Nat} {I : zx_I} {L : zx_L} {h sp : Nat} {la : Option Nat} {rule i what : Int32} {w0 : Nat} (hh : hsp h sp) (hok : q_tdok I h rule i what = some w0) (hs : ut_sum (I 26) 6 ≠ 10) : zx_M0 mm_X9_told (d + 1) 0 0 [.ref 0, .int rule, .int i, .int what] zw_SC I L (zw_RC h sp la) (zw_ret (some (.int (-2))) zw_SC I L (zw_RC h sp la)) := by
  rcases hh with ⟨rfl, rfl⟩ | ⟨rfl, rfl⟩
  · exact ct_X9_told_no_4 hok hs
  · exact ct_X9_told_no_14 hok hs
theorem ct_X9_told_4 {d : Nat} {I : zx_I} {L : zx_L} {la : Option Nat} {rule i what : Int32} {w0 F : Nat} {K : zx_I → Prop} (hok : q_tdok I 4 rule i what = some w0) (hs : ut_sum (I 26) 6 = 10) (hK : kr K 4) (hw9 : ∀ J x, K J → K (zx_uI J w0 9 x)) (hF : F ≤ 60) (hfr : ∀ J, K J → J w0 5 = nI F) (h0 : K (q_ask I 4 rule)) : zx_M0 mm_X9_told (d + 6) 0 0 [.ref 0, .int rule, .int i, .int what] zw_SC I L (zw_RC 4 14 la) (zw_any (some (.int (if what ≠ 0 then (q_td I L 4 w0 F rule).2.1 else (q_td I L 4 w0 F rule).1))) (q_td I L 4 w0 F rule).2.2 (q_L L) 4 14) := by
  refine zv_entry gd_X9_told (Nat.le_of_ble_eq_true rfl) ?_
  refine zv_run 3 (pc' := 5) (lo' := [some (.ref 0), some (.int rule), some (.int i), some (.int what), none, none, none, none, none]) (st' := [.int i, .ref 4]) (I' := I) (L' := L) (R' := zw_RC 4 14 la) rfl ?_
  refine zv_cV (M' := mm_X5_who) (ci := 5) (a := 4) (av := [.int i]) (st := []) (r := some (va_rf (fh_who I 4 i))) (I' := I) (L' := L) (R' := zw_RC 4 14 la) rfl zc_9_85 gd_X5_who rfl rfl rfl (Nat.le_of_ble_eq_true rfl) (ct_X5_who (d := _) (Or.inl rfl)) ⟨Nat.le_refl _, Nat.le_refl _⟩ ?_
  rcases hw8 : fh_who I 4 i with _ | w
  · refine zv_run 0 (pc' := 8) (lo' := [some (.ref 0), some (.int rule), some (.int i), some (.int what), none, none, none, none, none]) (st' := [.null]) (I' := I) (L' := L) (R' := zw_RC 4 14 la) rfl ?_
    refine zv_run 2 (pc' := 11) (lo' := [some (.ref 0), some (.int rule), some (.int i), some (.int what), some (.null), none, none, none, none]) (st' := [.int rule]) (I' := I) (L' := L) (R' := zw_RC 4 14 la) rfl ?_
    refine zv_cS (M' := mm_X9_isRule) (av := [.int rule]) (st := []) (r := some (.int (q_rule rule))) (I' := I) (L' := L) (R' := zw_RC 4 14 la) rfl zc_9_152 gd_X9_isRule rfl (Nat.le_of_ble_eq_true rfl) (ct_X9_isRule (d := _)) ⟨Nat.le_refl _, Nat.le_refl _⟩ ?_
    refine zv_run 0 (pc' := 14) (lo' := [some (.ref 0), some (.int rule), some (.int i), some (.int what), some (.null), none, none, none, none]) (st' := [.int (q_rule rule)]) (I' := I) (L' := L) (R' := zw_RC 4 14 la) rfl ?_
    refine zv_if_eq (tgt := 31) (zs_at rfl) (by decide) (fun c14 => ?_) (fun c14 => ?_)
    · have _c := c14
      refine zv_run 1 (pc' := 32) (lo' := [some (.ref 0), some (.int rule), some (.int i), some (.int what), some (.null), none, none, none, none]) (st' := [.int (-1)]) (I' := I) (L' := L) (R' := zw_RC 4 14 la) rfl ?_
      exact zv_iret (zs_at rfl) rfl ⟨Nat.le_refl _, Nat.le_refl _⟩ (absurd hok (by unfold q_tdok; rw [hw8]; first | (exact fun q => by cases q) | (dsimp only; first | (rw [if_pos c14]; exact fun q => by cases q) | (rw [if_neg c14, if_pos c23]; exact fun q => by cases q) | (rw [if_neg c14, if_neg c23, if_neg c28]; exact fun q => by cases q))))
    · have _c := c14
      refine zv_run 1 (pc' := 19) (lo' := [some (.ref 0), some (.int rule), some (.int i), some (.int what), some (.null), none, none, none, none]) (st' := [.null]) (I' := I) (L' := L) (R' := zw_RC 4 14 la) rfl ?_
      refine zv_ifnullN (tgt := 31) (zs_at rfl) (by decide) ?_
      refine zv_run 1 (pc' := 32) (lo' := [some (.ref 0), some (.int rule), some (.int i), some (.int what), some (.null), none, none, none, none]) (st' := [.int (-1)]) (I' := I) (L' := L) (R' := zw_RC 4 14 la) rfl ?_
      exact zv_iret (zs_at rfl) rfl ⟨Nat.le_refl _, Nat.le_refl _⟩ (absurd hok (by unfold q_tdok; rw [hw8]; first | (exact fun q => by cases q) | (dsimp only; first | (rw [if_pos c14]; exact fun q => by cases q) | (rw [if_neg c14, if_pos c23]; exact fun q => by cases q) | (rw [if_neg c14, if_neg c23, if_neg c28]; exact fun q => by cases q))))
  · refine zv_run 0 (pc' := 8) (lo' := [some (.ref 0), some (.int rule), some (.int i), some (.int what), none, none, none, none, none]) (st' := [.ref w]) (I' := I) (L' := L) (R' := zw_RC 4 14 la) rfl ?_
    have hwf := fh_who_bt (Or.inl rfl) hw8
    refine zv_run 2 (pc' := 11) (lo' := [some (.ref 0), some (.int rule), some (.int i), some (.int what), some (.ref w), none, none, none, none]) (st' := [.int rule]) (I' := I) (L' := L) (R' := zw_RC 4 14 la) rfl ?_
    refine zv_cS (M' := mm_X9_isRule) (av := [.int rule]) (st := []) (r := some (.int (q_rule rule))) (I' := I) (L' := L) (R' := zw_RC 4 14 la) rfl zc_9_152 gd_X9_isRule rfl (Nat.le_of_ble_eq_true rfl) (ct_X9_isRule (d := _)) ⟨Nat.le_refl _, Nat.le_refl _⟩ ?_
    refine zv_run 0 (pc' := 14) (lo' := [some (.ref 0), some (.int rule), some (.int i), some (.int what), some (.ref w), none, none, none, none]) (st' := [.int (q_rule rule)]) (I' := I) (L' := L) (R' := zw_RC 4 14 la) rfl ?_
    refine zv_if_eq (tgt := 31) (zs_at rfl) (by decide) (fun c14 => ?_) (fun c14 => ?_)
    · have _c := c14
      refine zv_run 1 (pc' := 32) (lo' := [some (.ref 0), some (.int rule), some (.int i), some (.int what), some (.ref w), none, none, none, none]) (st' := [.int (-1)]) (I' := I) (L' := L) (R' := zw_RC 4 14 la) rfl ?_
      exact zv_iret (zs_at rfl) rfl ⟨Nat.le_refl _, Nat.le_refl _⟩ (absurd hok (by unfold q_tdok; rw [hw8]; first | (exact fun q => by cases q) | (dsimp only; first | (rw [if_pos c14]; exact fun q => by cases q) | (rw [if_neg c14, if_pos c23]; exact fun q => by cases q) | (rw [if_neg c14, if_neg c23, if_neg c28]; exact fun q => by cases q))))
    · have _c := c14
      refine zv_run 1 (pc' := 19) (lo' := [some (.ref 0), some (.int rule), some (.int i), some (.int what), some (.ref w), none, none, none, none]) (st' := [.ref w]) (I' := I) (L' := L) (R' := zw_RC 4 14 la) rfl ?_
      refine zv_ifnull (zs_at rfl) ?_
      refine zv_run 1 (pc' := 23) (lo' := [some (.ref 0), some (.int rule), some (.int i), some (.int what), some (.ref w), none, none, none, none]) (st' := [.int what]) (I' := I) (L' := L) (R' := zw_RC 4 14 la) rfl ?_
      refine zv_if_lt (tgt := 31) (zs_at rfl) (by decide) (fun c23 => ?_) (fun c23 => ?_)
      · have _c := c23
        refine zv_run 1 (pc' := 32) (lo' := [some (.ref 0), some (.int rule), some (.int i), some (.int what), some (.ref w), none, none, none, none]) (st' := [.int (-1)]) (I' := I) (L' := L) (R' := zw_RC 4 14 la) rfl ?_
        exact zv_iret (zs_at rfl) rfl ⟨Nat.le_refl _, Nat.le_refl _⟩ (absurd hok (by unfold q_tdok; rw [hw8]; first | (exact fun q => by cases q) | (dsimp only; first | (rw [if_pos c14]; exact fun q => by cases q) | (rw [if_neg c14, if_pos c23]; exact fun q => by cases q) | (rw [if_neg c14, if_neg c23, if_neg c28]; exact fun q => by cases q))))
      · have _c := c23
        refine zv_run 2 (pc' := 28) (lo' := [some (.ref 0), some (.int rule), some (.int i), some (.int what), some (.ref w), none, none, none, none]) (st' := [.int 1, .int what]) (I' := I) (L' := L) (R' := zw_RC 4 14 la) rfl ?_
        refine zv_icmp_le (tgt := 33) (zs_at rfl) (by decide) (fun c28 => ?_) (fun c28 => ?_)
        · have _c := c28
          refine zv_run 2 (pc' := 37) (lo' := [some (.ref 0), some (.int rule), some (.int i), some (.int what), some (.ref w), none, none, none, none]) (st' := [.ref 24]) (I' := I) (L' := L) (R' := zw_RC 4 14 la) rfl ?_
          refine zv_cV (M' := mm_X8_sumOfTenths) (ci := 8) (a := 24) (av := []) (st := []) (r := some (.int (ut_sum (I 26) 6))) (I' := I) (L' := L) (R' := zw_RC 4 14 la) rfl zc_9_233 gd_X8_sumOfTenths rfl rfl rfl (Nat.le_of_ble_eq_true rfl) (ct_X8_sumOfTenths (d := _)) ⟨Nat.le_refl _, Nat.le_refl _⟩ ?_
          refine zv_run 0 (pc' := 40) (lo' := [some (.ref 0), some (.int rule), some (.int i), some (.int what), some (.ref w), none, none, none, none]) (st' := [.int (ut_sum (I 26) 6)]) (I' := I) (L' := L) (R' := zw_RC 4 14 la) rfl ?_
          refine zv_run 1 (pc' := 42) (lo' := [some (.ref 0), some (.int rule), some (.int i), some (.int what), some (.ref w), none, none, none, none]) (st' := [.int 10, .int (ut_sum (I 26) 6)]) (I' := I) (L' := L) (R' := zw_RC 4 14 la) rfl ?_
          refine zv_icmp_eq (tgt := 48) (zs_at rfl) (by decide) (fun c42 => ?_) (fun c42 => ?_)
          · have _c := c42
            refine zv_run 2 (pc' := 50) (lo' := [some (.ref 0), some (.int rule), some (.int i), some (.int what), some (.ref w), none, none, none, none]) (st' := [.int rule, .ref 0]) (I' := I) (L' := L) (R' := zw_RC 4 14 la) rfl ?_
            refine zv_cV (M' := mm_X9_ask) (ci := 9) (a := 0) (av := [.int rule]) (st := []) (r := none) (I' := (q_ask I 4 rule)) (L' := (q_L L)) (R' := zw_RC 4 14 la) rfl zc_9_156 gd_X9_ask rfl rfl rfl (Nat.le_of_ble_eq_true rfl) (ct_X9_ask_4 (d := _)) ⟨Nat.le_refl _, Nat.le_refl _⟩ ?_
            refine zv_run 0 (pc' := 53) (lo' := [some (.ref 0), some (.int rule), some (.int i), some (.int what), some (.ref w), none, none, none, none]) (st' := []) (I' := (q_ask I 4 rule)) (L' := (q_L L)) (R' := zw_RC 4 14 la) rfl ?_
            refine zv_run 6 (pc' := 64) (lo' := [some (.ref 0), some (.int rule), some (.int i), some (.int what), some (.ref w), some (.int (-4)), some (.int (-4)), some (.int 0), none]) (st' := []) (I' := (q_ask I 4 rule)) (L' := (q_L L)) (R' := zw_RC 4 14 la) rfl ?_
            have hww : q_tdok I 4 rule i what = some w := (by unfold q_tdok; rw [hw8]; dsimp only; rw [if_neg c14, if_neg c23, if_pos c28])
            rw [hok] at hww
            cases hww
            exact lp_X9_told_4 hwf.1 hK hw9 hF hfr (F + 1) 0 _ _ _ _ none (by omega) h0
          · have _c := c42
            refine zv_run 1 (pc' := 47) (lo' := [some (.ref 0), some (.int rule), some (.int i), some (.int what), some (.ref w), none, none, none, none]) (st' := [.int (-2)]) (I' := I) (L' := L) (R' := zw_RC 4 14 la) rfl ?_
            exact zv_iret (zs_at rfl) rfl ⟨Nat.le_refl _, Nat.le_refl _⟩ (absurd hs c42)
        · have _c := c28
          refine zv_run 1 (pc' := 32) (lo' := [some (.ref 0), some (.int rule), some (.int i), some (.int what), some (.ref w), none, none, none, none]) (st' := [.int (-1)]) (I' := I) (L' := L) (R' := zw_RC 4 14 la) rfl ?_
          exact zv_iret (zs_at rfl) rfl ⟨Nat.le_refl _, Nat.le_refl _⟩ (absurd hok (by unfold q_tdok; rw [hw8]; first | (exact fun q => by cases q) | (dsimp only; first | (rw [if_pos c14]; exact fun q => by cases q) | (rw [if_neg c14, if_pos c23]; exact fun q => by cases q) | (rw [if_neg c14, if_neg c23, if_neg c28]; exact fun q => by cases q))))
theorem ct_X9_told_14 {d : Nat} {I : zx_I} {L : zx_L} {la : Option Nat} {rule i what : Int32} {w0 F : Nat} {K : zx_I → Prop} (hok : q_tdok I 14 rule i what = some w0) (hs : ut_sum (I 26) 6 = 10) (hK : kr K 14) (hw9 : ∀ J x, K J → K (zx_uI J w0 9 x)) (hF : F ≤ 60) (hfr : ∀ J, K J → J w0 5 = nI F) (h0 : K (q_ask I 14 rule)) : zx_M0 mm_X9_told (d + 6) 0 0 [.ref 0, .int rule, .int i, .int what] zw_SC I L (zw_RC 14 4 la) (zw_any (some (.int (if what ≠ 0 then (q_td I L 14 w0 F rule).2.1 else (q_td I L 14 w0 F rule).1))) (q_td I L 14 w0 F rule).2.2 (q_L L) 14 4) := by
  refine zv_entry gd_X9_told (Nat.le_of_ble_eq_true rfl) ?_
  refine zv_run 3 (pc' := 5) (lo' := [some (.ref 0), some (.int rule), some (.int i), some (.int what), none, none, none, none, none]) (st' := [.int i, .ref 14]) (I' := I) (L' := L) (R' := zw_RC 14 4 la) rfl ?_
  refine zv_cV (M' := mm_X5_who) (ci := 5) (a := 14) (av := [.int i]) (st := []) (r := some (va_rf (fh_who I 14 i))) (I' := I) (L' := L) (R' := zw_RC 14 4 la) rfl zc_9_85 gd_X5_who rfl rfl rfl (Nat.le_of_ble_eq_true rfl) (ct_X5_who (d := _) (Or.inr rfl)) ⟨Nat.le_refl _, Nat.le_refl _⟩ ?_
  rcases hw8 : fh_who I 14 i with _ | w
  · refine zv_run 0 (pc' := 8) (lo' := [some (.ref 0), some (.int rule), some (.int i), some (.int what), none, none, none, none, none]) (st' := [.null]) (I' := I) (L' := L) (R' := zw_RC 14 4 la) rfl ?_
    refine zv_run 2 (pc' := 11) (lo' := [some (.ref 0), some (.int rule), some (.int i), some (.int what), some (.null), none, none, none, none]) (st' := [.int rule]) (I' := I) (L' := L) (R' := zw_RC 14 4 la) rfl ?_
    refine zv_cS (M' := mm_X9_isRule) (av := [.int rule]) (st := []) (r := some (.int (q_rule rule))) (I' := I) (L' := L) (R' := zw_RC 14 4 la) rfl zc_9_152 gd_X9_isRule rfl (Nat.le_of_ble_eq_true rfl) (ct_X9_isRule (d := _)) ⟨Nat.le_refl _, Nat.le_refl _⟩ ?_
    refine zv_run 0 (pc' := 14) (lo' := [some (.ref 0), some (.int rule), some (.int i), some (.int what), some (.null), none, none, none, none]) (st' := [.int (q_rule rule)]) (I' := I) (L' := L) (R' := zw_RC 14 4 la) rfl ?_
    refine zv_if_eq (tgt := 31) (zs_at rfl) (by decide) (fun c14 => ?_) (fun c14 => ?_)
    · have _c := c14
      refine zv_run 1 (pc' := 32) (lo' := [some (.ref 0), some (.int rule), some (.int i), some (.int what), some (.null), none, none, none, none]) (st' := [.int (-1)]) (I' := I) (L' := L) (R' := zw_RC 14 4 la) rfl ?_
      exact zv_iret (zs_at rfl) rfl ⟨Nat.le_refl _, Nat.le_refl _⟩ (absurd hok (by unfold q_tdok; rw [hw8]; first | (exact fun q => by cases q) | (dsimp only; first | (rw [if_pos c14]; exact fun q => by cases q) | (rw [if_neg c14, if_pos c23]; exact fun q => by cases q) | (rw [if_neg c14, if_neg c23, if_neg c28]; exact fun q => by cases q))))
    · have _c := c14
      refine zv_run 1 (pc' := 19) (lo' := [some (.ref 0), some (.int rule), some (.int i), some (.int what), some (.null), none, none, none, none]) (st' := [.null]) (I' := I) (L' := L) (R' := zw_RC 14 4 la) rfl ?_
      refine zv_ifnullN (tgt := 31) (zs_at rfl) (by decide) ?_
      refine zv_run 1 (pc' := 32) (lo' := [some (.ref 0), some (.int rule), some (.int i), some (.int what), some (.null), none, none, none, none]) (st' := [.int (-1)]) (I' := I) (L' := L) (R' := zw_RC 14 4 la) rfl ?_
      exact zv_iret (zs_at rfl) rfl ⟨Nat.le_refl _, Nat.le_refl _⟩ (absurd hok (by unfold q_tdok; rw [hw8]; first | (exact fun q => by cases q) | (dsimp only; first | (rw [if_pos c14]; exact fun q => by cases q) | (rw [if_neg c14, if_pos c23]; exact fun q => by cases q) | (rw [if_neg c14, if_neg c23, if_neg c28]; exact fun q => by cases q))))
  · refine zv_run 0 (pc' := 8) (lo' := [some (.ref 0), some (.int rule), some (.int i), some (.int what), none, none, none, none, none]) (st' := [.ref w]) (I' := I) (L' := L) (R' := zw_RC 14 4 la) rfl ?_
    have hwf := fh_who_bt (Or.inr rfl) hw8
    refine zv_run 2 (pc' := 11) (lo' := [some (.ref 0), some (.int rule), some (.int i), some (.int what), some (.ref w), none, none, none, none]) (st' := [.int rule]) (I' := I) (L' := L) (R' := zw_RC 14 4 la) rfl ?_
    refine zv_cS (M' := mm_X9_isRule) (av := [.int rule]) (st := []) (r := some (.int (q_rule rule))) (I' := I) (L' := L) (R' := zw_RC 14 4 la) rfl zc_9_152 gd_X9_isRule rfl (Nat.le_of_ble_eq_true rfl) (ct_X9_isRule (d := _)) ⟨Nat.le_refl _, Nat.le_refl _⟩ ?_
    refine zv_run 0 (pc' := 14) (lo' := [some (.ref 0), some (.int rule), some (.int i), some (.int what), some (.ref w), none, none, none, none]) (st' := [.int (q_rule rule)]) (I' := I) (L' := L) (R' := zw_RC 14 4 la) rfl ?_
    refine zv_if_eq (tgt := 31) (zs_at rfl) (by decide) (fun c14 => ?_) (fun c14 => ?_)
    · have _c := c14
      refine zv_run 1 (pc' := 32) (lo' := [some (.ref 0), some (.int rule), some (.int i), some (.int what), some (.ref w), none, none, none, none]) (st' := [.int (-1)]) (I' := I) (L' := L) (R' := zw_RC 14 4 la) rfl ?_
      exact zv_iret (zs_at rfl) rfl ⟨Nat.le_refl _, Nat.le_refl _⟩ (absurd hok (by unfold q_tdok; rw [hw8]; first | (exact fun q => by cases q) | (dsimp only; first | (rw [if_pos c14]; exact fun q => by cases q) | (rw [if_neg c14, if_pos c23]; exact fun q => by cases q) | (rw [if_neg c14, if_neg c23, if_neg c28]; exact fun q => by cases q))))
    · have _c := c14
      refine zv_run 1 (pc' := 19) (lo' := [some (.ref 0), some (.int rule), some (.int i), some (.int what), some (.ref w), none, none, none, none]) (st' := [.ref w]) (I' := I) (L' := L) (R' := zw_RC 14 4 la) rfl ?_
      refine zv_ifnull (zs_at rfl) ?_
      refine zv_run 1 (pc' := 23) (lo' := [some (.ref 0), some (.int rule), some (.int i), some (.int what), some (.ref w), none, none, none, none]) (st' := [.int what]) (I' := I) (L' := L) (R' := zw_RC 14 4 la) rfl ?_
      refine zv_if_lt (tgt := 31) (zs_at rfl) (by decide) (fun c23 => ?_) (fun c23 => ?_)
      · have _c := c23
        refine zv_run 1 (pc' := 32) (lo' := [some (.ref 0), some (.int rule), some (.int i), some (.int what), some (.ref w), none, none, none, none]) (st' := [.int (-1)]) (I' := I) (L' := L) (R' := zw_RC 14 4 la) rfl ?_
        exact zv_iret (zs_at rfl) rfl ⟨Nat.le_refl _, Nat.le_refl _⟩ (absurd hok (by unfold q_tdok; rw [hw8]; first | (exact fun q => by cases q) | (dsimp only; first | (rw [if_pos c14]; exact fun q => by cases q) | (rw [if_neg c14, if_pos c23]; exact fun q => by cases q) | (rw [if_neg c14, if_neg c23, if_neg c28]; exact fun q => by cases q))))
      · have _c := c23
        refine zv_run 2 (pc' := 28) (lo' := [some (.ref 0), some (.int rule), some (.int i), some (.int what), some (.ref w), none, none, none, none]) (st' := [.int 1, .int what]) (I' := I) (L' := L) (R' := zw_RC 14 4 la) rfl ?_
        refine zv_icmp_le (tgt := 33) (zs_at rfl) (by decide) (fun c28 => ?_) (fun c28 => ?_)
        · have _c := c28
          refine zv_run 2 (pc' := 37) (lo' := [some (.ref 0), some (.int rule), some (.int i), some (.int what), some (.ref w), none, none, none, none]) (st' := [.ref 24]) (I' := I) (L' := L) (R' := zw_RC 14 4 la) rfl ?_
          refine zv_cV (M' := mm_X8_sumOfTenths) (ci := 8) (a := 24) (av := []) (st := []) (r := some (.int (ut_sum (I 26) 6))) (I' := I) (L' := L) (R' := zw_RC 14 4 la) rfl zc_9_233 gd_X8_sumOfTenths rfl rfl rfl (Nat.le_of_ble_eq_true rfl) (ct_X8_sumOfTenths (d := _)) ⟨Nat.le_refl _, Nat.le_refl _⟩ ?_
          refine zv_run 0 (pc' := 40) (lo' := [some (.ref 0), some (.int rule), some (.int i), some (.int what), some (.ref w), none, none, none, none]) (st' := [.int (ut_sum (I 26) 6)]) (I' := I) (L' := L) (R' := zw_RC 14 4 la) rfl ?_
          refine zv_run 1 (pc' := 42) (lo' := [some (.ref 0), some (.int rule), some (.int i), some (.int what), some (.ref w), none, none, none, none]) (st' := [.int 10, .int (ut_sum (I 26) 6)]) (I' := I) (L' := L) (R' := zw_RC 14 4 la) rfl ?_
          refine zv_icmp_eq (tgt := 48) (zs_at rfl) (by decide) (fun c42 => ?_) (fun c42 => ?_)
          · have _c := c42
            refine zv_run 2 (pc' := 50) (lo' := [some (.ref 0), some (.int rule), some (.int i), some (.int what), some (.ref w), none, none, none, none]) (st' := [.int rule, .ref 0]) (I' := I) (L' := L) (R' := zw_RC 14 4 la) rfl ?_
            refine zv_cV (M' := mm_X9_ask) (ci := 9) (a := 0) (av := [.int rule]) (st := []) (r := none) (I' := (q_ask I 14 rule)) (L' := (q_L L)) (R' := zw_RC 14 4 la) rfl zc_9_156 gd_X9_ask rfl rfl rfl (Nat.le_of_ble_eq_true rfl) (ct_X9_ask_14 (d := _)) ⟨Nat.le_refl _, Nat.le_refl _⟩ ?_
            refine zv_run 0 (pc' := 53) (lo' := [some (.ref 0), some (.int rule), some (.int i), some (.int what), some (.ref w), none, none, none, none]) (st' := []) (I' := (q_ask I 14 rule)) (L' := (q_L L)) (R' := zw_RC 14 4 la) rfl ?_
            refine zv_run 6 (pc' := 64) (lo' := [some (.ref 0), some (.int rule), some (.int i), some (.int what), some (.ref w), some (.int (-4)), some (.int (-4)), some (.int 0), none]) (st' := []) (I' := (q_ask I 14 rule)) (L' := (q_L L)) (R' := zw_RC 14 4 la) rfl ?_
            have hww : q_tdok I 14 rule i what = some w := (by unfold q_tdok; rw [hw8]; dsimp only; rw [if_neg c14, if_neg c23, if_pos c28])
            rw [hok] at hww
            cases hww
            exact lp_X9_told_14 hwf.1 hK hw9 hF hfr (F + 1) 0 _ _ _ _ none (by omega) h0
          · have _c := c42
            refine zv_run 1 (pc' := 47) (lo' := [some (.ref 0), some (.int rule), some (.int i), some (.int what), some (.ref w), none, none, none, none]) (st' := [.int (-2)]) (I' := I) (L' := L) (R' := zw_RC 14 4 la) rfl ?_
            exact zv_iret (zs_at rfl) rfl ⟨Nat.le_refl _, Nat.le_refl _⟩ (absurd hs c42)
        · have _c := c28
          refine zv_run 1 (pc' := 32) (lo' := [some (.ref 0), some (.int rule), some (.int i), some (.int what), some (.ref w), none, none, none, none]) (st' := [.int (-1)]) (I' := I) (L' := L) (R' := zw_RC 14 4 la) rfl ?_
          exact zv_iret (zs_at rfl) rfl ⟨Nat.le_refl _, Nat.le_refl _⟩ (absurd hok (by unfold q_tdok; rw [hw8]; first | (exact fun q => by cases q) | (dsimp only; first | (rw [if_pos c14]; exact fun q => by cases q) | (rw [if_neg c14, if_pos c23]; exact fun q => by cases q) | (rw [if_neg c14, if_neg c23, if_neg c28]; exact fun q => by cases q))))
theorem ct_X9_told {d : Nat} {I : zx_I} {L : zx_L} {h sp : Nat} {la : Option Nat} {rule i what : Int32} {w0 F : Nat} {K : zx_I → Prop} (hh : hsp h sp) (hok : q_tdok I h rule i what = some w0) (hs : ut_sum (I 26) 6 = 10) (hK : kr K h) (hw9 : ∀ J x, K J → K (zx_uI J w0 9 x)) (hF : F ≤ 60) (hfr : ∀ J, K J → J w0 5 = nI F) (h0 : K (q_ask I h rule)) : zx_M0 mm_X9_told (d + 6) 0 0 [.ref 0, .int rule, .int i, .int what] zw_SC I L (zw_RC h sp la) (zw_any (some (.int (if what ≠ 0 then (q_td I L h w0 F rule).2.1 else (q_td I L h w0 F rule).1))) (q_td I L h w0 F rule).2.2 (q_L L) h sp) := by
  rcases hh with ⟨rfl, rfl⟩ | ⟨rfl, rfl⟩
  · exact ct_X9_told_4 hok hs hK hw9 hF hfr h0
  · exact ct_X9_told_14 hok hs hK hw9 hF hfr h0
