/-! best, swapped -/
def bs_loop (h m : Nat) (L : zx_L) : Nat → Int32 → zx_I → Int32 × zx_I
  | 0, v, J => (v, J)
  | n + 1, v, J => if (fa_next J m).1 = false then (v, (fa_next J m).2) else if fr_score (fa_next J m).2 L h ≥ v then bs_loop h m L n v (fr_end (fa_next J m).2 L h).1 else bs_loop h m L n (fr_score (fa_next J m).2 L h) (zcp (fr_end (fa_next J m).2 L h).1 35 41 6)
def q_bsm (I : zx_I) (h : Nat) : zx_I := zmap (q_ask I h 0) 35 (fun k _ => nI k) 0 6
def q_bs (I : zx_I) (L : zx_L) (h m : Nat) : Int32 × zx_I := bs_loop h m (q_L L) 719 (fr_score (q_bsm I h) (q_L L) h) (zcp (fr_end (q_bsm I h) (q_L L) h).1 35 41 6)
def q_bsok (I : zx_I) (h : Nat) (k : Int32) : Prop := ¬ k < -1 ∧ ¬ k ≥ I h 13 ∧ k < 6
def sw_loop (h : Nat) (L : zx_L) : Nat → Int32 → Int32 → Int32 → zx_I → Int32 × zx_I
  | 0, _, c, _, J => (c, J)
  | n + 1, s, c, k, J => if k + 1 ≥ J h 13 then (c, J) else if fr_score (fa_ch J k (k + 1)) L h ≥ s then sw_loop h L n s c (k + 1) (fa_ch (fr_end (fa_ch J k (k + 1)) L h).1 k (k + 1)) else sw_loop h L n (fr_score (fa_ch J k (k + 1)) L h) (c + 1) 0 (fr_end (fa_ch J k (k + 1)) L h).1
def q_sw (I : zx_I) (L : zx_L) (h : Nat) : Int32 × zx_I := sw_loop h (q_L L) 1000000 (fr_score (q_ask I h 0) (q_L L) h) 0 0 (fr_end (q_ask I h 0) (q_L L) h).1
theorem zb_0 {b : Bool} (h : zb b = 0) : b = false := by
  cases b
  · rfl
  · exact absurd (show (1 : Int32) = 0 from h) (by decide)
theorem zb_1 {b : Bool} (h : ¬ zb b = 0) : ¬ b = false := fun q => h (by rw [q]; rfl)
theorem k_in {k : Int32} (h1 : ¬ k < -1) (h2 : k ≠ -1) (h3 : k < 6) : vp_in k 6 := by
  refine zin (y := 6) (fun q => ?_) h3 (by decide)
  rw [Int32.lt_iff_toInt_lt] at h1 q
  have e1 : (-1 : Int32).toInt = -1 := rfl
  have e0 : (0 : Int32).toInt = 0 := rfl
  exact h2 (Int32.toInt_inj.mp (by omega))
theorem lp_X9_best_4 {d : Nat} {K : zx_I → Prop} {m : Nat} {L : zx_L} {k : Int32} (hk : ¬ k < -1 ∧ k < 6) (hK : kr K 4) (hmm : ∀ J, K J → J 4 13 = nI m) (hm6 : m ≤ 6) (hnx : ∀ J, K J → K (fa_next J m).2) (hcp : ∀ J, K J → K (zcp J 35 41 6)) : ∀ (n t : Nat) (v : Int32) (J : zx_I) (la : Option Nat) (x4 : Option Value), t + n = 720 → K J → zx_V mm_X9_best (d + 5) z0 (zw_any (some (.int (if k ≠ -1 then (bs_loop 4 m L n v J).2 41 k.toNatClampNeg else (bs_loop 4 m L n v J).1))) (bs_loop 4 m L n v J).2 L 4 14) zw_SC 68 [some (.ref 0), some (.int k), some (.int v), some (.int (nI t)), x4] [] J L (zw_RC 4 14 la) := by
  intro n
  induction n with
  | zero =>
    intro t v J la x4 ht hJ
    refine zv_run 2 (pc' := 72) (lo' := [some (.ref 0), some (.int k), some (.int v), some (.int (nI t)), x4]) (st' := [.int 720, .int (nI t)]) (I' := J) (L' := L) (R' := zw_RC 4 14 la) rfl ?_
    refine zv_icmp_ge (tgt := 135) (zs_at rfl) (by decide) (fun c72 => ?_) (fun c72 => ?_)
    · have _c := c72
      refine zv_run 2 (pc' := 137) (lo' := [some (.ref 0), some (.int k), some (.int v), some (.int (nI t)), x4]) (st' := [.int (-1), .int k]) (I' := J) (L' := L) (R' := zw_RC 4 14 la) rfl ?_
      refine zv_icmp_ne (tgt := 144) (zs_at rfl) (by decide) (fun c137 => ?_) (fun c137 => ?_)
      · have _c := c137
        refine zv_run 3 (pc' := 149) (lo' := [some (.ref 0), some (.int k), some (.int v), some (.int (nI t)), x4]) (st' := [.int k, .ref 41]) (I' := J) (L' := L) (R' := zw_RC 4 14 la) rfl ?_
        refine zv_iald (zs_at rfl) rfl (k_in hk.1 c137 hk.2) ?_
        exact zv_iret (zs_at rfl) rfl ⟨Nat.le_refl _, Nat.le_refl _⟩ (by exact zw_toa (by rw [if_pos c137]; rfl) rfl rfl)
      · have _c := c137
        refine zv_run 2 (pc' := 150) (lo' := [some (.ref 0), some (.int k), some (.int v), some (.int (nI t)), x4]) (st' := [.int v]) (I' := J) (L' := L) (R' := zw_RC 4 14 la) rfl ?_
        exact zv_iret (zs_at rfl) rfl ⟨Nat.le_refl _, Nat.le_refl _⟩ (by exact zw_toa (by rw [if_neg (fun q => q c137)]; rfl) rfl rfl)
    · exact absurd (by rw [show t = 720 by omega]; decide) c72
  | succ n ih =>
    intro t v J la x4 ht hJ
    refine zv_run 2 (pc' := 72) (lo' := [some (.ref 0), some (.int k), some (.int v), some (.int (nI t)), x4]) (st' := [.int 720, .int (nI t)]) (I' := J) (L' := L) (R' := zw_RC 4 14 la) rfl ?_
    refine zv_icmp_ge (tgt := 135) (zs_at rfl) (by decide) (fun c72 => ?_) (fun c72 => ?_)
    · exact absurd c72 (by exact nI_ge (a := t) (b := 720) (by omega) (by decide))
    · have _c := c72
      refine zv_run 5 (pc' := 86) (lo' := [some (.ref 0), some (.int k), some (.int v), some (.int (nI t)), x4]) (st' := [.int (J 4 13), .ref 34]) (I' := J) (L' := L) (R' := zw_RC 4 14 la) rfl ?_
      refine zv_cV (M' := mm_X0_nextRow) (ci := 0) (a := 34) (av := [.int (J 4 13)]) (st := []) (r := some (.int (zb (fa_next J m).1))) (I' := (fa_next J m).2) (L' := L) (R' := zw_RC 4 14 la) rfl zc_9_195 gd_X0_nextRow rfl rfl rfl (Nat.le_of_ble_eq_true rfl) (by rw [hmm J hJ]; exact ct_X0_nextRow (d := _) hm6) ⟨Nat.le_refl _, Nat.le_refl _⟩ ?_
      refine zv_run 0 (pc' := 89) (lo' := [some (.ref 0), some (.int k), some (.int v), some (.int (nI t)), x4]) (st' := [.int (zb (fa_next J m).1)]) (I' := (fa_next J m).2) (L' := L) (R' := zw_RC 4 14 la) rfl ?_
      refine zv_if_eq (tgt := 135) (zs_at rfl) (by decide) (fun c89 => ?_) (fun c89 => ?_)
      · have _c := c89
        refine zv_run 2 (pc' := 137) (lo' := [some (.ref 0), some (.int k), some (.int v), some (.int (nI t)), x4]) (st' := [.int (-1), .int k]) (I' := (fa_next J m).2) (L' := L) (R' := zw_RC 4 14 la) rfl ?_
        refine zv_icmp_ne (tgt := 144) (zs_at rfl) (by decide) (fun c137 => ?_) (fun c137 => ?_)
        · have _c := c137
          refine zv_run 3 (pc' := 149) (lo' := [some (.ref 0), some (.int k), some (.int v), some (.int (nI t)), x4]) (st' := [.int k, .ref 41]) (I' := (fa_next J m).2) (L' := L) (R' := zw_RC 4 14 la) rfl ?_
          refine zv_iald (zs_at rfl) rfl (k_in hk.1 c137 hk.2) ?_
          exact zv_iret (zs_at rfl) rfl ⟨Nat.le_refl _, Nat.le_refl _⟩ (by rw [show bs_loop 4 m L (n + 1) v J = (v, (fa_next J m).2) from by rw [bs_loop, if_pos (zb_0 c89)]]; exact zw_toa (by rw [if_pos c137]) rfl rfl)
        · have _c := c137
          refine zv_run 2 (pc' := 150) (lo' := [some (.ref 0), some (.int k), some (.int v), some (.int (nI t)), x4]) (st' := [.int v]) (I' := (fa_next J m).2) (L' := L) (R' := zw_RC 4 14 la) rfl ?_
          exact zv_iret (zs_at rfl) rfl ⟨Nat.le_refl _, Nat.le_refl _⟩ (by rw [show bs_loop 4 m L (n + 1) v J = (v, (fa_next J m).2) from by rw [bs_loop, if_pos (zb_0 c89)]]; exact zw_toa (by rw [if_neg (fun q => q c137)]) rfl rfl)
      · have _c := c89
        refine zv_run 6 (pc' := 104) (lo' := [some (.ref 0), some (.int k), some (.int v), some (.int (nI t)), x4]) (st' := [.ref 34, .ref 4, .ref 36]) (I' := (fa_next J m).2) (L' := L) (R' := zw_RC 4 14 la) rfl ?_
        refine zv_cV (M' := mm_X3_run) (ci := 3) (a := 36) (av := [.ref 4, .ref 34]) (st := []) (r := some (.int (fr_score (fa_next J m).2 L 4))) (I' := (fr_end (fa_next J m).2 L 4).1) (L' := L) (R' := zw_RC 4 14 (fr_end (fa_next J m).2 L 4).2) rfl zc_9_159 gd_X3_run rfl rfl rfl (Nat.le_of_ble_eq_true rfl) (ct_X3_run (d := _) (Or.inl rfl) (hK _ _ (hnx _ hJ)).1) ⟨Nat.le_refl _, Nat.le_refl _⟩ ?_
        refine zv_run 0 (pc' := 107) (lo' := [some (.ref 0), some (.int k), some (.int v), some (.int (nI t)), x4]) (st' := [.int (fr_score (fa_next J m).2 L 4)]) (I' := (fr_end (fa_next J m).2 L 4).1) (L' := L) (R' := zw_RC 4 14 (fr_end (fa_next J m).2 L 4).2) rfl ?_
        refine zv_run 3 (pc' := 112) (lo' := [some (.ref 0), some (.int k), some (.int v), some (.int (nI t)), some (.int (fr_score (fa_next J m).2 L 4))]) (st' := [.int v, .int (fr_score (fa_next J m).2 L 4)]) (I' := (fr_end (fa_next J m).2 L 4).1) (L' := L) (R' := zw_RC 4 14 (fr_end (fa_next J m).2 L 4).2) rfl ?_
        refine zv_icmp_ge (tgt := 129) (zs_at rfl) (by decide) (fun c112 => ?_) (fun c112 => ?_)
        · have _c := c112
          refine zv_run 2 (pc' := 68) (lo' := [some (.ref 0), some (.int k), some (.int v), some (.int ((nI t) + 1)), some (.int (fr_score (fa_next J m).2 L 4))]) (st' := []) (I' := (fr_end (fa_next J m).2 L 4).1) (L' := L) (R' := zw_RC 4 14 (fr_end (fa_next J m).2 L 4).2) rfl ?_
          have e : bs_loop 4 m L (n + 1) v J = bs_loop 4 m L n v (fr_end (fa_next J m).2 L 4).1 := by rw [bs_loop, if_neg (zb_1 c89), if_pos c112]
          rw [e, ← nI_succ]
          exact ih (t + 1) _ _ _ _ (by omega) (by first | exact (hK _ _ (hnx _ hJ)).2 | exact hcp _ (hK _ _ (hnx _ hJ)).2)
        · have _c := c112
          refine zv_run 6 (pc' := 126) (lo' := [some (.ref 0), some (.int k), some (.int (fr_score (fa_next J m).2 L 4)), some (.int (nI t)), some (.int (fr_score (fa_next J m).2 L 4))]) (st' := [.ref 41, .ref 34]) (I' := (fr_end (fa_next J m).2 L 4).1) (L' := L) (R' := zw_RC 4 14 (fr_end (fa_next J m).2 L 4).2) rfl ?_
          refine zv_cV (M' := mm_X0_copyRowTo) (ci := 0) (a := 34) (av := [.ref 41]) (st := []) (r := none) (I' := (zcp (fr_end (fa_next J m).2 L 4).1 35 41 6)) (L' := L) (R' := zw_RC 4 14 (fr_end (fa_next J m).2 L 4).2) rfl zc_9_191 gd_X0_copyRowTo rfl rfl rfl (Nat.le_of_ble_eq_true rfl) (ct_X0_copyRowTo_41 (d := _)) ⟨Nat.le_refl _, Nat.le_refl _⟩ ?_
          refine zv_run 0 (pc' := 129) (lo' := [some (.ref 0), some (.int k), some (.int (fr_score (fa_next J m).2 L 4)), some (.int (nI t)), some (.int (fr_score (fa_next J m).2 L 4))]) (st' := []) (I' := (zcp (fr_end (fa_next J m).2 L 4).1 35 41 6)) (L' := L) (R' := zw_RC 4 14 (fr_end (fa_next J m).2 L 4).2) rfl ?_
          refine zv_run 2 (pc' := 68) (lo' := [some (.ref 0), some (.int k), some (.int (fr_score (fa_next J m).2 L 4)), some (.int ((nI t) + 1)), some (.int (fr_score (fa_next J m).2 L 4))]) (st' := []) (I' := (zcp (fr_end (fa_next J m).2 L 4).1 35 41 6)) (L' := L) (R' := zw_RC 4 14 (fr_end (fa_next J m).2 L 4).2) rfl ?_
          have e : bs_loop 4 m L (n + 1) v J = bs_loop 4 m L n (fr_score (fa_next J m).2 L 4) (zcp (fr_end (fa_next J m).2 L 4).1 35 41 6) := by rw [bs_loop, if_neg (zb_1 c89), if_neg c112]
          rw [e, ← nI_succ]
          exact ih (t + 1) _ _ _ _ (by omega) (by first | exact (hK _ _ (hnx _ hJ)).2 | exact hcp _ (hK _ _ (hnx _ hJ)).2)
theorem lp_X9_best_14 {d : Nat} {K : zx_I → Prop} {m : Nat} {L : zx_L} {k : Int32} (hk : ¬ k < -1 ∧ k < 6) (hK : kr K 14) (hmm : ∀ J, K J → J 14 13 = nI m) (hm6 : m ≤ 6) (hnx : ∀ J, K J → K (fa_next J m).2) (hcp : ∀ J, K J → K (zcp J 35 41 6)) : ∀ (n t : Nat) (v : Int32) (J : zx_I) (la : Option Nat) (x4 : Option Value), t + n = 720 → K J → zx_V mm_X9_best (d + 5) z0 (zw_any (some (.int (if k ≠ -1 then (bs_loop 14 m L n v J).2 41 k.toNatClampNeg else (bs_loop 14 m L n v J).1))) (bs_loop 14 m L n v J).2 L 14 4) zw_SC 68 [some (.ref 0), some (.int k), some (.int v), some (.int (nI t)), x4] [] J L (zw_RC 14 4 la) := by
  intro n
  induction n with
  | zero =>
    intro t v J la x4 ht hJ
    refine zv_run 2 (pc' := 72) (lo' := [some (.ref 0), some (.int k), some (.int v), some (.int (nI t)), x4]) (st' := [.int 720, .int (nI t)]) (I' := J) (L' := L) (R' := zw_RC 14 4 la) rfl ?_
    refine zv_icmp_ge (tgt := 135) (zs_at rfl) (by decide) (fun c72 => ?_) (fun c72 => ?_)
    · have _c := c72
      refine zv_run 2 (pc' := 137) (lo' := [some (.ref 0), some (.int k), some (.int v), some (.int (nI t)), x4]) (st' := [.int (-1), .int k]) (I' := J) (L' := L) (R' := zw_RC 14 4 la) rfl ?_
      refine zv_icmp_ne (tgt := 144) (zs_at rfl) (by decide) (fun c137 => ?_) (fun c137 => ?_)
      · have _c := c137
        refine zv_run 3 (pc' := 149) (lo' := [some (.ref 0), some (.int k), some (.int v), some (.int (nI t)), x4]) (st' := [.int k, .ref 41]) (I' := J) (L' := L) (R' := zw_RC 14 4 la) rfl ?_
        refine zv_iald (zs_at rfl) rfl (k_in hk.1 c137 hk.2) ?_
        exact zv_iret (zs_at rfl) rfl ⟨Nat.le_refl _, Nat.le_refl _⟩ (by exact zw_toa (by rw [if_pos c137]; rfl) rfl rfl)
      · have _c := c137
        refine zv_run 2 (pc' := 150) (lo' := [some (.ref 0), some (.int k), some (.int v), some (.int (nI t)), x4]) (st' := [.int v]) (I' := J) (L' := L) (R' := zw_RC 14 4 la) rfl ?_
        exact zv_iret (zs_at rfl) rfl ⟨Nat.le_refl _, Nat.le_refl _⟩ (by exact zw_toa (by rw [if_neg (fun q => q c137)]; rfl) rfl rfl)
    · exact absurd (by rw [show t = 720 by omega]; decide) c72
  | succ n ih =>
    intro t v J la x4 ht hJ
    refine zv_run 2 (pc' := 72) (lo' := [some (.ref 0), some (.int k), some (.int v), some (.int (nI t)), x4]) (st' := [.int 720, .int (nI t)]) (I' := J) (L' := L) (R' := zw_RC 14 4 la) rfl ?_
    refine zv_icmp_ge (tgt := 135) (zs_at rfl) (by decide) (fun c72 => ?_) (fun c72 => ?_)
    · exact absurd c72 (by exact nI_ge (a := t) (b := 720) (by omega) (by decide))
    · have _c := c72
      refine zv_run 5 (pc' := 86) (lo' := [some (.ref 0), some (.int k), some (.int v), some (.int (nI t)), x4]) (st' := [.int (J 14 13), .ref 34]) (I' := J) (L' := L) (R' := zw_RC 14 4 la) rfl ?_
      refine zv_cV (M' := mm_X0_nextRow) (ci := 0) (a := 34) (av := [.int (J 14 13)]) (st := []) (r := some (.int (zb (fa_next J m).1))) (I' := (fa_next J m).2) (L' := L) (R' := zw_RC 14 4 la) rfl zc_9_195 gd_X0_nextRow rfl rfl rfl (Nat.le_of_ble_eq_true rfl) (by rw [hmm J hJ]; exact ct_X0_nextRow (d := _) hm6) ⟨Nat.le_refl _, Nat.le_refl _⟩ ?_
      refine zv_run 0 (pc' := 89) (lo' := [some (.ref 0), some (.int k), some (.int v), some (.int (nI t)), x4]) (st' := [.int (zb (fa_next J m).1)]) (I' := (fa_next J m).2) (L' := L) (R' := zw_RC 14 4 la) rfl ?_
      refine zv_if_eq (tgt := 135) (zs_at rfl) (by decide) (fun c89 => ?_) (fun c89 => ?_)
      · have _c := c89
        refine zv_run 2 (pc' := 137) (lo' := [some (.ref 0), some (.int k), some (.int v), some (.int (nI t)), x4]) (st' := [.int (-1), .int k]) (I' := (fa_next J m).2) (L' := L) (R' := zw_RC 14 4 la) rfl ?_
        refine zv_icmp_ne (tgt := 144) (zs_at rfl) (by decide) (fun c137 => ?_) (fun c137 => ?_)
        · have _c := c137
          refine zv_run 3 (pc' := 149) (lo' := [some (.ref 0), some (.int k), some (.int v), some (.int (nI t)), x4]) (st' := [.int k, .ref 41]) (I' := (fa_next J m).2) (L' := L) (R' := zw_RC 14 4 la) rfl ?_
          refine zv_iald (zs_at rfl) rfl (k_in hk.1 c137 hk.2) ?_
          exact zv_iret (zs_at rfl) rfl ⟨Nat.le_refl _, Nat.le_refl _⟩ (by rw [show bs_loop 14 m L (n + 1) v J = (v, (fa_next J m).2) from by rw [bs_loop, if_pos (zb_0 c89)]]; exact zw_toa (by rw [if_pos c137]) rfl rfl)
        · have _c := c137
          refine zv_run 2 (pc' := 150) (lo' := [some (.ref 0), some (.int k), some (.int v), some (.int (nI t)), x4]) (st' := [.int v]) (I' := (fa_next J m).2) (L' := L) (R' := zw_RC 14 4 la) rfl ?_
          exact zv_iret (zs_at rfl) rfl ⟨Nat.le_refl _, Nat.le_refl _⟩ (by rw [show bs_loop 14 m L (n + 1) v J = (v, (fa_next J m).2) from by rw [bs_loop, if_pos (zb_0 c89)]]; exact zw_toa (by rw [if_neg (fun q => q c137)]) rfl rfl)
      · have _c := c89
        refine zv_run 6 (pc' := 104) (lo' := [some (.ref 0), some (.int k), some (.int v), some (.int (nI t)), x4]) (st' := [.ref 34, .ref 14, .ref 36]) (I' := (fa_next J m).2) (L' := L) (R' := zw_RC 14 4 la) rfl ?_
        refine zv_cV (M' := mm_X3_run) (ci := 3) (a := 36) (av := [.ref 14, .ref 34]) (st := []) (r := some (.int (fr_score (fa_next J m).2 L 14))) (I' := (fr_end (fa_next J m).2 L 14).1) (L' := L) (R' := zw_RC 14 4 (fr_end (fa_next J m).2 L 14).2) rfl zc_9_159 gd_X3_run rfl rfl rfl (Nat.le_of_ble_eq_true rfl) (ct_X3_run (d := _) (Or.inr rfl) (hK _ _ (hnx _ hJ)).1) ⟨Nat.le_refl _, Nat.le_refl _⟩ ?_
        refine zv_run 0 (pc' := 107) (lo' := [some (.ref 0), some (.int k), some (.int v), some (.int (nI t)), x4]) (st' := [.int (fr_score (fa_next J m).2 L 14)]) (I' := (fr_end (fa_next J m).2 L 14).1) (L' := L) (R' := zw_RC 14 4 (fr_end (fa_next J m).2 L 14).2) rfl ?_
        refine zv_run 3 (pc' := 112) (lo' := [some (.ref 0), some (.int k), some (.int v), some (.int (nI t)), some (.int (fr_score (fa_next J m).2 L 14))]) (st' := [.int v, .int (fr_score (fa_next J m).2 L 14)]) (I' := (fr_end (fa_next J m).2 L 14).1) (L' := L) (R' := zw_RC 14 4 (fr_end (fa_next J m).2 L 14).2) rfl ?_
        refine zv_icmp_ge (tgt := 129) (zs_at rfl) (by decide) (fun c112 => ?_) (fun c112 => ?_)
        · have _c := c112
          refine zv_run 2 (pc' := 68) (lo' := [some (.ref 0), some (.int k), some (.int v), some (.int ((nI t) + 1)), some (.int (fr_score (fa_next J m).2 L 14))]) (st' := []) (I' := (fr_end (fa_next J m).2 L 14).1) (L' := L) (R' := zw_RC 14 4 (fr_end (fa_next J m).2 L 14).2) rfl ?_
          have e : bs_loop 14 m L (n + 1) v J = bs_loop 14 m L n v (fr_end (fa_next J m).2 L 14).1 := by rw [bs_loop, if_neg (zb_1 c89), if_pos c112]
          rw [e, ← nI_succ]
          exact ih (t + 1) _ _ _ _ (by omega) (by first | exact (hK _ _ (hnx _ hJ)).2 | exact hcp _ (hK _ _ (hnx _ hJ)).2)
        · have _c := c112
          refine zv_run 6 (pc' := 126) (lo' := [some (.ref 0), some (.int k), some (.int (fr_score (fa_next J m).2 L 14)), some (.int (nI t)), some (.int (fr_score (fa_next J m).2 L 14))]) (st' := [.ref 41, .ref 34]) (I' := (fr_end (fa_next J m).2 L 14).1) (L' := L) (R' := zw_RC 14 4 (fr_end (fa_next J m).2 L 14).2) rfl ?_
          refine zv_cV (M' := mm_X0_copyRowTo) (ci := 0) (a := 34) (av := [.ref 41]) (st := []) (r := none) (I' := (zcp (fr_end (fa_next J m).2 L 14).1 35 41 6)) (L' := L) (R' := zw_RC 14 4 (fr_end (fa_next J m).2 L 14).2) rfl zc_9_191 gd_X0_copyRowTo rfl rfl rfl (Nat.le_of_ble_eq_true rfl) (ct_X0_copyRowTo_41 (d := _)) ⟨Nat.le_refl _, Nat.le_refl _⟩ ?_
          refine zv_run 0 (pc' := 129) (lo' := [some (.ref 0), some (.int k), some (.int (fr_score (fa_next J m).2 L 14)), some (.int (nI t)), some (.int (fr_score (fa_next J m).2 L 14))]) (st' := []) (I' := (zcp (fr_end (fa_next J m).2 L 14).1 35 41 6)) (L' := L) (R' := zw_RC 14 4 (fr_end (fa_next J m).2 L 14).2) rfl ?_
          refine zv_run 2 (pc' := 68) (lo' := [some (.ref 0), some (.int k), some (.int (fr_score (fa_next J m).2 L 14)), some (.int ((nI t) + 1)), some (.int (fr_score (fa_next J m).2 L 14))]) (st' := []) (I' := (zcp (fr_end (fa_next J m).2 L 14).1 35 41 6)) (L' := L) (R' := zw_RC 14 4 (fr_end (fa_next J m).2 L 14).2) rfl ?_
          have e : bs_loop 14 m L (n + 1) v J = bs_loop 14 m L n (fr_score (fa_next J m).2 L 14) (zcp (fr_end (fa_next J m).2 L 14).1 35 41 6) := by rw [bs_loop, if_neg (zb_1 c89), if_neg c112]
          rw [e, ← nI_succ]
          exact ih (t + 1) _ _ _ _ (by omega) (by first | exact (hK _ _ (hnx _ hJ)).2 | exact hcp _ (hK _ _ (hnx _ hJ)).2)
theorem ct_X9_best_no_4 {d : Nat} {I : zx_I} {L : zx_L} {la : Option Nat} {k : Int32} (hno : ¬ q_bsok I 4 k) : zx_M0 mm_X9_best (d + 1) 0 0 [.ref 0, .int k] zw_SC I L (zw_RC 4 14 la) (zw_ret (some (.int (-1))) zw_SC I L (zw_RC 4 14 la)) := by
  refine zv_entry gd_X9_best (Nat.le_of_ble_eq_true rfl) ?_
  refine zv_run 2 (pc' := 2) (lo' := [some (.ref 0), some (.int k), none, none, none]) (st' := [.int (-1), .int k]) (I' := I) (L' := L) (R' := zw_RC 4 14 la) rfl ?_
  refine zv_icmp_lt (tgt := 25) (zs_at rfl) (by decide) (fun c2 => ?_) (fun c2 => ?_)
  · have _c := c2
    refine zv_run 1 (pc' := 26) (lo' := [some (.ref 0), some (.int k), none, none, none]) (st' := [.int (-1)]) (I' := I) (L' := L) (R' := zw_RC 4 14 la) rfl ?_
    exact zv_iret (zs_at rfl) rfl ⟨Nat.le_refl _, Nat.le_refl _⟩ (zw_to rfl rfl rfl rfl)
  · have _c := c2
    refine zv_run 4 (pc' := 13) (lo' := [some (.ref 0), some (.int k), none, none, none]) (st' := [.int (I 4 13), .int k]) (I' := I) (L' := L) (R' := zw_RC 4 14 la) rfl ?_
    refine zv_icmp_ge (tgt := 25) (zs_at rfl) (by decide) (fun c13 => ?_) (fun c13 => ?_)
    · have _c := c13
      refine zv_run 1 (pc' := 26) (lo' := [some (.ref 0), some (.int k), none, none, none]) (st' := [.int (-1)]) (I' := I) (L' := L) (R' := zw_RC 4 14 la) rfl ?_
      exact zv_iret (zs_at rfl) rfl ⟨Nat.le_refl _, Nat.le_refl _⟩ (zw_to rfl rfl rfl rfl)
    · have _c := c13
      refine zv_run 4 (pc' := 22) (lo' := [some (.ref 0), some (.int k), none, none, none]) (st' := [.int 6, .int k]) (I' := I) (L' := L) (R' := zw_RC 4 14 la) rfl ?_
      refine zv_icmp_lt (tgt := 27) (zs_at rfl) (by decide) (fun c22 => ?_) (fun c22 => ?_)
      · have _c := c22
        exact absurd ⟨c2, c13, c22⟩ hno
      · have _c := c22
        refine zv_run 1 (pc' := 26) (lo' := [some (.ref 0), some (.int k), none, none, none]) (st' := [.int (-1)]) (I' := I) (L' := L) (R' := zw_RC 4 14 la) rfl ?_
        exact zv_iret (zs_at rfl) rfl ⟨Nat.le_refl _, Nat.le_refl _⟩ (zw_to rfl rfl rfl rfl)
theorem ct_X9_best_no_14 {d : Nat} {I : zx_I} {L : zx_L} {la : Option Nat} {k : Int32} (hno : ¬ q_bsok I 14 k) : zx_M0 mm_X9_best (d + 1) 0 0 [.ref 0, .int k] zw_SC I L (zw_RC 14 4 la) (zw_ret (some (.int (-1))) zw_SC I L (zw_RC 14 4 la)) := by
  refine zv_entry gd_X9_best (Nat.le_of_ble_eq_true rfl) ?_
  refine zv_run 2 (pc' := 2) (lo' := [some (.ref 0), some (.int k), none, none, none]) (st' := [.int (-1), .int k]) (I' := I) (L' := L) (R' := zw_RC 14 4 la) rfl ?_
  refine zv_icmp_lt (tgt := 25) (zs_at rfl) (by decide) (fun c2 => ?_) (fun c2 => ?_)
  · have _c := c2
    refine zv_run 1 (pc' := 26) (lo' := [some (.ref 0), some (.int k), none, none, none]) (st' := [.int (-1)]) (I' := I) (L' := L) (R' := zw_RC 14 4 la) rfl ?_
    exact zv_iret (zs_at rfl) rfl ⟨Nat.le_refl _, Nat.le_refl _⟩ (zw_to rfl rfl rfl rfl)
  · have _c := c2
    refine zv_run 4 (pc' := 13) (lo' := [some (.ref 0), some (.int k), none, none, none]) (st' := [.int (I 14 13), .int k]) (I' := I) (L' := L) (R' := zw_RC 14 4 la) rfl ?_
    refine zv_icmp_ge (tgt := 25) (zs_at rfl) (by decide) (fun c13 => ?_) (fun c13 => ?_)
    · have _c := c13
      refine zv_run 1 (pc' := 26) (lo' := [some (.ref 0), some (.int k), none, none, none]) (st' := [.int (-1)]) (I' := I) (L' := L) (R' := zw_RC 14 4 la) rfl ?_
      exact zv_iret (zs_at rfl) rfl ⟨Nat.le_refl _, Nat.le_refl _⟩ (zw_to rfl rfl rfl rfl)
    · have _c := c13
      refine zv_run 4 (pc' := 22) (lo' := [some (.ref 0), some (.int k), none, none, none]) (st' := [.int 6, .int k]) (I' := I) (L' := L) (R' := zw_RC 14 4 la) rfl ?_
      refine zv_icmp_lt (tgt := 27) (zs_at rfl) (by decide) (fun c22 => ?_) (fun c22 => ?_)
      · have _c := c22
        exact absurd ⟨c2, c13, c22⟩ hno
      · have _c := c22
        refine zv_run 1 (pc' := 26) (lo' := [some (.ref 0), some (.int k), none, none, none]) (st' := [.int (-1)]) (I' := I) (L' := L) (R' := zw_RC 14 4 la) rfl ?_
        exact zv_iret (zs_at rfl) rfl ⟨Nat.le_refl _, Nat.le_refl _⟩ (zw_to rfl rfl rfl rfl)
theorem ct_X9_best_no {d : Nat} {I : zx_I} {L : zx_L} {h sp : Nat} {la : Option Nat} {k : Int32} (hh : hsp h sp) (hno : ¬ q_bsok I h k) : zx_M0 mm_X9_best (d + 1) 0 0 [.ref 0, .int k] zw_SC I L (zw_RC h sp la) (zw_ret (some (.int (-1))) zw_SC I L (zw_RC h sp la)) := by
  rcases hh with ⟨rfl, rfl⟩ | ⟨rfl, rfl⟩
  · exact ct_X9_best_no_4 hno
  · exact ct_X9_best_no_14 hno
theorem ct_X9_best_4 {d : Nat} {I : zx_I} {L : zx_L} {la : Option Nat} {k : Int32} {m : Nat} {K : zx_I → Prop} (hok : q_bsok I 4 k) (hK : kr K 4) (hmm : ∀ J, K J → J 4 13 = nI m) (hm6 : m ≤ 6) (hnx : ∀ J, K J → K (fa_next J m).2) (hcp : ∀ J, K J → K (zcp J 35 41 6)) (h0 : K (q_bsm I 4)) : zx_M0 mm_X9_best (d + 5) 0 0 [.ref 0, .int k] zw_SC I L (zw_RC 4 14 la) (zw_any (some (.int (if k ≠ -1 then (q_bs I L 4 m).2 41 k.toNatClampNeg else (q_bs I L 4 m).1))) (q_bs I L 4 m).2 (q_L L) 4 14) := by
  refine zv_entry gd_X9_best (Nat.le_of_ble_eq_true rfl) ?_
  refine zv_run 2 (pc' := 2) (lo' := [some (.ref 0), some (.int k), none, none, none]) (st' := [.int (-1), .int k]) (I' := I) (L' := L) (R' := zw_RC 4 14 la) rfl ?_
  refine zv_icmp_lt (tgt := 25) (zs_at rfl) (by decide) (fun c2 => ?_) (fun c2 => ?_)
  · have _c := c2
    refine zv_run 1 (pc' := 26) (lo' := [some (.ref 0), some (.int k), none, none, none]) (st' := [.int (-1)]) (I' := I) (L' := L) (R' := zw_RC 4 14 la) rfl ?_
    exact zv_iret (zs_at rfl) rfl ⟨Nat.le_refl _, Nat.le_refl _⟩ (absurd hok (fun q => by first | exact q.1 c2 | exact q.2.1 c13 | exact c22 q.2.2))
  · have _c := c2
    refine zv_run 4 (pc' := 13) (lo' := [some (.ref 0), some (.int k), none, none, none]) (st' := [.int (I 4 13), .int k]) (I' := I) (L' := L) (R' := zw_RC 4 14 la) rfl ?_
    refine zv_icmp_ge (tgt := 25) (zs_at rfl) (by decide) (fun c13 => ?_) (fun c13 => ?_)
    · have _c := c13
      refine zv_run 1 (pc' := 26) (lo' := [some (.ref 0), some (.int k), none, none, none]) (st' := [.int (-1)]) (I' := I) (L' := L) (R' := zw_RC 4 14 la) rfl ?_
      exact zv_iret (zs_at rfl) rfl ⟨Nat.le_refl _, Nat.le_refl _⟩ (absurd hok (fun q => by first | exact q.1 c2 | exact q.2.1 c13 | exact c22 q.2.2))
    · have _c := c13
      refine zv_run 4 (pc' := 22) (lo' := [some (.ref 0), some (.int k), none, none, none]) (st' := [.int 6, .int k]) (I' := I) (L' := L) (R' := zw_RC 4 14 la) rfl ?_
      refine zv_icmp_lt (tgt := 27) (zs_at rfl) (by decide) (fun c22 => ?_) (fun c22 => ?_)
      · have _c := c22
        refine zv_run 2 (pc' := 29) (lo' := [some (.ref 0), some (.int k), none, none, none]) (st' := [.int 0, .ref 0]) (I' := I) (L' := L) (R' := zw_RC 4 14 la) rfl ?_
        refine zv_cV (M' := mm_X9_ask) (ci := 9) (a := 0) (av := [.int 0]) (st := []) (r := none) (I' := (q_ask I 4 0)) (L' := (q_L L)) (R' := zw_RC 4 14 la) rfl zc_9_156 gd_X9_ask rfl rfl rfl (Nat.le_of_ble_eq_true rfl) (ct_X9_ask_4 (d := _)) ⟨Nat.le_refl _, Nat.le_refl _⟩ ?_
        refine zv_run 0 (pc' := 32) (lo' := [some (.ref 0), some (.int k), none, none, none]) (st' := []) (I' := (q_ask I 4 0)) (L' := (q_L L)) (R' := zw_RC 4 14 la) rfl ?_
        refine zv_run 2 (pc' := 36) (lo' := [some (.ref 0), some (.int k), none, none, none]) (st' := [.ref 34]) (I' := (q_ask I 4 0)) (L' := (q_L L)) (R' := zw_RC 4 14 la) rfl ?_
        refine zv_cV (M' := mm_X0_rowByNumbers) (ci := 0) (a := 34) (av := []) (st := []) (r := none) (I' := (q_bsm I 4)) (L' := (q_L L)) (R' := zw_RC 4 14 la) rfl zc_9_188 gd_X0_rowByNumbers rfl rfl rfl (Nat.le_of_ble_eq_true rfl) (ct_X0_rowByNumbers (d := _)) ⟨Nat.le_refl _, Nat.le_refl _⟩ ?_
        refine zv_run 0 (pc' := 39) (lo' := [some (.ref 0), some (.int k), none, none, none]) (st' := []) (I' := (q_bsm I 4)) (L' := (q_L L)) (R' := zw_RC 4 14 la) rfl ?_
        refine zv_run 6 (pc' := 51) (lo' := [some (.ref 0), some (.int k), none, none, none]) (st' := [.ref 34, .ref 4, .ref 36]) (I' := (q_bsm I 4)) (L' := (q_L L)) (R' := zw_RC 4 14 la) rfl ?_
        refine zv_cV (M' := mm_X3_run) (ci := 3) (a := 36) (av := [.ref 4, .ref 34]) (st := []) (r := some (.int (fr_score (q_bsm I 4) (q_L L) 4))) (I' := (fr_end (q_bsm I 4) (q_L L) 4).1) (L' := (q_L L)) (R' := zw_RC 4 14 (fr_end (q_bsm I 4) (q_L L) 4).2) rfl zc_9_159 gd_X3_run rfl rfl rfl (Nat.le_of_ble_eq_true rfl) (ct_X3_run (d := _) (Or.inl rfl) (hK _ _ h0).1) ⟨Nat.le_refl _, Nat.le_refl _⟩ ?_
        refine zv_run 0 (pc' := 54) (lo' := [some (.ref 0), some (.int k), none, none, none]) (st' := [.int (fr_score (q_bsm I 4) (q_L L) 4)]) (I' := (fr_end (q_bsm I 4) (q_L L) 4).1) (L' := (q_L L)) (R' := zw_RC 4 14 (fr_end (q_bsm I 4) (q_L L) 4).2) rfl ?_
        refine zv_run 5 (pc' := 63) (lo' := [some (.ref 0), some (.int k), some (.int (fr_score (q_bsm I 4) (q_L L) 4)), none, none]) (st' := [.ref 41, .ref 34]) (I' := (fr_end (q_bsm I 4) (q_L L) 4).1) (L' := (q_L L)) (R' := zw_RC 4 14 (fr_end (q_bsm I 4) (q_L L) 4).2) rfl ?_
        refine zv_cV (M' := mm_X0_copyRowTo) (ci := 0) (a := 34) (av := [.ref 41]) (st := []) (r := none) (I' := (zcp (fr_end (q_bsm I 4) (q_L L) 4).1 35 41 6)) (L' := (q_L L)) (R' := zw_RC 4 14 (fr_end (q_bsm I 4) (q_L L) 4).2) rfl zc_9_191 gd_X0_copyRowTo rfl rfl rfl (Nat.le_of_ble_eq_true rfl) (ct_X0_copyRowTo_41 (d := _)) ⟨Nat.le_refl _, Nat.le_refl _⟩ ?_
        refine zv_run 0 (pc' := 66) (lo' := [some (.ref 0), some (.int k), some (.int (fr_score (q_bsm I 4) (q_L L) 4)), none, none]) (st' := []) (I' := (zcp (fr_end (q_bsm I 4) (q_L L) 4).1 35 41 6)) (L' := (q_L L)) (R' := zw_RC 4 14 (fr_end (q_bsm I 4) (q_L L) 4).2) rfl ?_
        refine zv_run 2 (pc' := 68) (lo' := [some (.ref 0), some (.int k), some (.int (fr_score (q_bsm I 4) (q_L L) 4)), some (.int 1), none]) (st' := []) (I' := (zcp (fr_end (q_bsm I 4) (q_L L) 4).1 35 41 6)) (L' := (q_L L)) (R' := zw_RC 4 14 (fr_end (q_bsm I 4) (q_L L) 4).2) rfl ?_
        exact lp_X9_best_4 ⟨hok.1, hok.2.2⟩ hK hmm hm6 hnx hcp 719 1 _ _ _ none rfl (hcp _ (hK _ _ h0).2)
      · have _c := c22
        refine zv_run 1 (pc' := 26) (lo' := [some (.ref 0), some (.int k), none, none, none]) (st' := [.int (-1)]) (I' := I) (L' := L) (R' := zw_RC 4 14 la) rfl ?_
        exact zv_iret (zs_at rfl) rfl ⟨Nat.le_refl _, Nat.le_refl _⟩ (absurd hok (fun q => by first | exact q.1 c2 | exact q.2.1 c13 | exact c22 q.2.2))
theorem ct_X9_best_14 {d : Nat} {I : zx_I} {L : zx_L} {la : Option Nat} {k : Int32} {m : Nat} {K : zx_I → Prop} (hok : q_bsok I 14 k) (hK : kr K 14) (hmm : ∀ J, K J → J 14 13 = nI m) (hm6 : m ≤ 6) (hnx : ∀ J, K J → K (fa_next J m).2) (hcp : ∀ J, K J → K (zcp J 35 41 6)) (h0 : K (q_bsm I 14)) : zx_M0 mm_X9_best (d + 5) 0 0 [.ref 0, .int k] zw_SC I L (zw_RC 14 4 la) (zw_any (some (.int (if k ≠ -1 then (q_bs I L 14 m).2 41 k.toNatClampNeg else (q_bs I L 14 m).1))) (q_bs I L 14 m).2 (q_L L) 14 4) := by
  refine zv_entry gd_X9_best (Nat.le_of_ble_eq_true rfl) ?_
  refine zv_run 2 (pc' := 2) (lo' := [some (.ref 0), some (.int k), none, none, none]) (st' := [.int (-1), .int k]) (I' := I) (L' := L) (R' := zw_RC 14 4 la) rfl ?_
  refine zv_icmp_lt (tgt := 25) (zs_at rfl) (by decide) (fun c2 => ?_) (fun c2 => ?_)
  · have _c := c2
    refine zv_run 1 (pc' := 26) (lo' := [some (.ref 0), some (.int k), none, none, none]) (st' := [.int (-1)]) (I' := I) (L' := L) (R' := zw_RC 14 4 la) rfl ?_
    exact zv_iret (zs_at rfl) rfl ⟨Nat.le_refl _, Nat.le_refl _⟩ (absurd hok (fun q => by first | exact q.1 c2 | exact q.2.1 c13 | exact c22 q.2.2))
  · have _c := c2
    refine zv_run 4 (pc' := 13) (lo' := [some (.ref 0), some (.int k), none, none, none]) (st' := [.int (I 14 13), .int k]) (I' := I) (L' := L) (R' := zw_RC 14 4 la) rfl ?_
    refine zv_icmp_ge (tgt := 25) (zs_at rfl) (by decide) (fun c13 => ?_) (fun c13 => ?_)
    · have _c := c13
      refine zv_run 1 (pc' := 26) (lo' := [some (.ref 0), some (.int k), none, none, none]) (st' := [.int (-1)]) (I' := I) (L' := L) (R' := zw_RC 14 4 la) rfl ?_
      exact zv_iret (zs_at rfl) rfl ⟨Nat.le_refl _, Nat.le_refl _⟩ (absurd hok (fun q => by first | exact q.1 c2 | exact q.2.1 c13 | exact c22 q.2.2))
    · have _c := c13
      refine zv_run 4 (pc' := 22) (lo' := [some (.ref 0), some (.int k), none, none, none]) (st' := [.int 6, .int k]) (I' := I) (L' := L) (R' := zw_RC 14 4 la) rfl ?_
      refine zv_icmp_lt (tgt := 27) (zs_at rfl) (by decide) (fun c22 => ?_) (fun c22 => ?_)
      · have _c := c22
        refine zv_run 2 (pc' := 29) (lo' := [some (.ref 0), some (.int k), none, none, none]) (st' := [.int 0, .ref 0]) (I' := I) (L' := L) (R' := zw_RC 14 4 la) rfl ?_
        refine zv_cV (M' := mm_X9_ask) (ci := 9) (a := 0) (av := [.int 0]) (st := []) (r := none) (I' := (q_ask I 14 0)) (L' := (q_L L)) (R' := zw_RC 14 4 la) rfl zc_9_156 gd_X9_ask rfl rfl rfl (Nat.le_of_ble_eq_true rfl) (ct_X9_ask_14 (d := _)) ⟨Nat.le_refl _, Nat.le_refl _⟩ ?_
        refine zv_run 0 (pc' := 32) (lo' := [some (.ref 0), some (.int k), none, none, none]) (st' := []) (I' := (q_ask I 14 0)) (L' := (q_L L)) (R' := zw_RC 14 4 la) rfl ?_
        refine zv_run 2 (pc' := 36) (lo' := [some (.ref 0), some (.int k), none, none, none]) (st' := [.ref 34]) (I' := (q_ask I 14 0)) (L' := (q_L L)) (R' := zw_RC 14 4 la) rfl ?_
        refine zv_cV (M' := mm_X0_rowByNumbers) (ci := 0) (a := 34) (av := []) (st := []) (r := none) (I' := (q_bsm I 14)) (L' := (q_L L)) (R' := zw_RC 14 4 la) rfl zc_9_188 gd_X0_rowByNumbers rfl rfl rfl (Nat.le_of_ble_eq_true rfl) (ct_X0_rowByNumbers (d := _)) ⟨Nat.le_refl _, Nat.le_refl _⟩ ?_
        refine zv_run 0 (pc' := 39) (lo' := [some (.ref 0), some (.int k), none, none, none]) (st' := []) (I' := (q_bsm I 14)) (L' := (q_L L)) (R' := zw_RC 14 4 la) rfl ?_
        refine zv_run 6 (pc' := 51) (lo' := [some (.ref 0), some (.int k), none, none, none]) (st' := [.ref 34, .ref 14, .ref 36]) (I' := (q_bsm I 14)) (L' := (q_L L)) (R' := zw_RC 14 4 la) rfl ?_
        refine zv_cV (M' := mm_X3_run) (ci := 3) (a := 36) (av := [.ref 14, .ref 34]) (st := []) (r := some (.int (fr_score (q_bsm I 14) (q_L L) 14))) (I' := (fr_end (q_bsm I 14) (q_L L) 14).1) (L' := (q_L L)) (R' := zw_RC 14 4 (fr_end (q_bsm I 14) (q_L L) 14).2) rfl zc_9_159 gd_X3_run rfl rfl rfl (Nat.le_of_ble_eq_true rfl) (ct_X3_run (d := _) (Or.inr rfl) (hK _ _ h0).1) ⟨Nat.le_refl _, Nat.le_refl _⟩ ?_
        refine zv_run 0 (pc' := 54) (lo' := [some (.ref 0), some (.int k), none, none, none]) (st' := [.int (fr_score (q_bsm I 14) (q_L L) 14)]) (I' := (fr_end (q_bsm I 14) (q_L L) 14).1) (L' := (q_L L)) (R' := zw_RC 14 4 (fr_end (q_bsm I 14) (q_L L) 14).2) rfl ?_
        refine zv_run 5 (pc' := 63) (lo' := [some (.ref 0), some (.int k), some (.int (fr_score (q_bsm I 14) (q_L L) 14)), none, none]) (st' := [.ref 41, .ref 34]) (I' := (fr_end (q_bsm I 14) (q_L L) 14).1) (L' := (q_L L)) (R' := zw_RC 14 4 (fr_end (q_bsm I 14) (q_L L) 14).2) rfl ?_
        refine zv_cV (M' := mm_X0_copyRowTo) (ci := 0) (a := 34) (av := [.ref 41]) (st := []) (r := none) (I' := (zcp (fr_end (q_bsm I 14) (q_L L) 14).1 35 41 6)) (L' := (q_L L)) (R' := zw_RC 14 4 (fr_end (q_bsm I 14) (q_L L) 14).2) rfl zc_9_191 gd_X0_copyRowTo rfl rfl rfl (Nat.le_of_ble_eq_true rfl) (ct_X0_copyRowTo_41 (d := _)) ⟨Nat.le_refl _, Nat.le_refl _⟩ ?_
        refine zv_run 0 (pc' := 66) (lo' := [some (.ref 0), some (.int k), some (.int (fr_score (q_bsm I 14) (q_L L) 14)), none, none]) (st' := []) (I' := (zcp (fr_end (q_bsm I 14) (q_L L) 14).1 35 41 6)) (L' := (q_L L)) (R' := zw_RC 14 4 (fr_end (q_bsm I 14) (q_L L) 14).2) rfl ?_
        refine zv_run 2 (pc' := 68) (lo' := [some (.ref 0), some (.int k), some (.int (fr_score (q_bsm I 14) (q_L L) 14)), some (.int 1), none]) (st' := []) (I' := (zcp (fr_end (q_bsm I 14) (q_L L) 14).1 35 41 6)) (L' := (q_L L)) (R' := zw_RC 14 4 (fr_end (q_bsm I 14) (q_L L) 14).2) rfl ?_
        exact lp_X9_best_14 ⟨hok.1, hok.2.2⟩ hK hmm hm6 hnx hcp 719 1 _ _ _ none rfl (hcp _ (hK _ _ h0).2)
      · have _c := c22
        refine zv_run 1 (pc' := 26) (lo' := [some (.ref 0), some (.int k), none, none, none]) (st' := [.int (-1)]) (I' := I) (L' := L) (R' := zw_RC 14 4 la) rfl ?_
        exact zv_iret (zs_at rfl) rfl ⟨Nat.le_refl _, Nat.le_refl _⟩ (absurd hok (fun q => by first | exact q.1 c2 | exact q.2.1 c13 | exact c22 q.2.2))
theorem ct_X9_best {d : Nat} {I : zx_I} {L : zx_L} {h sp : Nat} {la : Option Nat} {k : Int32} {m : Nat} {K : zx_I → Prop} (hh : hsp h sp) (hok : q_bsok I h k) (hK : kr K h) (hmm : ∀ J, K J → J h 13 = nI m) (hm6 : m ≤ 6) (hnx : ∀ J, K J → K (fa_next J m).2) (hcp : ∀ J, K J → K (zcp J 35 41 6)) (h0 : K (q_bsm I h)) : zx_M0 mm_X9_best (d + 5) 0 0 [.ref 0, .int k] zw_SC I L (zw_RC h sp la) (zw_any (some (.int (if k ≠ -1 then (q_bs I L h m).2 41 k.toNatClampNeg else (q_bs I L h m).1))) (q_bs I L h m).2 (q_L L) h sp) := by
  rcases hh with ⟨rfl, rfl⟩ | ⟨rfl, rfl⟩
  · exact ct_X9_best_4 hok hK hmm hm6 hnx hcp h0
  · exact ct_X9_best_14 hok hK hmm hm6 hnx hcp h0
theorem lp_X9_swap_4 {d : Nat} {K : zx_I → Prop} {L : zx_L} (hK : kr K 4) (hch : ∀ J a b, K J → K (fa_ch J a b)) : ∀ (n t : Nat) (s cc k : Int32) (J : zx_I) (la : Option Nat) (x5 : Option Value), t + n = 1000000 → K J → zx_V mm_X9_swapped (d + 5) z0 (zw_any (some (.int (sw_loop 4 L n s cc k J).1)) (zcp (sw_loop 4 L n s cc k J).2 35 25 6) L 4 14) zw_SC 28 [some (.ref 0), some (.int s), some (.int cc), some (.int k), some (.int (nI t)), x5] [] J L (zw_RC 4 14 la) := by
  intro n
  induction n with
  | zero =>
    intro t s cc k J la x5 ht hJ
    refine zv_run 2 (pc' := 32) (lo' := [some (.ref 0), some (.int s), some (.int cc), some (.int k), some (.int (nI t)), x5]) (st' := [.int 1000000, .int (nI t)]) (I' := J) (L' := L) (R' := zw_RC 4 14 la) rfl ?_
    refine zv_icmp_ge (tgt := 113) (zs_at rfl) (by decide) (fun c32 => ?_) (fun c32 => ?_)
    · have _c := c32
      refine zv_run 5 (pc' := 124) (lo' := [some (.ref 0), some (.int s), some (.int cc), some (.int k), some (.int (nI t)), x5]) (st' := [.ref 25, .ref 34]) (I' := J) (L' := L) (R' := zw_RC 4 14 la) rfl ?_
      refine zv_cV (M' := mm_X0_copyRowTo) (ci := 0) (a := 34) (av := [.ref 25]) (st := []) (r := none) (I' := (zcp J 35 25 6)) (L' := L) (R' := zw_RC 4 14 la) rfl zc_9_191 gd_X0_copyRowTo rfl rfl rfl (Nat.le_of_ble_eq_true rfl) (ct_X0_copyRowTo_25 (d := _)) ⟨Nat.le_refl _, Nat.le_refl _⟩ ?_
      refine zv_run 0 (pc' := 127) (lo' := [some (.ref 0), some (.int s), some (.int cc), some (.int k), some (.int (nI t)), x5]) (st' := []) (I' := (zcp J 35 25 6)) (L' := L) (R' := zw_RC 4 14 la) rfl ?_
      refine zv_run 1 (pc' := 128) (lo' := [some (.ref 0), some (.int s), some (.int cc), some (.int k), some (.int (nI t)), x5]) (st' := [.int cc]) (I' := (zcp J 35 25 6)) (L' := L) (R' := zw_RC 4 14 la) rfl ?_
      exact zv_iret (zs_at rfl) rfl ⟨Nat.le_refl _, Nat.le_refl _⟩ (zw_toa rfl rfl rfl)
    · exact absurd (by rw [show t = 1000000 by omega]; decide) c32
  | succ n ih =>
    intro t s cc k J la x5 ht hJ
    refine zv_run 2 (pc' := 32) (lo' := [some (.ref 0), some (.int s), some (.int cc), some (.int k), some (.int (nI t)), x5]) (st' := [.int 1000000, .int (nI t)]) (I' := J) (L' := L) (R' := zw_RC 4 14 la) rfl ?_
    refine zv_icmp_ge (tgt := 113) (zs_at rfl) (by decide) (fun c32 => ?_) (fun c32 => ?_)
    · exact absurd c32 (by exact nI_ge (a := t) (b := 1000000) (by omega) (by decide))
    · have _c := c32
      refine zv_run 6 (pc' := 45) (lo' := [some (.ref 0), some (.int s), some (.int cc), some (.int k), some (.int (nI t)), x5]) (st' := [.int (J 4 13), .int (k + 1)]) (I' := J) (L' := L) (R' := zw_RC 4 14 la) rfl ?_
      refine zv_icmp_ge (tgt := 113) (zs_at rfl) (by decide) (fun c45 => ?_) (fun c45 => ?_)
      · have _c := c45
        refine zv_run 5 (pc' := 124) (lo' := [some (.ref 0), some (.int s), some (.int cc), some (.int k), some (.int (nI t)), x5]) (st' := [.ref 25, .ref 34]) (I' := J) (L' := L) (R' := zw_RC 4 14 la) rfl ?_
        refine zv_cV (M' := mm_X0_copyRowTo) (ci := 0) (a := 34) (av := [.ref 25]) (st := []) (r := none) (I' := (zcp J 35 25 6)) (L' := L) (R' := zw_RC 4 14 la) rfl zc_9_191 gd_X0_copyRowTo rfl rfl rfl (Nat.le_of_ble_eq_true rfl) (ct_X0_copyRowTo_25 (d := _)) ⟨Nat.le_refl _, Nat.le_refl _⟩ ?_
        refine zv_run 0 (pc' := 127) (lo' := [some (.ref 0), some (.int s), some (.int cc), some (.int k), some (.int (nI t)), x5]) (st' := []) (I' := (zcp J 35 25 6)) (L' := L) (R' := zw_RC 4 14 la) rfl ?_
        refine zv_run 1 (pc' := 128) (lo' := [some (.ref 0), some (.int s), some (.int cc), some (.int k), some (.int (nI t)), x5]) (st' := [.int cc]) (I' := (zcp J 35 25 6)) (L' := L) (R' := zw_RC 4 14 la) rfl ?_
        exact zv_iret (zs_at rfl) rfl ⟨Nat.le_refl _, Nat.le_refl _⟩ (by rw [show sw_loop 4 L (n + 1) s cc k J = (cc, J) from by rw [sw_loop, if_pos c45]]; exact zw_toa rfl rfl rfl)
      · have _c := c45
        refine zv_run 6 (pc' := 56) (lo' := [some (.ref 0), some (.int s), some (.int cc), some (.int k), some (.int (nI t)), x5]) (st' := [.int (k + 1), .int k, .ref 34]) (I' := J) (L' := L) (R' := zw_RC 4 14 la) rfl ?_
        refine zv_cV (M' := mm_X0_changePlaces) (ci := 0) (a := 34) (av := [.int k, .int (k + 1)]) (st := []) (r := none) (I' := (fa_ch J k (k + 1))) (L' := L) (R' := zw_RC 4 14 la) rfl zc_9_199 gd_X0_changePlaces rfl rfl rfl (Nat.le_of_ble_eq_true rfl) (ct_X0_changePlaces (d := _)) ⟨Nat.le_refl _, Nat.le_refl _⟩ ?_
        refine zv_run 0 (pc' := 59) (lo' := [some (.ref 0), some (.int s), some (.int cc), some (.int k), some (.int (nI t)), x5]) (st' := []) (I' := (fa_ch J k (k + 1))) (L' := L) (R' := zw_RC 4 14 la) rfl ?_
        refine zv_run 6 (pc' := 71) (lo' := [some (.ref 0), some (.int s), some (.int cc), some (.int k), some (.int (nI t)), x5]) (st' := [.ref 34, .ref 4, .ref 36]) (I' := (fa_ch J k (k + 1))) (L' := L) (R' := zw_RC 4 14 la) rfl ?_
        refine zv_cV (M' := mm_X3_run) (ci := 3) (a := 36) (av := [.ref 4, .ref 34]) (st := []) (r := some (.int (fr_score (fa_ch J k (k + 1)) L 4))) (I' := (fr_end (fa_ch J k (k + 1)) L 4).1) (L' := L) (R' := zw_RC 4 14 (fr_end (fa_ch J k (k + 1)) L 4).2) rfl zc_9_159 gd_X3_run rfl rfl rfl (Nat.le_of_ble_eq_true rfl) (ct_X3_run (d := _) (Or.inl rfl) (hK _ _ (hch _ _ _ hJ)).1) ⟨Nat.le_refl _, Nat.le_refl _⟩ ?_
        refine zv_run 0 (pc' := 74) (lo' := [some (.ref 0), some (.int s), some (.int cc), some (.int k), some (.int (nI t)), x5]) (st' := [.int (fr_score (fa_ch J k (k + 1)) L 4)]) (I' := (fr_end (fa_ch J k (k + 1)) L 4).1) (L' := L) (R' := zw_RC 4 14 (fr_end (fa_ch J k (k + 1)) L 4).2) rfl ?_
        refine zv_run 3 (pc' := 79) (lo' := [some (.ref 0), some (.int s), some (.int cc), some (.int k), some (.int (nI t)), some (.int (fr_score (fa_ch J k (k + 1)) L 4))]) (st' := [.int s, .int (fr_score (fa_ch J k (k + 1)) L 4)]) (I' := (fr_end (fa_ch J k (k + 1)) L 4).1) (L' := L) (R' := zw_RC 4 14 (fr_end (fa_ch J k (k + 1)) L 4).2) rfl ?_
        refine zv_icmp_ge (tgt := 93) (zs_at rfl) (by decide) (fun c79 => ?_) (fun c79 => ?_)
        · have _c := c79
          refine zv_run 6 (pc' := 101) (lo' := [some (.ref 0), some (.int s), some (.int cc), some (.int k), some (.int (nI t)), some (.int (fr_score (fa_ch J k (k + 1)) L 4))]) (st' := [.int (k + 1), .int k, .ref 34]) (I' := (fr_end (fa_ch J k (k + 1)) L 4).1) (L' := L) (R' := zw_RC 4 14 (fr_end (fa_ch J k (k + 1)) L 4).2) rfl ?_
          refine zv_cV (M' := mm_X0_changePlaces) (ci := 0) (a := 34) (av := [.int k, .int (k + 1)]) (st := []) (r := none) (I' := (fa_ch (fr_end (fa_ch J k (k + 1)) L 4).1 k (k + 1))) (L' := L) (R' := zw_RC 4 14 (fr_end (fa_ch J k (k + 1)) L 4).2) rfl zc_9_199 gd_X0_changePlaces rfl rfl rfl (Nat.le_of_ble_eq_true rfl) (ct_X0_changePlaces (d := _)) ⟨Nat.le_refl _, Nat.le_refl _⟩ ?_
          refine zv_run 0 (pc' := 104) (lo' := [some (.ref 0), some (.int s), some (.int cc), some (.int k), some (.int (nI t)), some (.int (fr_score (fa_ch J k (k + 1)) L 4))]) (st' := []) (I' := (fa_ch (fr_end (fa_ch J k (k + 1)) L 4).1 k (k + 1))) (L' := L) (R' := zw_RC 4 14 (fr_end (fa_ch J k (k + 1)) L 4).2) rfl ?_
          refine zv_run 3 (pc' := 28) (lo' := [some (.ref 0), some (.int s), some (.int cc), some (.int (k + 1)), some (.int ((nI t) + 1)), some (.int (fr_score (fa_ch J k (k + 1)) L 4))]) (st' := []) (I' := (fa_ch (fr_end (fa_ch J k (k + 1)) L 4).1 k (k + 1))) (L' := L) (R' := zw_RC 4 14 (fr_end (fa_ch J k (k + 1)) L 4).2) rfl ?_
          have e : sw_loop 4 L (n + 1) s cc k J = sw_loop 4 L n s cc (k + 1) (fa_ch (fr_end (fa_ch J k (k + 1)) L 4).1 k (k + 1)) := by rw [sw_loop, if_neg c45, if_pos c79]
          rw [e, ← nI_succ]
          exact ih (t + 1) _ _ _ _ _ _ (by omega) (by first | exact (hK _ _ (hch _ _ _ hJ)).2 | exact hch _ _ _ (hK _ _ (hch _ _ _ hJ)).2)
        · have _c := c79
          refine zv_run 6 (pc' := 107) (lo' := [some (.ref 0), some (.int (fr_score (fa_ch J k (k + 1)) L 4)), some (.int (cc + 1)), some (.int 0), some (.int (nI t)), some (.int (fr_score (fa_ch J k (k + 1)) L 4))]) (st' := []) (I' := (fr_end (fa_ch J k (k + 1)) L 4).1) (L' := L) (R' := zw_RC 4 14 (fr_end (fa_ch J k (k + 1)) L 4).2) rfl ?_
          refine zv_run 2 (pc' := 28) (lo' := [some (.ref 0), some (.int (fr_score (fa_ch J k (k + 1)) L 4)), some (.int (cc + 1)), some (.int 0), some (.int ((nI t) + 1)), some (.int (fr_score (fa_ch J k (k + 1)) L 4))]) (st' := []) (I' := (fr_end (fa_ch J k (k + 1)) L 4).1) (L' := L) (R' := zw_RC 4 14 (fr_end (fa_ch J k (k + 1)) L 4).2) rfl ?_
          have e : sw_loop 4 L (n + 1) s cc k J = sw_loop 4 L n (fr_score (fa_ch J k (k + 1)) L 4) (cc + 1) 0 (fr_end (fa_ch J k (k + 1)) L 4).1 := by rw [sw_loop, if_neg c45, if_neg c79]
          rw [e, ← nI_succ]
          exact ih (t + 1) _ _ _ _ _ _ (by omega) (by first | exact (hK _ _ (hch _ _ _ hJ)).2 | exact hch _ _ _ (hK _ _ (hch _ _ _ hJ)).2)
theorem lp_X9_swap_14 {d : Nat} {K : zx_I → Prop} {L : zx_L} (hK : kr K 14) (hch : ∀ J a b, K J → K (fa_ch J a b)) : ∀ (n t : Nat) (s cc k : Int32) (J : zx_I) (la : Option Nat) (x5 : Option Value), t + n = 1000000 → K J → zx_V mm_X9_swapped (d + 5) z0 (zw_any (some (.int (sw_loop 14 L n s cc k J).1)) (zcp (sw_loop 14 L n s cc k J).2 35 25 6) L 14 4) zw_SC 28 [some (.ref 0), some (.int s), some (.int cc), some (.int k), some (.int (nI t)), x5] [] J L (zw_RC 14 4 la) := by
  intro n
  induction n with
  | zero =>
    intro t s cc k J la x5 ht hJ
    refine zv_run 2 (pc' := 32) (lo' := [some (.ref 0), some (.int s), some (.int cc), some (.int k), some (.int (nI t)), x5]) (st' := [.int 1000000, .int (nI t)]) (I' := J) (L' := L) (R' := zw_RC 14 4 la) rfl ?_
    refine zv_icmp_ge (tgt := 113) (zs_at rfl) (by decide) (fun c32 => ?_) (fun c32 => ?_)
    · have _c := c32
      refine zv_run 5 (pc' := 124) (lo' := [some (.ref 0), some (.int s), some (.int cc), some (.int k), some (.int (nI t)), x5]) (st' := [.ref 25, .ref 34]) (I' := J) (L' := L) (R' := zw_RC 14 4 la) rfl ?_
      refine zv_cV (M' := mm_X0_copyRowTo) (ci := 0) (a := 34) (av := [.ref 25]) (st := []) (r := none) (I' := (zcp J 35 25 6)) (L' := L) (R' := zw_RC 14 4 la) rfl zc_9_191 gd_X0_copyRowTo rfl rfl rfl (Nat.le_of_ble_eq_true rfl) (ct_X0_copyRowTo_25 (d := _)) ⟨Nat.le_refl _, Nat.le_refl _⟩ ?_
      refine zv_run 0 (pc' := 127) (lo' := [some (.ref 0), some (.int s), some (.int cc), some (.int k), some (.int (nI t)), x5]) (st' := []) (I' := (zcp J 35 25 6)) (L' := L) (R' := zw_RC 14 4 la) rfl ?_
      refine zv_run 1 (pc' := 128) (lo' := [some (.ref 0), some (.int s), some (.int cc), some (.int k), some (.int (nI t)), x5]) (st' := [.int cc]) (I' := (zcp J 35 25 6)) (L' := L) (R' := zw_RC 14 4 la) rfl ?_
      exact zv_iret (zs_at rfl) rfl ⟨Nat.le_refl _, Nat.le_refl _⟩ (zw_toa rfl rfl rfl)
    · exact absurd (by rw [show t = 1000000 by omega]; decide) c32
  | succ n ih =>
    intro t s cc k J la x5 ht hJ
    refine zv_run 2 (pc' := 32) (lo' := [some (.ref 0), some (.int s), some (.int cc), some (.int k), some (.int (nI t)), x5]) (st' := [.int 1000000, .int (nI t)]) (I' := J) (L' := L) (R' := zw_RC 14 4 la) rfl ?_
    refine zv_icmp_ge (tgt := 113) (zs_at rfl) (by decide) (fun c32 => ?_) (fun c32 => ?_)
    · exact absurd c32 (by exact nI_ge (a := t) (b := 1000000) (by omega) (by decide))
    · have _c := c32
      refine zv_run 6 (pc' := 45) (lo' := [some (.ref 0), some (.int s), some (.int cc), some (.int k), some (.int (nI t)), x5]) (st' := [.int (J 14 13), .int (k + 1)]) (I' := J) (L' := L) (R' := zw_RC 14 4 la) rfl ?_
      refine zv_icmp_ge (tgt := 113) (zs_at rfl) (by decide) (fun c45 => ?_) (fun c45 => ?_)
      · have _c := c45
        refine zv_run 5 (pc' := 124) (lo' := [some (.ref 0), some (.int s), some (.int cc), some (.int k), some (.int (nI t)), x5]) (st' := [.ref 25, .ref 34]) (I' := J) (L' := L) (R' := zw_RC 14 4 la) rfl ?_
        refine zv_cV (M' := mm_X0_copyRowTo) (ci := 0) (a := 34) (av := [.ref 25]) (st := []) (r := none) (I' := (zcp J 35 25 6)) (L' := L) (R' := zw_RC 14 4 la) rfl zc_9_191 gd_X0_copyRowTo rfl rfl rfl (Nat.le_of_ble_eq_true rfl) (ct_X0_copyRowTo_25 (d := _)) ⟨Nat.le_refl _, Nat.le_refl _⟩ ?_
        refine zv_run 0 (pc' := 127) (lo' := [some (.ref 0), some (.int s), some (.int cc), some (.int k), some (.int (nI t)), x5]) (st' := []) (I' := (zcp J 35 25 6)) (L' := L) (R' := zw_RC 14 4 la) rfl ?_
        refine zv_run 1 (pc' := 128) (lo' := [some (.ref 0), some (.int s), some (.int cc), some (.int k), some (.int (nI t)), x5]) (st' := [.int cc]) (I' := (zcp J 35 25 6)) (L' := L) (R' := zw_RC 14 4 la) rfl ?_
        exact zv_iret (zs_at rfl) rfl ⟨Nat.le_refl _, Nat.le_refl _⟩ (by rw [show sw_loop 14 L (n + 1) s cc k J = (cc, J) from by rw [sw_loop, if_pos c45]]; exact zw_toa rfl rfl rfl)
      · have _c := c45
        refine zv_run 6 (pc' := 56) (lo' := [some (.ref 0), some (.int s), some (.int cc), some (.int k), some (.int (nI t)), x5]) (st' := [.int (k + 1), .int k, .ref 34]) (I' := J) (L' := L) (R' := zw_RC 14 4 la) rfl ?_
        refine zv_cV (M' := mm_X0_changePlaces) (ci := 0) (a := 34) (av := [.int k, .int (k + 1)]) (st := []) (r := none) (I' := (fa_ch J k (k + 1))) (L' := L) (R' := zw_RC 14 4 la) rfl zc_9_199 gd_X0_changePlaces rfl rfl rfl (Nat.le_of_ble_eq_true rfl) (ct_X0_changePlaces (d := _)) ⟨Nat.le_refl _, Nat.le_refl _⟩ ?_
        refine zv_run 0 (pc' := 59) (lo' := [some (.ref 0), some (.int s), some (.int cc), some (.int k), some (.int (nI t)), x5]) (st' := []) (I' := (fa_ch J k (k + 1))) (L' := L) (R' := zw_RC 14 4 la) rfl ?_
        refine zv_run 6 (pc' := 71) (lo' := [some (.ref 0), some (.int s), some (.int cc), some (.int k), some (.int (nI t)), x5]) (st' := [.ref 34, .ref 14, .ref 36]) (I' := (fa_ch J k (k + 1))) (L' := L) (R' := zw_RC 14 4 la) rfl ?_
        refine zv_cV (M' := mm_X3_run) (ci := 3) (a := 36) (av := [.ref 14, .ref 34]) (st := []) (r := some (.int (fr_score (fa_ch J k (k + 1)) L 14))) (I' := (fr_end (fa_ch J k (k + 1)) L 14).1) (L' := L) (R' := zw_RC 14 4 (fr_end (fa_ch J k (k + 1)) L 14).2) rfl zc_9_159 gd_X3_run rfl rfl rfl (Nat.le_of_ble_eq_true rfl) (ct_X3_run (d := _) (Or.inr rfl) (hK _ _ (hch _ _ _ hJ)).1) ⟨Nat.le_refl _, Nat.le_refl _⟩ ?_
        refine zv_run 0 (pc' := 74) (lo' := [some (.ref 0), some (.int s), some (.int cc), some (.int k), some (.int (nI t)), x5]) (st' := [.int (fr_score (fa_ch J k (k + 1)) L 14)]) (I' := (fr_end (fa_ch J k (k + 1)) L 14).1) (L' := L) (R' := zw_RC 14 4 (fr_end (fa_ch J k (k + 1)) L 14).2) rfl ?_
        refine zv_run 3 (pc' := 79) (lo' := [some (.ref 0), some (.int s), some (.int cc), some (.int k), some (.int (nI t)), some (.int (fr_score (fa_ch J k (k + 1)) L 14))]) (st' := [.int s, .int (fr_score (fa_ch J k (k + 1)) L 14)]) (I' := (fr_end (fa_ch J k (k + 1)) L 14).1) (L' := L) (R' := zw_RC 14 4 (fr_end (fa_ch J k (k + 1)) L 14).2) rfl ?_
        refine zv_icmp_ge (tgt := 93) (zs_at rfl) (by decide) (fun c79 => ?_) (fun c79 => ?_)
        · have _c := c79
          refine zv_run 6 (pc' := 101) (lo' := [some (.ref 0), some (.int s), some (.int cc), some (.int k), some (.int (nI t)), some (.int (fr_score (fa_ch J k (k + 1)) L 14))]) (st' := [.int (k + 1), .int k, .ref 34]) (I' := (fr_end (fa_ch J k (k + 1)) L 14).1) (L' := L) (R' := zw_RC 14 4 (fr_end (fa_ch J k (k + 1)) L 14).2) rfl ?_
          refine zv_cV (M' := mm_X0_changePlaces) (ci := 0) (a := 34) (av := [.int k, .int (k + 1)]) (st := []) (r := none) (I' := (fa_ch (fr_end (fa_ch J k (k + 1)) L 14).1 k (k + 1))) (L' := L) (R' := zw_RC 14 4 (fr_end (fa_ch J k (k + 1)) L 14).2) rfl zc_9_199 gd_X0_changePlaces rfl rfl rfl (Nat.le_of_ble_eq_true rfl) (ct_X0_changePlaces (d := _)) ⟨Nat.le_refl _, Nat.le_refl _⟩ ?_
          refine zv_run 0 (pc' := 104) (lo' := [some (.ref 0), some (.int s), some (.int cc), some (.int k), some (.int (nI t)), some (.int (fr_score (fa_ch J k (k + 1)) L 14))]) (st' := []) (I' := (fa_ch (fr_end (fa_ch J k (k + 1)) L 14).1 k (k + 1))) (L' := L) (R' := zw_RC 14 4 (fr_end (fa_ch J k (k + 1)) L 14).2) rfl ?_
          refine zv_run 3 (pc' := 28) (lo' := [some (.ref 0), some (.int s), some (.int cc), some (.int (k + 1)), some (.int ((nI t) + 1)), some (.int (fr_score (fa_ch J k (k + 1)) L 14))]) (st' := []) (I' := (fa_ch (fr_end (fa_ch J k (k + 1)) L 14).1 k (k + 1))) (L' := L) (R' := zw_RC 14 4 (fr_end (fa_ch J k (k + 1)) L 14).2) rfl ?_
          have e : sw_loop 14 L (n + 1) s cc k J = sw_loop 14 L n s cc (k + 1) (fa_ch (fr_end (fa_ch J k (k + 1)) L 14).1 k (k + 1)) := by rw [sw_loop, if_neg c45, if_pos c79]
          rw [e, ← nI_succ]
          exact ih (t + 1) _ _ _ _ _ _ (by omega) (by first | exact (hK _ _ (hch _ _ _ hJ)).2 | exact hch _ _ _ (hK _ _ (hch _ _ _ hJ)).2)
        · have _c := c79
          refine zv_run 6 (pc' := 107) (lo' := [some (.ref 0), some (.int (fr_score (fa_ch J k (k + 1)) L 14)), some (.int (cc + 1)), some (.int 0), some (.int (nI t)), some (.int (fr_score (fa_ch J k (k + 1)) L 14))]) (st' := []) (I' := (fr_end (fa_ch J k (k + 1)) L 14).1) (L' := L) (R' := zw_RC 14 4 (fr_end (fa_ch J k (k + 1)) L 14).2) rfl ?_
          refine zv_run 2 (pc' := 28) (lo' := [some (.ref 0), some (.int (fr_score (fa_ch J k (k + 1)) L 14)), some (.int (cc + 1)), some (.int 0), some (.int ((nI t) + 1)), some (.int (fr_score (fa_ch J k (k + 1)) L 14))]) (st' := []) (I' := (fr_end (fa_ch J k (k + 1)) L 14).1) (L' := L) (R' := zw_RC 14 4 (fr_end (fa_ch J k (k + 1)) L 14).2) rfl ?_
          have e : sw_loop 14 L (n + 1) s cc k J = sw_loop 14 L n (fr_score (fa_ch J k (k + 1)) L 14) (cc + 1) 0 (fr_end (fa_ch J k (k + 1)) L 14).1 := by rw [sw_loop, if_neg c45, if_neg c79]
          rw [e, ← nI_succ]
          exact ih (t + 1) _ _ _ _ _ _ (by omega) (by first | exact (hK _ _ (hch _ _ _ hJ)).2 | exact hch _ _ _ (hK _ _ (hch _ _ _ hJ)).2)
theorem ct_X9_swapped_4 {d : Nat} {I : zx_I} {L : zx_L} {la : Option Nat} {K : zx_I → Prop} (hK : kr K 4) (hch : ∀ J a b, K J → K (fa_ch J a b)) (h0 : K (q_ask I 4 0)) : zx_M0 mm_X9_swapped (d + 5) 0 0 [.ref 0] zw_SC I L (zw_RC 4 14 la) (zw_any (some (.int (q_sw I L 4).1)) (zcp (q_sw I L 4).2 35 25 6) (q_L L) 4 14) := by
  refine zv_entry gd_X9_swapped (Nat.le_of_ble_eq_true rfl) ?_
  refine zv_run 2 (pc' := 2) (lo' := [some (.ref 0), none, none, none, none, none]) (st' := [.int 0, .ref 0]) (I' := I) (L' := L) (R' := zw_RC 4 14 la) rfl ?_
  refine zv_cV (M' := mm_X9_ask) (ci := 9) (a := 0) (av := [.int 0]) (st := []) (r := none) (I' := (q_ask I 4 0)) (L' := (q_L L)) (R' := zw_RC 4 14 la) rfl zc_9_156 gd_X9_ask rfl rfl rfl (Nat.le_of_ble_eq_true rfl) (ct_X9_ask_4 (d := _)) ⟨Nat.le_refl _, Nat.le_refl _⟩ ?_
  refine zv_run 0 (pc' := 5) (lo' := [some (.ref 0), none, none, none, none, none]) (st' := []) (I' := (q_ask I 4 0)) (L' := (q_L L)) (R' := zw_RC 4 14 la) rfl ?_
  refine zv_run 6 (pc' := 17) (lo' := [some (.ref 0), none, none, none, none, none]) (st' := [.ref 34, .ref 4, .ref 36]) (I' := (q_ask I 4 0)) (L' := (q_L L)) (R' := zw_RC 4 14 la) rfl ?_
  refine zv_cV (M' := mm_X3_run) (ci := 3) (a := 36) (av := [.ref 4, .ref 34]) (st := []) (r := some (.int (fr_score (q_ask I 4 0) (q_L L) 4))) (I' := (fr_end (q_ask I 4 0) (q_L L) 4).1) (L' := (q_L L)) (R' := zw_RC 4 14 (fr_end (q_ask I 4 0) (q_L L) 4).2) rfl zc_9_159 gd_X3_run rfl rfl rfl (Nat.le_of_ble_eq_true rfl) (ct_X3_run (d := _) (Or.inl rfl) (hK _ _ h0).1) ⟨Nat.le_refl _, Nat.le_refl _⟩ ?_
  refine zv_run 0 (pc' := 20) (lo' := [some (.ref 0), none, none, none, none, none]) (st' := [.int (fr_score (q_ask I 4 0) (q_L L) 4)]) (I' := (fr_end (q_ask I 4 0) (q_L L) 4).1) (L' := (q_L L)) (R' := zw_RC 4 14 (fr_end (q_ask I 4 0) (q_L L) 4).2) rfl ?_
  refine zv_run 7 (pc' := 28) (lo' := [some (.ref 0), some (.int (fr_score (q_ask I 4 0) (q_L L) 4)), some (.int 0), some (.int 0), some (.int 0), none]) (st' := []) (I' := (fr_end (q_ask I 4 0) (q_L L) 4).1) (L' := (q_L L)) (R' := zw_RC 4 14 (fr_end (q_ask I 4 0) (q_L L) 4).2) rfl ?_
  exact lp_X9_swap_4 hK hch 1000000 0 _ _ _ _ _ none rfl (hK _ _ h0).2
theorem ct_X9_swapped_14 {d : Nat} {I : zx_I} {L : zx_L} {la : Option Nat} {K : zx_I → Prop} (hK : kr K 14) (hch : ∀ J a b, K J → K (fa_ch J a b)) (h0 : K (q_ask I 14 0)) : zx_M0 mm_X9_swapped (d + 5) 0 0 [.ref 0] zw_SC I L (zw_RC 14 4 la) (zw_any (some (.int (q_sw I L 14).1)) (zcp (q_sw I L 14).2 35 25 6) (q_L L) 14 4) := by
  refine zv_entry gd_X9_swapped (Nat.le_of_ble_eq_true rfl) ?_
  refine zv_run 2 (pc' := 2) (lo' := [some (.ref 0), none, none, none, none, none]) (st' := [.int 0, .ref 0]) (I' := I) (L' := L) (R' := zw_RC 14 4 la) rfl ?_
  refine zv_cV (M' := mm_X9_ask) (ci := 9) (a := 0) (av := [.int 0]) (st := []) (r := none) (I' := (q_ask I 14 0)) (L' := (q_L L)) (R' := zw_RC 14 4 la) rfl zc_9_156 gd_X9_ask rfl rfl rfl (Nat.le_of_ble_eq_true rfl) (ct_X9_ask_14 (d := _)) ⟨Nat.le_refl _, Nat.le_refl _⟩ ?_
  refine zv_run 0 (pc' := 5) (lo' := [some (.ref 0), none, none, none, none, none]) (st' := []) (I' := (q_ask I 14 0)) (L' := (q_L L)) (R' := zw_RC 14 4 la) rfl ?_
  refine zv_run 6 (pc' := 17) (lo' := [some (.ref 0), none, none, none, none, none]) (st' := [.ref 34, .ref 14, .ref 36]) (I' := (q_ask I 14 0)) (L' := (q_L L)) (R' := zw_RC 14 4 la) rfl ?_
  refine zv_cV (M' := mm_X3_run) (ci := 3) (a := 36) (av := [.ref 14, .ref 34]) (st := []) (r := some (.int (fr_score (q_ask I 14 0) (q_L L) 14))) (I' := (fr_end (q_ask I 14 0) (q_L L) 14).1) (L' := (q_L L)) (R' := zw_RC 14 4 (fr_end (q_ask I 14 0) (q_L L) 14).2) rfl zc_9_159 gd_X3_run rfl rfl rfl (Nat.le_of_ble_eq_true rfl) (ct_X3_run (d := _) (Or.inr rfl) (hK _ _ h0).1) ⟨Nat.le_refl _, Nat.le_refl _⟩ ?_
  refine zv_run 0 (pc' := 20) (lo' := [some (.ref 0), none, none, none, none, none]) (st' := [.int (fr_score (q_ask I 14 0) (q_L L) 14)]) (I' := (fr_end (q_ask I 14 0) (q_L L) 14).1) (L' := (q_L L)) (R' := zw_RC 14 4 (fr_end (q_ask I 14 0) (q_L L) 14).2) rfl ?_
  refine zv_run 7 (pc' := 28) (lo' := [some (.ref 0), some (.int (fr_score (q_ask I 14 0) (q_L L) 14)), some (.int 0), some (.int 0), some (.int 0), none]) (st' := []) (I' := (fr_end (q_ask I 14 0) (q_L L) 14).1) (L' := (q_L L)) (R' := zw_RC 14 4 (fr_end (q_ask I 14 0) (q_L L) 14).2) rfl ?_
  exact lp_X9_swap_14 hK hch 1000000 0 _ _ _ _ _ none rfl (hK _ _ h0).2
theorem ct_X9_swapped {d : Nat} {I : zx_I} {L : zx_L} {h sp : Nat} {la : Option Nat} {K : zx_I → Prop} (hh : hsp h sp) (hK : kr K h) (hch : ∀ J a b, K J → K (fa_ch J a b)) (h0 : K (q_ask I h 0)) : zx_M0 mm_X9_swapped (d + 5) 0 0 [.ref 0] zw_SC I L (zw_RC h sp la) (zw_any (some (.int (q_sw I L h).1)) (zcp (q_sw I L h).2 35 25 6) (q_L L) h sp) := by
  rcases hh with ⟨rfl, rfl⟩ | ⟨rfl, rfl⟩
  · exact ct_X9_swapped_4 hK hch h0
  · exact ct_X9_swapped_14 hK hch h0
