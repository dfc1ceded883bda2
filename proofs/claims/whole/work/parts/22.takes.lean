/-! houses cleared and copied; items taken -/
def zmap2 (J : zx_I) (a b : Nat) (u v : Int32) (j n : Nat) : zx_I := zmap (zmap J a (fun _ _ => u) j n) b (fun _ _ => v) j n
theorem zmap_ne {J : zx_I} {a b : Nat} {g : Nat → Int32 → Int32} {j n : Nat} (h : b ≠ a) : zmap J a g j n b = J b := by
  unfold zmap zr
  rw [if_neg h]
theorem zmap2_0 {J : zx_I} {a b j : Nat} {u v : Int32} : zmap2 J a b u v j 0 = J := by
  unfold zmap2
  rw [zmap_0, zmap_0]
theorem zmap_uI {J : zx_I} {a b k j n : Nat} {g : Nat → Int32 → Int32} {x : Int32} (h : b ≠ a) : zmap (zx_uI J b k x) a g j n = zx_uI (zmap J a g j n) b k x := by
  funext c y
  by_cases hc : c = a
  · subst hc
    have h' : c ≠ b := fun q => h q.symm
    simp [zmap, zr, zx_uI, h']
  · by_cases hb : c = b
    · subst hb
      simp [zmap, zr, zx_uI, hc]
    · simp [zmap, zr, zx_uI, hc, hb]
theorem zmap2_s {J : zx_I} {a b j n : Nat} {u v : Int32} (h : b ≠ a) : zmap2 (zx_uI (zx_uI J a j u) b j v) a b u v (j + 1) n = zmap2 J a b u v j (n + 1) := by
  unfold zmap2
  rw [zmap_uI h, zmap_s (J := J) (a := a) (g := fun _ _ => u) rfl]
  exact zmap_s rfl
def fh_clear (I : zx_I) (a : Nat) : zx_I := zx_uI (zx_uI (zx_uI (zx_uI (zx_uI (zx_uI (zmap2 (zx_uI (zx_uI (zx_uI (zx_uI (zx_uI (zx_uI I a 0 0) a 1 1) a 2 10) a 3 10) a 4 10) a 5 0) (a + 1) (a + 2) 0 1 0 4) a 8 0) a 9 0) a 10 1) a 11 1) a 12 40) a 13 0
def fh_cl2 (J : zx_I) (a : Nat) : zx_I := zx_uI (zx_uI (zx_uI (zx_uI (zx_uI (zx_uI J a 8 0) a 9 0) a 10 1) a 11 1) a 12 40) a 13 0
def lk_loop (a b : Nat) : Nat → Nat → zx_I → zx_I
  | 0, _, J => J
  | n + 1, j, J => lk_loop a b n (j + 1) (fb_like J (a + j) (b + j))
def fh_like (I : zx_I) (a b : Nat) : zx_I := lk_loop (a + 4) (b + 4) 6 0 (zx_uI (zx_uI (zx_uI (zx_uI (zx_uI (zx_uI (zcp (zcp (zx_uI (zx_uI (zx_uI (zx_uI (zx_uI I a 1 (I b 1)) a 2 (I b 2)) a 3 (I b 3)) a 4 (I b 4)) a 5 (I b 5)) (b + 1) (a + 1) 4) (b + 2) (a + 2) 4) a 8 (I b 8)) a 9 (I b 9)) a 10 (I b 10)) a 11 (I b 11)) a 12 (I b 12)) a 13 (I b 13))
theorem lp_X5_clear_4 {d : Nat} {L : zx_L} {h sp : Nat} {la : Option Nat} : ∀ (n j : Nat) (J : zx_I), j + n = 4 → zx_V mm_X5_clear d z0 (zw_ret none zw_SC (fh_cl2 (zmap2 J 5 6 0 1 j n) 4) L (zw_RC h sp la)) zw_SC 35 [some (.ref 4), some (.int (nI j))] [] J L (zw_RC h sp la) := by
  intro n
  induction n with
  | zero =>
    intro j J hm
    rw [zmap2_0]
    refine zv_run 2 (pc' := 37) (lo' := [some (.ref 4), some (.int (nI j))]) (st' := [.int 3, .int (nI j)]) (I' := J) (L' := L) (R' := zw_RC h sp la) rfl ?_
    refine zv_icmp_gt (tgt := 60) (zs_at rfl) (by decide) (fun c37 => ?_) (fun c37 => ?_)
    · have _c := c37
      refine zv_run 18 (pc' := 91) (lo' := [some (.ref 4), some (.int (nI j))]) (st' := []) (I' := (zx_uI (zx_uI (zx_uI (zx_uI (zx_uI (zx_uI J 4 8 0) 4 9 0) 4 10 1) 4 11 1) 4 12 40) 4 13 0)) (L' := L) (R' := zw_RC h sp la) rfl ?_
      exact zv_vret (zs_at rfl) rfl ⟨Nat.le_refl _, Nat.le_refl _⟩ (zw_to rfl rfl rfl rfl)
    · exact absurd (by rw [show j = 4 by omega]; decide) c37
  | succ n ih =>
    intro j J hm
    refine zv_run 2 (pc' := 37) (lo' := [some (.ref 4), some (.int (nI j))]) (st' := [.int 3, .int (nI j)]) (I' := J) (L' := L) (R' := zw_RC h sp la) rfl ?_
    refine zv_icmp_gt (tgt := 60) (zs_at rfl) (by decide) (fun c37 => ?_) (fun c37 => ?_)
    · exact absurd c37 (by exact nI_nlt (a := 3) (b := j) (by omega) (by decide))
    · have _c := c37
      refine zv_run 4 (pc' := 46) (lo' := [some (.ref 4), some (.int (nI j))]) (st' := [.int 0, .int (nI j), .ref 5]) (I' := J) (L' := L) (R' := zw_RC h sp la) rfl ?_
      refine zv_iast (zs_at rfl) rfl (vp_in_nI (by omega) (by decide)) ?_
      refine zv_run 4 (pc' := 53) (lo' := [some (.ref 4), some (.int (nI j))]) (st' := [.int 1, .int (nI j), .ref 6]) (I' := (zx_uI J 5 ((nI j).toNatClampNeg) 0)) (L' := L) (R' := zw_RC h sp la) rfl ?_
      refine zv_iast (zs_at rfl) rfl (vp_in_nI (by omega) (by decide)) ?_
      refine zv_run 2 (pc' := 35) (lo' := [some (.ref 4), some (.int ((nI j) + 1))]) (st' := []) (I' := (zx_uI (zx_uI J 5 ((nI j).toNatClampNeg) 0) 6 ((nI j).toNatClampNeg) 1)) (L' := L) (R' := zw_RC h sp la) rfl ?_
      rw [nI_clamp (by omega), ← nI_succ, ← zmap2_s (by decide)]
      exact ih (j + 1) _ (by omega)
theorem lp_X5_clear_14 {d : Nat} {L : zx_L} {h sp : Nat} {la : Option Nat} : ∀ (n j : Nat) (J : zx_I), j + n = 4 → zx_V mm_X5_clear d z0 (zw_ret none zw_SC (fh_cl2 (zmap2 J 15 16 0 1 j n) 14) L (zw_RC h sp la)) zw_SC 35 [some (.ref 14), some (.int (nI j))] [] J L (zw_RC h sp la) := by
  intro n
  induction n with
  | zero =>
    intro j J hm
    rw [zmap2_0]
    refine zv_run 2 (pc' := 37) (lo' := [some (.ref 14), some (.int (nI j))]) (st' := [.int 3, .int (nI j)]) (I' := J) (L' := L) (R' := zw_RC h sp la) rfl ?_
    refine zv_icmp_gt (tgt := 60) (zs_at rfl) (by decide) (fun c37 => ?_) (fun c37 => ?_)
    · have _c := c37
      refine zv_run 18 (pc' := 91) (lo' := [some (.ref 14), some (.int (nI j))]) (st' := []) (I' := (zx_uI (zx_uI (zx_uI (zx_uI (zx_uI (zx_uI J 14 8 0) 14 9 0) 14 10 1) 14 11 1) 14 12 40) 14 13 0)) (L' := L) (R' := zw_RC h sp la) rfl ?_
      exact zv_vret (zs_at rfl) rfl ⟨Nat.le_refl _, Nat.le_refl _⟩ (zw_to rfl rfl rfl rfl)
    · exact absurd (by rw [show j = 4 by omega]; decide) c37
  | succ n ih =>
    intro j J hm
    refine zv_run 2 (pc' := 37) (lo' := [some (.ref 14), some (.int (nI j))]) (st' := [.int 3, .int (nI j)]) (I' := J) (L' := L) (R' := zw_RC h sp la) rfl ?_
    refine zv_icmp_gt (tgt := 60) (zs_at rfl) (by decide) (fun c37 => ?_) (fun c37 => ?_)
    · exact absurd c37 (by exact nI_nlt (a := 3) (b := j) (by omega) (by decide))
    · have _c := c37
      refine zv_run 4 (pc' := 46) (lo' := [some (.ref 14), some (.int (nI j))]) (st' := [.int 0, .int (nI j), .ref 15]) (I' := J) (L' := L) (R' := zw_RC h sp la) rfl ?_
      refine zv_iast (zs_at rfl) rfl (vp_in_nI (by omega) (by decide)) ?_
      refine zv_run 4 (pc' := 53) (lo' := [some (.ref 14), some (.int (nI j))]) (st' := [.int 1, .int (nI j), .ref 16]) (I' := (zx_uI J 15 ((nI j).toNatClampNeg) 0)) (L' := L) (R' := zw_RC h sp la) rfl ?_
      refine zv_iast (zs_at rfl) rfl (vp_in_nI (by omega) (by decide)) ?_
      refine zv_run 2 (pc' := 35) (lo' := [some (.ref 14), some (.int ((nI j) + 1))]) (st' := []) (I' := (zx_uI (zx_uI J 15 ((nI j).toNatClampNeg) 0) 16 ((nI j).toNatClampNeg) 1)) (L' := L) (R' := zw_RC h sp la) rfl ?_
      rw [nI_clamp (by omega), ← nI_succ, ← zmap2_s (by decide)]
      exact ih (j + 1) _ (by omega)
theorem ct_X5_clear {d : Nat} {I : zx_I} {L : zx_L} {h sp : Nat} {la : Option Nat} {a : Nat}  (ha : a = 4 ∨ a = 14)  : zx_M0 mm_X5_clear (d + 0) 0 0 [.ref a] zw_SC I L (zw_RC h sp la) (zw_ret (none) zw_SC (fh_clear I a) L (zw_RC h sp la)) := by
  rcases ha with rfl | rfl
  · refine zv_entry gd_X5_clear (Nat.le_of_ble_eq_true rfl) ?_
    refine zv_run 20 (pc' := 35) (lo' := [some (.ref 4), some (.int 0)]) (st' := []) (I' := (zx_uI (zx_uI (zx_uI (zx_uI (zx_uI (zx_uI I 4 0 0) 4 1 1) 4 2 10) 4 3 10) 4 4 10) 4 5 0)) (L' := L) (R' := zw_RC h sp la) rfl ?_
    exact lp_X5_clear_4 4 0 _ (by omega)
  · refine zv_entry gd_X5_clear (Nat.le_of_ble_eq_true rfl) ?_
    refine zv_run 20 (pc' := 35) (lo' := [some (.ref 14), some (.int 0)]) (st' := []) (I' := (zx_uI (zx_uI (zx_uI (zx_uI (zx_uI (zx_uI I 14 0 0) 14 1 1) 14 2 10) 14 3 10) 14 4 10) 14 5 0)) (L' := L) (R' := zw_RC h sp la) rfl ?_
    exact lp_X5_clear_14 4 0 _ (by omega)
theorem lp_X5_like_4 {d : Nat} {L : zx_L} {h sp : Nat} {la : Option Nat} : ∀ (n j : Nat) (J : zx_I), j + n = 6 → zx_V mm_X5_becomeLike (d + 1) z0 (zw_ret none zw_SC (lk_loop 8 18 n j J) L (zw_RC h sp la)) zw_SC 126 [some (.ref 4), some (.ref 14), some (.int (nI j))] [] J L (zw_RC h sp la) := by
  intro n
  induction n with
  | zero =>
    intro j J hm
    refine zv_run 4 (pc' := 132) (lo' := [some (.ref 4), some (.ref 14), some (.int (nI j))]) (st' := [.int 6, .int (nI j)]) (I' := J) (L' := L) (R' := zw_RC h sp la) rfl ?_
    refine zv_icmp_ge (tgt := 156) (zs_at rfl) (by decide) (fun c132 => ?_) (fun c132 => ?_)
    · have _c := c132
      exact zv_vret (zs_at rfl) rfl ⟨Nat.le_refl _, Nat.le_refl _⟩ (zw_to rfl rfl rfl rfl)
    · exact absurd (by rw [show j = 6 by omega]; exact (by decide)) c132
  | succ n ih =>
    intro j J hm
    refine zv_run 4 (pc' := 132) (lo' := [some (.ref 4), some (.ref 14), some (.int (nI j))]) (st' := [.int 6, .int (nI j)]) (I' := J) (L' := L) (R' := zw_RC h sp la) rfl ?_
    refine zv_icmp_ge (tgt := 156) (zs_at rfl) (by decide) (fun c132 => ?_) (fun c132 => ?_)
    · exact absurd c132 (by exact nI_ge (a := j) (b := 6) (by omega) (by decide))
    · have _c := c132
      refine zv_run 3 (pc' := 140) (lo' := [some (.ref 4), some (.ref 14), some (.int (nI j))]) (st' := [.int (nI j), .ref 7]) (I' := J) (L' := L) (R' := zw_RC h sp la) rfl ?_
      refine zv_aald (zs_at rfl) rfl (Or.inl rfl) (vp_in_nI (by omega) (by decide)) ?_
      refine zv_run 0 (pc' := 141) (lo' := [some (.ref 4), some (.ref 14), some (.int (nI j))]) (st' := [.ref (8 + j)]) (I' := J) (L' := L) (R' := zw_RC h sp la) (by rw [nI_clamp (by omega), rc_7 (by omega)]; rfl) ?_
      refine zv_run 3 (pc' := 146) (lo' := [some (.ref 4), some (.ref 14), some (.int (nI j))]) (st' := [.int (nI j), .ref 17, .ref (8 + j)]) (I' := J) (L' := L) (R' := zw_RC h sp la) rfl ?_
      refine zv_aald (zs_at rfl) rfl (Or.inl rfl) (vp_in_nI (by omega) (by decide)) ?_
      refine zv_run 0 (pc' := 147) (lo' := [some (.ref 4), some (.ref 14), some (.int (nI j))]) (st' := [.ref (18 + j), .ref (8 + j)]) (I' := J) (L' := L) (R' := zw_RC h sp la) (by rw [nI_clamp (by omega), rc_17 (by omega)]; rfl) ?_
      refine zv_cV (M' := mm_X2_becomeLike) (ci := 2) (a := (8 + j)) (av := [.ref (18 + j)]) (st := []) (r := none) (I' := (fb_like J (8 + j) (18 + j))) (L' := L) (R' := zw_RC h sp la) rfl zc_5_74 gd_X2_becomeLike (bt_S (by unfold bt; omega)) rfl rfl (Nat.le_of_ble_eq_true rfl) (ct_X2_becomeLike (d := _) (by unfold bt; omega) (by unfold bt; omega) (by omega)) ⟨Nat.le_refl _, Nat.le_refl _⟩ ?_
      refine zv_run 0 (pc' := 150) (lo' := [some (.ref 4), some (.ref 14), some (.int (nI j))]) (st' := []) (I' := (fb_like J (8 + j) (18 + j))) (L' := L) (R' := zw_RC h sp la) rfl ?_
      refine zv_run 2 (pc' := 126) (lo' := [some (.ref 4), some (.ref 14), some (.int ((nI j) + 1))]) (st' := []) (I' := (fb_like J (8 + j) (18 + j))) (L' := L) (R' := zw_RC h sp la) rfl ?_
      rw [← nI_succ]
      exact ih (j + 1) _ (by omega)
theorem ct_X5_becomeLike_4 {d : Nat} {I : zx_I} {L : zx_L} {h sp : Nat} {la : Option Nat} : zx_M0 mm_X5_becomeLike (d + 1) 0 0 [.ref 4, .ref 14] zw_SC I L (zw_RC h sp la) (zw_ret none zw_SC (fh_like I 4 14) L (zw_RC h sp la)) := by
  refine zv_entry gd_X5_becomeLike (Nat.le_of_ble_eq_true rfl) ?_
  refine zv_run 29 (pc' := 55) (lo' := [some (.ref 4), some (.ref 14), none]) (st' := [.int 4, .int 0, .ref 5, .int 0, .ref 15]) (I' := (zx_uI (zx_uI (zx_uI (zx_uI (zx_uI I 4 1 (I 14 1)) 4 2 (I 14 2)) 4 3 (I 14 3)) 4 4 (I 14 4)) 4 5 (I 14 5))) (L' := L) (R' := zw_RC h sp la) rfl ?_
  refine zv_copy (a0 := 15) (a := 5) rfl zm_5_68 rfl rfl (by decide) (by decide) (by decide) (Nat.le_of_ble_eq_true rfl) ?_
  refine zv_run 0 (pc' := 58) (lo' := [some (.ref 4), some (.ref 14), none]) (st' := []) (I' := (zcp (zx_uI (zx_uI (zx_uI (zx_uI (zx_uI I 4 1 (I 14 1)) 4 2 (I 14 2)) 4 3 (I 14 3)) 4 4 (I 14 4)) 4 5 (I 14 5)) 15 5 4)) (L' := L) (R' := zw_RC h sp la) rfl ?_
  refine zv_run 9 (pc' := 73) (lo' := [some (.ref 4), some (.ref 14), none]) (st' := [.int 4, .int 0, .ref 6, .int 0, .ref 16]) (I' := (zcp (zx_uI (zx_uI (zx_uI (zx_uI (zx_uI I 4 1 (I 14 1)) 4 2 (I 14 2)) 4 3 (I 14 3)) 4 4 (I 14 4)) 4 5 (I 14 5)) 15 5 4)) (L' := L) (R' := zw_RC h sp la) rfl ?_
  refine zv_copy (a0 := 16) (a := 6) rfl zm_5_68 rfl rfl (by decide) (by decide) (by decide) (Nat.le_of_ble_eq_true rfl) ?_
  refine zv_run 0 (pc' := 76) (lo' := [some (.ref 4), some (.ref 14), none]) (st' := []) (I' := (zcp (zcp (zx_uI (zx_uI (zx_uI (zx_uI (zx_uI I 4 1 (I 14 1)) 4 2 (I 14 2)) 4 3 (I 14 3)) 4 4 (I 14 4)) 4 5 (I 14 5)) 15 5 4) 16 6 4)) (L' := L) (R' := zw_RC h sp la) rfl ?_
  refine zv_run 26 (pc' := 126) (lo' := [some (.ref 4), some (.ref 14), some (.int 0)]) (st' := []) (I' := (zx_uI (zx_uI (zx_uI (zx_uI (zx_uI (zx_uI (zcp (zcp (zx_uI (zx_uI (zx_uI (zx_uI (zx_uI I 4 1 (I 14 1)) 4 2 (I 14 2)) 4 3 (I 14 3)) 4 4 (I 14 4)) 4 5 (I 14 5)) 15 5 4) 16 6 4) 4 8 (I 14 8)) 4 9 (I 14 9)) 4 10 (I 14 10)) 4 11 (I 14 11)) 4 12 (I 14 12)) 4 13 (I 14 13))) (L' := L) (R' := zw_RC h sp la) rfl ?_
  exact lp_X5_like_4 6 0 _ (by omega)
theorem lp_X5_like_14 {d : Nat} {L : zx_L} {h sp : Nat} {la : Option Nat} : ∀ (n j : Nat) (J : zx_I), j + n = 6 → zx_V mm_X5_becomeLike (d + 1) z0 (zw_ret none zw_SC (lk_loop 18 8 n j J) L (zw_RC h sp la)) zw_SC 126 [some (.ref 14), some (.ref 4), some (.int (nI j))] [] J L (zw_RC h sp la) := by
  intro n
  induction n with
  | zero =>
    intro j J hm
    refine zv_run 4 (pc' := 132) (lo' := [some (.ref 14), some (.ref 4), some (.int (nI j))]) (st' := [.int 6, .int (nI j)]) (I' := J) (L' := L) (R' := zw_RC h sp la) rfl ?_
    refine zv_icmp_ge (tgt := 156) (zs_at rfl) (by decide) (fun c132 => ?_) (fun c132 => ?_)
    · have _c := c132
      exact zv_vret (zs_at rfl) rfl ⟨Nat.le_refl _, Nat.le_refl _⟩ (zw_to rfl rfl rfl rfl)
    · exact absurd (by rw [show j = 6 by omega]; exact (by decide)) c132
  | succ n ih =>
    intro j J hm
    refine zv_run 4 (pc' := 132) (lo' := [some (.ref 14), some (.ref 4), some (.int (nI j))]) (st' := [.int 6, .int (nI j)]) (I' := J) (L' := L) (R' := zw_RC h sp la) rfl ?_
    refine zv_icmp_ge (tgt := 156) (zs_at rfl) (by decide) (fun c132 => ?_) (fun c132 => ?_)
    · exact absurd c132 (by exact nI_ge (a := j) (b := 6) (by omega) (by decide))
    · have _c := c132
      refine zv_run 3 (pc' := 140) (lo' := [some (.ref 14), some (.ref 4), some (.int (nI j))]) (st' := [.int (nI j), .ref 17]) (I' := J) (L' := L) (R' := zw_RC h sp la) rfl ?_
      refine zv_aald (zs_at rfl) rfl (Or.inl rfl) (vp_in_nI (by omega) (by decide)) ?_
      refine zv_run 0 (pc' := 141) (lo' := [some (.ref 14), some (.ref 4), some (.int (nI j))]) (st' := [.ref (18 + j)]) (I' := J) (L' := L) (R' := zw_RC h sp la) (by rw [nI_clamp (by omega), rc_17 (by omega)]; rfl) ?_
      refine zv_run 3 (pc' := 146) (lo' := [some (.ref 14), some (.ref 4), some (.int (nI j))]) (st' := [.int (nI j), .ref 7, .ref (18 + j)]) (I' := J) (L' := L) (R' := zw_RC h sp la) rfl ?_
      refine zv_aald (zs_at rfl) rfl (Or.inl rfl) (vp_in_nI (by omega) (by decide)) ?_
      refine zv_run 0 (pc' := 147) (lo' := [some (.ref 14), some (.ref 4), some (.int (nI j))]) (st' := [.ref (8 + j), .ref (18 + j)]) (I' := J) (L' := L) (R' := zw_RC h sp la) (by rw [nI_clamp (by omega), rc_7 (by omega)]; rfl) ?_
      refine zv_cV (M' := mm_X2_becomeLike) (ci := 2) (a := (18 + j)) (av := [.ref (8 + j)]) (st := []) (r := none) (I' := (fb_like J (18 + j) (8 + j))) (L' := L) (R' := zw_RC h sp la) rfl zc_5_74 gd_X2_becomeLike (bt_S (by unfold bt; omega)) rfl rfl (Nat.le_of_ble_eq_true rfl) (ct_X2_becomeLike (d := _) (by unfold bt; omega) (by unfold bt; omega) (by omega)) ⟨Nat.le_refl _, Nat.le_refl _⟩ ?_
      refine zv_run 0 (pc' := 150) (lo' := [some (.ref 14), some (.ref 4), some (.int (nI j))]) (st' := []) (I' := (fb_like J (18 + j) (8 + j))) (L' := L) (R' := zw_RC h sp la) rfl ?_
      refine zv_run 2 (pc' := 126) (lo' := [some (.ref 14), some (.ref 4), some (.int ((nI j) + 1))]) (st' := []) (I' := (fb_like J (18 + j) (8 + j))) (L' := L) (R' := zw_RC h sp la) rfl ?_
      rw [← nI_succ]
      exact ih (j + 1) _ (by omega)
theorem ct_X5_becomeLike_14 {d : Nat} {I : zx_I} {L : zx_L} {h sp : Nat} {la : Option Nat} : zx_M0 mm_X5_becomeLike (d + 1) 0 0 [.ref 14, .ref 4] zw_SC I L (zw_RC h sp la) (zw_ret none zw_SC (fh_like I 14 4) L (zw_RC h sp la)) := by
  refine zv_entry gd_X5_becomeLike (Nat.le_of_ble_eq_true rfl) ?_
  refine zv_run 29 (pc' := 55) (lo' := [some (.ref 14), some (.ref 4), none]) (st' := [.int 4, .int 0, .ref 15, .int 0, .ref 5]) (I' := (zx_uI (zx_uI (zx_uI (zx_uI (zx_uI I 14 1 (I 4 1)) 14 2 (I 4 2)) 14 3 (I 4 3)) 14 4 (I 4 4)) 14 5 (I 4 5))) (L' := L) (R' := zw_RC h sp la) rfl ?_
  refine zv_copy (a0 := 5) (a := 15) rfl zm_5_68 rfl rfl (by decide) (by decide) (by decide) (Nat.le_of_ble_eq_true rfl) ?_
  refine zv_run 0 (pc' := 58) (lo' := [some (.ref 14), some (.ref 4), none]) (st' := []) (I' := (zcp (zx_uI (zx_uI (zx_uI (zx_uI (zx_uI I 14 1 (I 4 1)) 14 2 (I 4 2)) 14 3 (I 4 3)) 14 4 (I 4 4)) 14 5 (I 4 5)) 5 15 4)) (L' := L) (R' := zw_RC h sp la) rfl ?_
  refine zv_run 9 (pc' := 73) (lo' := [some (.ref 14), some (.ref 4), none]) (st' := [.int 4, .int 0, .ref 16, .int 0, .ref 6]) (I' := (zcp (zx_uI (zx_uI (zx_uI (zx_uI (zx_uI I 14 1 (I 4 1)) 14 2 (I 4 2)) 14 3 (I 4 3)) 14 4 (I 4 4)) 14 5 (I 4 5)) 5 15 4)) (L' := L) (R' := zw_RC h sp la) rfl ?_
  refine zv_copy (a0 := 6) (a := 16) rfl zm_5_68 rfl rfl (by decide) (by decide) (by decide) (Nat.le_of_ble_eq_true rfl) ?_
  refine zv_run 0 (pc' := 76) (lo' := [some (.ref 14), some (.ref 4), none]) (st' := []) (I' := (zcp (zcp (zx_uI (zx_uI (zx_uI (zx_uI (zx_uI I 14 1 (I 4 1)) 14 2 (I 4 2)) 14 3 (I 4 3)) 14 4 (I 4 4)) 14 5 (I 4 5)) 5 15 4) 6 16 4)) (L' := L) (R' := zw_RC h sp la) rfl ?_
  refine zv_run 26 (pc' := 126) (lo' := [some (.ref 14), some (.ref 4), some (.int 0)]) (st' := []) (I' := (zx_uI (zx_uI (zx_uI (zx_uI (zx_uI (zx_uI (zcp (zcp (zx_uI (zx_uI (zx_uI (zx_uI (zx_uI I 14 1 (I 4 1)) 14 2 (I 4 2)) 14 3 (I 4 3)) 14 4 (I 4 4)) 14 5 (I 4 5)) 5 15 4) 6 16 4) 14 8 (I 4 8)) 14 9 (I 4 9)) 14 10 (I 4 10)) 14 11 (I 4 11)) 14 12 (I 4 12)) 14 13 (I 4 13))) (L' := L) (R' := zw_RC h sp la) rfl ?_
  exact lp_X5_like_14 6 0 _ (by omega)
def ti_tank (I : zx_I) : Prop := I 2 2 = 5 ∧ ¬ fi_in I 0 1 6 = 0 ∧ ¬ fi_in I 1 1 60 = 0 ∧ ¬ fi_in I 2 0 40 = 0 ∧ ¬ fi_in I 3 (fi_num I 2) 95 = 0 ∧ ¬ fi_in I 4 0 999 = 0
def tm_tank (I : zx_I) (a : Nat) : zx_I := zx_uI (zx_uI (zx_uI (zx_uI (zx_uI (zx_uI I a 1 (fi_num I 0)) a 2 (fi_num I 1)) a 3 (fi_num I 2)) a 4 (fi_num I 3)) a 5 (fi_num I 4)) a 0 1
def ti_stage (I : zx_I) : Prop := I 2 2 = 3 ∧ ¬ fi_in I 0 1 3 = 0 ∧ ¬ fi_in I 1 0 9999 = 0 ∧ ¬ fi_in I 2 1 30 = 0
def tm_stage (I : zx_I) (a : Nat) : zx_I := zx_uI (zx_uI I (a + 1) (fi_num I 0).toNatClampNeg (fi_num I 1)) (a + 2) (fi_num I 0).toNatClampNeg (fi_num I 2)
def ti_kettle (I : zx_I) : Prop := I 2 2 = 2 ∧ ¬ fi_in I 0 0 20 = 0 ∧ ¬ fi_in I 1 1 30 = 0
def tm_kettle (I : zx_I) (a : Nat) : zx_I := zx_uI (zx_uI I a 9 (fi_num I 0)) a 10 (fi_num I 1)
theorem fi_in_of {I : zx_I} {k l m : Int32} (h : ¬ fi_in I k l m = 0) : ¬ fi_num I k < l ∧ fi_num I k ≤ m := by
  unfold fi_in at h
  split at h
  · exact absurd rfl h
  · split at h
    · exact absurd rfl h
    · rename_i h1 h2
      exact ⟨h1, Int32.not_lt.mp h2⟩
theorem ct_X5_takesTank_no {d : Nat} {I : zx_I} {L : zx_L} {h sp : Nat} {la : Option Nat} {a : Nat}  (ha : a = 4 ∨ a = 14) (hno : ¬ (ti_tank I)) : zx_M0 mm_X5_takesTank (d + 2) 0 0 [.ref a, .ref 2] zw_SC I L (zw_RC h sp la) (zw_ret (some (.int 0)) zw_SC I L (zw_RC h sp la)) := by
  rcases ha with rfl | rfl
  · refine zv_entry gd_X5_takesTank (Nat.le_of_ble_eq_true rfl) ?_
    refine zv_run 3 (pc' := 5) (lo' := [some (.ref 4), some (.ref 2)]) (st' := [.int 5, .int (I 2 2)]) (I' := I) (L' := L) (R' := zw_RC h sp la) rfl ?_
    refine zv_icmp_ne (tgt := 68) (zs_at rfl) (by decide) (fun c5 => ?_) (fun c5 => ?_)
    · have _c := c5
      refine zv_run 1 (pc' := 69) (lo' := [some (.ref 4), some (.ref 2)]) (st' := [.int 0]) (I' := I) (L' := L) (R' := zw_RC h sp la) rfl ?_
      exact zv_zret (zs_at rfl) rfl (Or.inl rfl) ⟨Nat.le_refl _, Nat.le_refl _⟩ (zw_to rfl rfl rfl rfl)
    · have _c := c5
      refine zv_run 4 (pc' := 13) (lo' := [some (.ref 4), some (.ref 2)]) (st' := [.int 6, .int 1, .int 0, .ref 2]) (I' := I) (L' := L) (R' := zw_RC h sp la) rfl ?_
      refine zv_cV (M' := mm_X6_isWithin) (ci := 6) (a := 2) (av := [.int 0, .int 1, .int 6]) (st := []) (r := some (.int (fi_in I 0 1 6))) (I' := I) (L' := L) (R' := zw_RC h sp la) rfl zc_5_117 gd_X6_isWithin rfl rfl rfl (Nat.le_of_ble_eq_true rfl) (ct_X6_isWithin (d := _)) ⟨Nat.le_refl _, Nat.le_refl _⟩ ?_
      refine zv_run 0 (pc' := 16) (lo' := [some (.ref 4), some (.ref 2)]) (st' := [.int (fi_in I 0 1 6)]) (I' := I) (L' := L) (R' := zw_RC h sp la) rfl ?_
      refine zv_if_eq (tgt := 68) (zs_at rfl) (by decide) (fun c16 => ?_) (fun c16 => ?_)
      · have _c := c16
        refine zv_run 1 (pc' := 69) (lo' := [some (.ref 4), some (.ref 2)]) (st' := [.int 0]) (I' := I) (L' := L) (R' := zw_RC h sp la) rfl ?_
        exact zv_zret (zs_at rfl) rfl (Or.inl rfl) ⟨Nat.le_refl _, Nat.le_refl _⟩ (zw_to rfl rfl rfl rfl)
      · have _c := c16
        refine zv_run 4 (pc' := 24) (lo' := [some (.ref 4), some (.ref 2)]) (st' := [.int 60, .int 1, .int 1, .ref 2]) (I' := I) (L' := L) (R' := zw_RC h sp la) rfl ?_
        refine zv_cV (M' := mm_X6_isWithin) (ci := 6) (a := 2) (av := [.int 1, .int 1, .int 60]) (st := []) (r := some (.int (fi_in I 1 1 60))) (I' := I) (L' := L) (R' := zw_RC h sp la) rfl zc_5_117 gd_X6_isWithin rfl rfl rfl (Nat.le_of_ble_eq_true rfl) (ct_X6_isWithin (d := _)) ⟨Nat.le_refl _, Nat.le_refl _⟩ ?_
        refine zv_run 0 (pc' := 27) (lo' := [some (.ref 4), some (.ref 2)]) (st' := [.int (fi_in I 1 1 60)]) (I' := I) (L' := L) (R' := zw_RC h sp la) rfl ?_
        refine zv_if_eq (tgt := 68) (zs_at rfl) (by decide) (fun c27 => ?_) (fun c27 => ?_)
        · have _c := c27
          refine zv_run 1 (pc' := 69) (lo' := [some (.ref 4), some (.ref 2)]) (st' := [.int 0]) (I' := I) (L' := L) (R' := zw_RC h sp la) rfl ?_
          exact zv_zret (zs_at rfl) rfl (Or.inl rfl) ⟨Nat.le_refl _, Nat.le_refl _⟩ (zw_to rfl rfl rfl rfl)
        · have _c := c27
          refine zv_run 4 (pc' := 35) (lo' := [some (.ref 4), some (.ref 2)]) (st' := [.int 40, .int 0, .int 2, .ref 2]) (I' := I) (L' := L) (R' := zw_RC h sp la) rfl ?_
          refine zv_cV (M' := mm_X6_isWithin) (ci := 6) (a := 2) (av := [.int 2, .int 0, .int 40]) (st := []) (r := some (.int (fi_in I 2 0 40))) (I' := I) (L' := L) (R' := zw_RC h sp la) rfl zc_5_117 gd_X6_isWithin rfl rfl rfl (Nat.le_of_ble_eq_true rfl) (ct_X6_isWithin (d := _)) ⟨Nat.le_refl _, Nat.le_refl _⟩ ?_
          refine zv_run 0 (pc' := 38) (lo' := [some (.ref 4), some (.ref 2)]) (st' := [.int (fi_in I 2 0 40)]) (I' := I) (L' := L) (R' := zw_RC h sp la) rfl ?_
          refine zv_if_eq (tgt := 68) (zs_at rfl) (by decide) (fun c38 => ?_) (fun c38 => ?_)
          · have _c := c38
            refine zv_run 1 (pc' := 69) (lo' := [some (.ref 4), some (.ref 2)]) (st' := [.int 0]) (I' := I) (L' := L) (R' := zw_RC h sp la) rfl ?_
            exact zv_zret (zs_at rfl) rfl (Or.inl rfl) ⟨Nat.le_refl _, Nat.le_refl _⟩ (zw_to rfl rfl rfl rfl)
          · have _c := c38
            refine zv_run 4 (pc' := 45) (lo' := [some (.ref 4), some (.ref 2)]) (st' := [.int 2, .ref 2, .int 3, .ref 2]) (I' := I) (L' := L) (R' := zw_RC h sp la) rfl ?_
            refine zv_cV (M' := mm_X6_number) (ci := 6) (a := 2) (av := [.int 2]) (st := [.int 3, .ref 2]) (r := some (.int (fi_num I 2))) (I' := I) (L' := L) (R' := zw_RC h sp la) rfl zc_5_121 gd_X6_number rfl rfl rfl (Nat.le_of_ble_eq_true rfl) (ct_X6_number (d := _) (I := I)) ⟨Nat.le_refl _, Nat.le_refl _⟩ ?_
            refine zv_run 0 (pc' := 48) (lo' := [some (.ref 4), some (.ref 2)]) (st' := [.int (fi_num I 2), .int 3, .ref 2]) (I' := I) (L' := L) (R' := zw_RC h sp la) rfl ?_
            refine zv_run 1 (pc' := 50) (lo' := [some (.ref 4), some (.ref 2)]) (st' := [.int 95, .int (fi_num I 2), .int 3, .ref 2]) (I' := I) (L' := L) (R' := zw_RC h sp la) rfl ?_
            refine zv_cV (M' := mm_X6_isWithin) (ci := 6) (a := 2) (av := [.int 3, .int (fi_num I 2), .int 95]) (st := []) (r := some (.int (fi_in I 3 (fi_num I 2) 95))) (I' := I) (L' := L) (R' := zw_RC h sp la) rfl zc_5_117 gd_X6_isWithin rfl rfl rfl (Nat.le_of_ble_eq_true rfl) (ct_X6_isWithin (d := _)) ⟨Nat.le_refl _, Nat.le_refl _⟩ ?_
            refine zv_run 0 (pc' := 53) (lo' := [some (.ref 4), some (.ref 2)]) (st' := [.int (fi_in I 3 (fi_num I 2) 95)]) (I' := I) (L' := L) (R' := zw_RC h sp la) rfl ?_
            refine zv_if_eq (tgt := 68) (zs_at rfl) (by decide) (fun c53 => ?_) (fun c53 => ?_)
            · have _c := c53
              refine zv_run 1 (pc' := 69) (lo' := [some (.ref 4), some (.ref 2)]) (st' := [.int 0]) (I' := I) (L' := L) (R' := zw_RC h sp la) rfl ?_
              exact zv_zret (zs_at rfl) rfl (Or.inl rfl) ⟨Nat.le_refl _, Nat.le_refl _⟩ (zw_to rfl rfl rfl rfl)
            · have _c := c53
              refine zv_run 4 (pc' := 62) (lo' := [some (.ref 4), some (.ref 2)]) (st' := [.int 999, .int 0, .int 4, .ref 2]) (I' := I) (L' := L) (R' := zw_RC h sp la) rfl ?_
              refine zv_cV (M' := mm_X6_isWithin) (ci := 6) (a := 2) (av := [.int 4, .int 0, .int 999]) (st := []) (r := some (.int (fi_in I 4 0 999))) (I' := I) (L' := L) (R' := zw_RC h sp la) rfl zc_5_117 gd_X6_isWithin rfl rfl rfl (Nat.le_of_ble_eq_true rfl) (ct_X6_isWithin (d := _)) ⟨Nat.le_refl _, Nat.le_refl _⟩ ?_
              refine zv_run 0 (pc' := 65) (lo' := [some (.ref 4), some (.ref 2)]) (st' := [.int (fi_in I 4 0 999)]) (I' := I) (L' := L) (R' := zw_RC h sp la) rfl ?_
              refine zv_if_ne (tgt := 70) (zs_at rfl) (by decide) (fun c65 => ?_) (fun c65 => ?_)
              · have _c := c65
                exact absurd ⟨c5, c16, c27, c38, c53, c65⟩ hno
              · have _c := c65
                refine zv_run 1 (pc' := 69) (lo' := [some (.ref 4), some (.ref 2)]) (st' := [.int 0]) (I' := I) (L' := L) (R' := zw_RC h sp la) rfl ?_
                exact zv_zret (zs_at rfl) rfl (Or.inl rfl) ⟨Nat.le_refl _, Nat.le_refl _⟩ (zw_to rfl rfl rfl rfl)
  · refine zv_entry gd_X5_takesTank (Nat.le_of_ble_eq_true rfl) ?_
    refine zv_run 3 (pc' := 5) (lo' := [some (.ref 14), some (.ref 2)]) (st' := [.int 5, .int (I 2 2)]) (I' := I) (L' := L) (R' := zw_RC h sp la) rfl ?_
    refine zv_icmp_ne (tgt := 68) (zs_at rfl) (by decide) (fun c5 => ?_) (fun c5 => ?_)
    · have _c := c5
      refine zv_run 1 (pc' := 69) (lo' := [some (.ref 14), some (.ref 2)]) (st' := [.int 0]) (I' := I) (L' := L) (R' := zw_RC h sp la) rfl ?_
      exact zv_zret (zs_at rfl) rfl (Or.inl rfl) ⟨Nat.le_refl _, Nat.le_refl _⟩ (zw_to rfl rfl rfl rfl)
    · have _c := c5
      refine zv_run 4 (pc' := 13) (lo' := [some (.ref 14), some (.ref 2)]) (st' := [.int 6, .int 1, .int 0, .ref 2]) (I' := I) (L' := L) (R' := zw_RC h sp la) rfl ?_
      refine zv_cV (M' := mm_X6_isWithin) (ci := 6) (a := 2) (av := [.int 0, .int 1, .int 6]) (st := []) (r := some (.int (fi_in I 0 1 6))) (I' := I) (L' := L) (R' := zw_RC h sp la) rfl zc_5_117 gd_X6_isWithin rfl rfl rfl (Nat.le_of_ble_eq_true rfl) (ct_X6_isWithin (d := _)) ⟨Nat.le_refl _, Nat.le_refl _⟩ ?_
      refine zv_run 0 (pc' := 16) (lo' := [some (.ref 14), some (.ref 2)]) (st' := [.int (fi_in I 0 1 6)]) (I' := I) (L' := L) (R' := zw_RC h sp la) rfl ?_
      refine zv_if_eq (tgt := 68) (zs_at rfl) (by decide) (fun c16 => ?_) (fun c16 => ?_)
      · have _c := c16
        refine zv_run 1 (pc' := 69) (lo' := [some (.ref 14), some (.ref 2)]) (st' := [.int 0]) (I' := I) (L' := L) (R' := zw_RC h sp la) rfl ?_
        exact zv_zret (zs_at rfl) rfl (Or.inl rfl) ⟨Nat.le_refl _, Nat.le_refl _⟩ (zw_to rfl rfl rfl rfl)
      · have _c := c16
        refine zv_run 4 (pc' := 24) (lo' := [some (.ref 14), some (.ref 2)]) (st' := [.int 60, .int 1, .int 1, .ref 2]) (I' := I) (L' := L) (R' := zw_RC h sp la) rfl ?_
        refine zv_cV (M' := mm_X6_isWithin) (ci := 6) (a := 2) (av := [.int 1, .int 1, .int 60]) (st := []) (r := some (.int (fi_in I 1 1 60))) (I' := I) (L' := L) (R' := zw_RC h sp la) rfl zc_5_117 gd_X6_isWithin rfl rfl rfl (Nat.le_of_ble_eq_true rfl) (ct_X6_isWithin (d := _)) ⟨Nat.le_refl _, Nat.le_refl _⟩ ?_
        refine zv_run 0 (pc' := 27) (lo' := [some (.ref 14), some (.ref 2)]) (st' := [.int (fi_in I 1 1 60)]) (I' := I) (L' := L) (R' := zw_RC h sp la) rfl ?_
        refine zv_if_eq (tgt := 68) (zs_at rfl) (by decide) (fun c27 => ?_) (fun c27 => ?_)
        · have _c := c27
          refine zv_run 1 (pc' := 69) (lo' := [some (.ref 14), some (.ref 2)]) (st' := [.int 0]) (I' := I) (L' := L) (R' := zw_RC h sp la) rfl ?_
          exact zv_zret (zs_at rfl) rfl (Or.inl rfl) ⟨Nat.le_refl _, Nat.le_refl _⟩ (zw_to rfl rfl rfl rfl)
        · have _c := c27
          refine zv_run 4 (pc' := 35) (lo' := [some (.ref 14), some (.ref 2)]) (st' := [.int 40, .int 0, .int 2, .ref 2]) (I' := I) (L' := L) (R' := zw_RC h sp la) rfl ?_
          refine zv_cV (M' := mm_X6_isWithin) (ci := 6) (a := 2) (av := [.int 2, .int 0, .int 40]) (st := []) (r := some (.int (fi_in I 2 0 40))) (I' := I) (L' := L) (R' := zw_RC h sp la) rfl zc_5_117 gd_X6_isWithin rfl rfl rfl (Nat.le_of_ble_eq_true rfl) (ct_X6_isWithin (d := _)) ⟨Nat.le_refl _, Nat.le_refl _⟩ ?_
          refine zv_run 0 (pc' := 38) (lo' := [some (.ref 14), some (.ref 2)]) (st' := [.int (fi_in I 2 0 40)]) (I' := I) (L' := L) (R' := zw_RC h sp la) rfl ?_
          refine zv_if_eq (tgt := 68) (zs_at rfl) (by decide) (fun c38 => ?_) (fun c38 => ?_)
          · have _c := c38
            refine zv_run 1 (pc' := 69) (lo' := [some (.ref 14), some (.ref 2)]) (st' := [.int 0]) (I' := I) (L' := L) (R' := zw_RC h sp la) rfl ?_
            exact zv_zret (zs_at rfl) rfl (Or.inl rfl) ⟨Nat.le_refl _, Nat.le_refl _⟩ (zw_to rfl rfl rfl rfl)
          · have _c := c38
            refine zv_run 4 (pc' := 45) (lo' := [some (.ref 14), some (.ref 2)]) (st' := [.int 2, .ref 2, .int 3, .ref 2]) (I' := I) (L' := L) (R' := zw_RC h sp la) rfl ?_
            refine zv_cV (M' := mm_X6_number) (ci := 6) (a := 2) (av := [.int 2]) (st := [.int 3, .ref 2]) (r := some (.int (fi_num I 2))) (I' := I) (L' := L) (R' := zw_RC h sp la) rfl zc_5_121 gd_X6_number rfl rfl rfl (Nat.le_of_ble_eq_true rfl) (ct_X6_number (d := _) (I := I)) ⟨Nat.le_refl _, Nat.le_refl _⟩ ?_
            refine zv_run 0 (pc' := 48) (lo' := [some (.ref 14), some (.ref 2)]) (st' := [.int (fi_num I 2), .int 3, .ref 2]) (I' := I) (L' := L) (R' := zw_RC h sp la) rfl ?_
            refine zv_run 1 (pc' := 50) (lo' := [some (.ref 14), some (.ref 2)]) (st' := [.int 95, .int (fi_num I 2), .int 3, .ref 2]) (I' := I) (L' := L) (R' := zw_RC h sp la) rfl ?_
            refine zv_cV (M' := mm_X6_isWithin) (ci := 6) (a := 2) (av := [.int 3, .int (fi_num I 2), .int 95]) (st := []) (r := some (.int (fi_in I 3 (fi_num I 2) 95))) (I' := I) (L' := L) (R' := zw_RC h sp la) rfl zc_5_117 gd_X6_isWithin rfl rfl rfl (Nat.le_of_ble_eq_true rfl) (ct_X6_isWithin (d := _)) ⟨Nat.le_refl _, Nat.le_refl _⟩ ?_
            refine zv_run 0 (pc' := 53) (lo' := [some (.ref 14), some (.ref 2)]) (st' := [.int (fi_in I 3 (fi_num I 2) 95)]) (I' := I) (L' := L) (R' := zw_RC h sp la) rfl ?_
            refine zv_if_eq (tgt := 68) (zs_at rfl) (by decide) (fun c53 => ?_) (fun c53 => ?_)
            · have _c := c53
              refine zv_run 1 (pc' := 69) (lo' := [some (.ref 14), some (.ref 2)]) (st' := [.int 0]) (I' := I) (L' := L) (R' := zw_RC h sp la) rfl ?_
              exact zv_zret (zs_at rfl) rfl (Or.inl rfl) ⟨Nat.le_refl _, Nat.le_refl _⟩ (zw_to rfl rfl rfl rfl)
            · have _c := c53
              refine zv_run 4 (pc' := 62) (lo' := [some (.ref 14), some (.ref 2)]) (st' := [.int 999, .int 0, .int 4, .ref 2]) (I' := I) (L' := L) (R' := zw_RC h sp la) rfl ?_
              refine zv_cV (M' := mm_X6_isWithin) (ci := 6) (a := 2) (av := [.int 4, .int 0, .int 999]) (st := []) (r := some (.int (fi_in I 4 0 999))) (I' := I) (L' := L) (R' := zw_RC h sp la) rfl zc_5_117 gd_X6_isWithin rfl rfl rfl (Nat.le_of_ble_eq_true rfl) (ct_X6_isWithin (d := _)) ⟨Nat.le_refl _, Nat.le_refl _⟩ ?_
              refine zv_run 0 (pc' := 65) (lo' := [some (.ref 14), some (.ref 2)]) (st' := [.int (fi_in I 4 0 999)]) (I' := I) (L' := L) (R' := zw_RC h sp la) rfl ?_
              refine zv_if_ne (tgt := 70) (zs_at rfl) (by decide) (fun c65 => ?_) (fun c65 => ?_)
              · have _c := c65
                exact absurd ⟨c5, c16, c27, c38, c53, c65⟩ hno
              · have _c := c65
                refine zv_run 1 (pc' := 69) (lo' := [some (.ref 14), some (.ref 2)]) (st' := [.int 0]) (I' := I) (L' := L) (R' := zw_RC h sp la) rfl ?_
                exact zv_zret (zs_at rfl) rfl (Or.inl rfl) ⟨Nat.le_refl _, Nat.le_refl _⟩ (zw_to rfl rfl rfl rfl)
theorem ct_X5_takesTank {d : Nat} {I : zx_I} {L : zx_L} {h sp : Nat} {la : Option Nat} {a : Nat}  (ha : a = 4 ∨ a = 14) (hok : (ti_tank I)) : zx_M0 mm_X5_takesTank (d + 2) 0 0 [.ref a, .ref 2] zw_SC I L (zw_RC h sp la) (zw_ret (some (.int 1)) zw_SC (tm_tank I a) L (zw_RC h sp la)) := by
  rcases ha with rfl | rfl
  · refine zv_entry gd_X5_takesTank (Nat.le_of_ble_eq_true rfl) ?_
    refine zv_run 3 (pc' := 5) (lo' := [some (.ref 4), some (.ref 2)]) (st' := [.int 5, .int (I 2 2)]) (I' := I) (L' := L) (R' := zw_RC h sp la) rfl ?_
    refine zv_icmp_ne (tgt := 68) (zs_at rfl) (by decide) (fun c5 => ?_) (fun c5 => ?_)
    · have _c := c5
      refine zv_run 1 (pc' := 69) (lo' := [some (.ref 4), some (.ref 2)]) (st' := [.int 0]) (I' := I) (L' := L) (R' := zw_RC h sp la) rfl ?_
      exact zv_zret (zs_at rfl) rfl (Or.inl rfl) ⟨Nat.le_refl _, Nat.le_refl _⟩ (absurd hok (fun q => by first | exact c5 q.1 | exact q.2.1 c16 | exact q.2.2.1 c27 | exact q.2.2.2.1 c38 | exact q.2.2.2.2.1 c53 | exact q.2.2.2.2.2 c65))
    · have _c := c5
      refine zv_run 4 (pc' := 13) (lo' := [some (.ref 4), some (.ref 2)]) (st' := [.int 6, .int 1, .int 0, .ref 2]) (I' := I) (L' := L) (R' := zw_RC h sp la) rfl ?_
      refine zv_cV (M' := mm_X6_isWithin) (ci := 6) (a := 2) (av := [.int 0, .int 1, .int 6]) (st := []) (r := some (.int (fi_in I 0 1 6))) (I' := I) (L' := L) (R' := zw_RC h sp la) rfl zc_5_117 gd_X6_isWithin rfl rfl rfl (Nat.le_of_ble_eq_true rfl) (ct_X6_isWithin (d := _)) ⟨Nat.le_refl _, Nat.le_refl _⟩ ?_
      refine zv_run 0 (pc' := 16) (lo' := [some (.ref 4), some (.ref 2)]) (st' := [.int (fi_in I 0 1 6)]) (I' := I) (L' := L) (R' := zw_RC h sp la) rfl ?_
      refine zv_if_eq (tgt := 68) (zs_at rfl) (by decide) (fun c16 => ?_) (fun c16 => ?_)
      · have _c := c16
        refine zv_run 1 (pc' := 69) (lo' := [some (.ref 4), some (.ref 2)]) (st' := [.int 0]) (I' := I) (L' := L) (R' := zw_RC h sp la) rfl ?_
        exact zv_zret (zs_at rfl) rfl (Or.inl rfl) ⟨Nat.le_refl _, Nat.le_refl _⟩ (absurd hok (fun q => by first | exact c5 q.1 | exact q.2.1 c16 | exact q.2.2.1 c27 | exact q.2.2.2.1 c38 | exact q.2.2.2.2.1 c53 | exact q.2.2.2.2.2 c65))
      · have _c := c16
        refine zv_run 4 (pc' := 24) (lo' := [some (.ref 4), some (.ref 2)]) (st' := [.int 60, .int 1, .int 1, .ref 2]) (I' := I) (L' := L) (R' := zw_RC h sp la) rfl ?_
        refine zv_cV (M' := mm_X6_isWithin) (ci := 6) (a := 2) (av := [.int 1, .int 1, .int 60]) (st := []) (r := some (.int (fi_in I 1 1 60))) (I' := I) (L' := L) (R' := zw_RC h sp la) rfl zc_5_117 gd_X6_isWithin rfl rfl rfl (Nat.le_of_ble_eq_true rfl) (ct_X6_isWithin (d := _)) ⟨Nat.le_refl _, Nat.le_refl _⟩ ?_
        refine zv_run 0 (pc' := 27) (lo' := [some (.ref 4), some (.ref 2)]) (st' := [.int (fi_in I 1 1 60)]) (I' := I) (L' := L) (R' := zw_RC h sp la) rfl ?_
        refine zv_if_eq (tgt := 68) (zs_at rfl) (by decide) (fun c27 => ?_) (fun c27 => ?_)
        · have _c := c27
          refine zv_run 1 (pc' := 69) (lo' := [some (.ref 4), some (.ref 2)]) (st' := [.int 0]) (I' := I) (L' := L) (R' := zw_RC h sp la) rfl ?_
          exact zv_zret (zs_at rfl) rfl (Or.inl rfl) ⟨Nat.le_refl _, Nat.le_refl _⟩ (absurd hok (fun q => by first | exact c5 q.1 | exact q.2.1 c16 | exact q.2.2.1 c27 | exact q.2.2.2.1 c38 | exact q.2.2.2.2.1 c53 | exact q.2.2.2.2.2 c65))
        · have _c := c27
          refine zv_run 4 (pc' := 35) (lo' := [some (.ref 4), some (.ref 2)]) (st' := [.int 40, .int 0, .int 2, .ref 2]) (I' := I) (L' := L) (R' := zw_RC h sp la) rfl ?_
          refine zv_cV (M' := mm_X6_isWithin) (ci := 6) (a := 2) (av := [.int 2, .int 0, .int 40]) (st := []) (r := some (.int (fi_in I 2 0 40))) (I' := I) (L' := L) (R' := zw_RC h sp la) rfl zc_5_117 gd_X6_isWithin rfl rfl rfl (Nat.le_of_ble_eq_true rfl) (ct_X6_isWithin (d := _)) ⟨Nat.le_refl _, Nat.le_refl _⟩ ?_
          refine zv_run 0 (pc' := 38) (lo' := [some (.ref 4), some (.ref 2)]) (st' := [.int (fi_in I 2 0 40)]) (I' := I) (L' := L) (R' := zw_RC h sp la) rfl ?_
          refine zv_if_eq (tgt := 68) (zs_at rfl) (by decide) (fun c38 => ?_) (fun c38 => ?_)
          · have _c := c38
            refine zv_run 1 (pc' := 69) (lo' := [some (.ref 4), some (.ref 2)]) (st' := [.int 0]) (I' := I) (L' := L) (R' := zw_RC h sp la) rfl ?_
            exact zv_zret (zs_at rfl) rfl (Or.inl rfl) ⟨Nat.le_refl _, Nat.le_refl _⟩ (absurd hok (fun q => by first | exact c5 q.1 | exact q.2.1 c16 | exact q.2.2.1 c27 | exact q.2.2.2.1 c38 | exact q.2.2.2.2.1 c53 | exact q.2.2.2.2.2 c65))
          · have _c := c38
            refine zv_run 4 (pc' := 45) (lo' := [some (.ref 4), some (.ref 2)]) (st' := [.int 2, .ref 2, .int 3, .ref 2]) (I' := I) (L' := L) (R' := zw_RC h sp la) rfl ?_
            refine zv_cV (M' := mm_X6_number) (ci := 6) (a := 2) (av := [.int 2]) (st := [.int 3, .ref 2]) (r := some (.int (fi_num I 2))) (I' := I) (L' := L) (R' := zw_RC h sp la) rfl zc_5_121 gd_X6_number rfl rfl rfl (Nat.le_of_ble_eq_true rfl) (ct_X6_number (d := _) (I := I)) ⟨Nat.le_refl _, Nat.le_refl _⟩ ?_
            refine zv_run 0 (pc' := 48) (lo' := [some (.ref 4), some (.ref 2)]) (st' := [.int (fi_num I 2), .int 3, .ref 2]) (I' := I) (L' := L) (R' := zw_RC h sp la) rfl ?_
            refine zv_run 1 (pc' := 50) (lo' := [some (.ref 4), some (.ref 2)]) (st' := [.int 95, .int (fi_num I 2), .int 3, .ref 2]) (I' := I) (L' := L) (R' := zw_RC h sp la) rfl ?_
            refine zv_cV (M' := mm_X6_isWithin) (ci := 6) (a := 2) (av := [.int 3, .int (fi_num I 2), .int 95]) (st := []) (r := some (.int (fi_in I 3 (fi_num I 2) 95))) (I' := I) (L' := L) (R' := zw_RC h sp la) rfl zc_5_117 gd_X6_isWithin rfl rfl rfl (Nat.le_of_ble_eq_true rfl) (ct_X6_isWithin (d := _)) ⟨Nat.le_refl _, Nat.le_refl _⟩ ?_
            refine zv_run 0 (pc' := 53) (lo' := [some (.ref 4), some (.ref 2)]) (st' := [.int (fi_in I 3 (fi_num I 2) 95)]) (I' := I) (L' := L) (R' := zw_RC h sp la) rfl ?_
            refine zv_if_eq (tgt := 68) (zs_at rfl) (by decide) (fun c53 => ?_) (fun c53 => ?_)
            · have _c := c53
              refine zv_run 1 (pc' := 69) (lo' := [some (.ref 4), some (.ref 2)]) (st' := [.int 0]) (I' := I) (L' := L) (R' := zw_RC h sp la) rfl ?_
              exact zv_zret (zs_at rfl) rfl (Or.inl rfl) ⟨Nat.le_refl _, Nat.le_refl _⟩ (absurd hok (fun q => by first | exact c5 q.1 | exact q.2.1 c16 | exact q.2.2.1 c27 | exact q.2.2.2.1 c38 | exact q.2.2.2.2.1 c53 | exact q.2.2.2.2.2 c65))
            · have _c := c53
              refine zv_run 4 (pc' := 62) (lo' := [some (.ref 4), some (.ref 2)]) (st' := [.int 999, .int 0, .int 4, .ref 2]) (I' := I) (L' := L) (R' := zw_RC h sp la) rfl ?_
              refine zv_cV (M' := mm_X6_isWithin) (ci := 6) (a := 2) (av := [.int 4, .int 0, .int 999]) (st := []) (r := some (.int (fi_in I 4 0 999))) (I' := I) (L' := L) (R' := zw_RC h sp la) rfl zc_5_117 gd_X6_isWithin rfl rfl rfl (Nat.le_of_ble_eq_true rfl) (ct_X6_isWithin (d := _)) ⟨Nat.le_refl _, Nat.le_refl _⟩ ?_
              refine zv_run 0 (pc' := 65) (lo' := [some (.ref 4), some (.ref 2)]) (st' := [.int (fi_in I 4 0 999)]) (I' := I) (L' := L) (R' := zw_RC h sp la) rfl ?_
              refine zv_if_ne (tgt := 70) (zs_at rfl) (by decide) (fun c65 => ?_) (fun c65 => ?_)
              · have _c := c65
                refine zv_run 3 (pc' := 73) (lo' := [some (.ref 4), some (.ref 2)]) (st' := [.int 0, .ref 2, .ref 4]) (I' := I) (L' := L) (R' := zw_RC h sp la) rfl ?_
                refine zv_cV (M' := mm_X6_number) (ci := 6) (a := 2) (av := [.int 0]) (st := [.ref 4]) (r := some (.int (fi_num I 0))) (I' := I) (L' := L) (R' := zw_RC h sp la) rfl zc_5_121 gd_X6_number rfl rfl rfl (Nat.le_of_ble_eq_true rfl) (ct_X6_number (d := _) (I := I)) ⟨Nat.le_refl _, Nat.le_refl _⟩ ?_
                refine zv_run 0 (pc' := 76) (lo' := [some (.ref 4), some (.ref 2)]) (st' := [.int (fi_num I 0), .ref 4]) (I' := I) (L' := L) (R' := zw_RC h sp la) rfl ?_
                refine zv_run 4 (pc' := 82) (lo' := [some (.ref 4), some (.ref 2)]) (st' := [.int 1, .ref 2, .ref 4]) (I' := (zx_uI I 4 1 (fi_num I 0))) (L' := L) (R' := zw_RC h sp la) rfl ?_
                refine zv_cV (M' := mm_X6_number) (ci := 6) (a := 2) (av := [.int 1]) (st := [.ref 4]) (r := some (.int (fi_num I 1))) (I' := (zx_uI I 4 1 (fi_num I 0))) (L' := L) (R' := zw_RC h sp la) rfl zc_5_121 gd_X6_number rfl rfl rfl (Nat.le_of_ble_eq_true rfl) (ct_X6_number (d := _) (I := (zx_uI I 4 1 (fi_num I 0)))) ⟨Nat.le_refl _, Nat.le_refl _⟩ ?_
                refine zv_run 0 (pc' := 85) (lo' := [some (.ref 4), some (.ref 2)]) (st' := [.int (fi_num I 1), .ref 4]) (I' := (zx_uI I 4 1 (fi_num I 0))) (L' := L) (R' := zw_RC h sp la) rfl ?_
                refine zv_run 4 (pc' := 91) (lo' := [some (.ref 4), some (.ref 2)]) (st' := [.int 2, .ref 2, .ref 4]) (I' := (zx_uI (zx_uI I 4 1 (fi_num I 0)) 4 2 (fi_num I 1))) (L' := L) (R' := zw_RC h sp la) rfl ?_
                refine zv_cV (M' := mm_X6_number) (ci := 6) (a := 2) (av := [.int 2]) (st := [.ref 4]) (r := some (.int (fi_num I 2))) (I' := (zx_uI (zx_uI I 4 1 (fi_num I 0)) 4 2 (fi_num I 1))) (L' := L) (R' := zw_RC h sp la) rfl zc_5_121 gd_X6_number rfl rfl rfl (Nat.le_of_ble_eq_true rfl) (ct_X6_number (d := _) (I := (zx_uI (zx_uI I 4 1 (fi_num I 0)) 4 2 (fi_num I 1)))) ⟨Nat.le_refl _, Nat.le_refl _⟩ ?_
                refine zv_run 0 (pc' := 94) (lo' := [some (.ref 4), some (.ref 2)]) (st' := [.int (fi_num I 2), .ref 4]) (I' := (zx_uI (zx_uI I 4 1 (fi_num I 0)) 4 2 (fi_num I 1))) (L' := L) (R' := zw_RC h sp la) rfl ?_
                refine zv_run 4 (pc' := 100) (lo' := [some (.ref 4), some (.ref 2)]) (st' := [.int 3, .ref 2, .ref 4]) (I' := (zx_uI (zx_uI (zx_uI I 4 1 (fi_num I 0)) 4 2 (fi_num I 1)) 4 3 (fi_num I 2))) (L' := L) (R' := zw_RC h sp la) rfl ?_
                refine zv_cV (M' := mm_X6_number) (ci := 6) (a := 2) (av := [.int 3]) (st := [.ref 4]) (r := some (.int (fi_num I 3))) (I' := (zx_uI (zx_uI (zx_uI I 4 1 (fi_num I 0)) 4 2 (fi_num I 1)) 4 3 (fi_num I 2))) (L' := L) (R' := zw_RC h sp la) rfl zc_5_121 gd_X6_number rfl rfl rfl (Nat.le_of_ble_eq_true rfl) (ct_X6_number (d := _) (I := (zx_uI (zx_uI (zx_uI I 4 1 (fi_num I 0)) 4 2 (fi_num I 1)) 4 3 (fi_num I 2)))) ⟨Nat.le_refl _, Nat.le_refl _⟩ ?_
                refine zv_run 0 (pc' := 103) (lo' := [some (.ref 4), some (.ref 2)]) (st' := [.int (fi_num I 3), .ref 4]) (I' := (zx_uI (zx_uI (zx_uI I 4 1 (fi_num I 0)) 4 2 (fi_num I 1)) 4 3 (fi_num I 2))) (L' := L) (R' := zw_RC h sp la) rfl ?_
                refine zv_run 4 (pc' := 109) (lo' := [some (.ref 4), some (.ref 2)]) (st' := [.int 4, .ref 2, .ref 4]) (I' := (zx_uI (zx_uI (zx_uI (zx_uI I 4 1 (fi_num I 0)) 4 2 (fi_num I 1)) 4 3 (fi_num I 2)) 4 4 (fi_num I 3))) (L' := L) (R' := zw_RC h sp la) rfl ?_
                refine zv_cV (M' := mm_X6_number) (ci := 6) (a := 2) (av := [.int 4]) (st := [.ref 4]) (r := some (.int (fi_num I 4))) (I' := (zx_uI (zx_uI (zx_uI (zx_uI I 4 1 (fi_num I 0)) 4 2 (fi_num I 1)) 4 3 (fi_num I 2)) 4 4 (fi_num I 3))) (L' := L) (R' := zw_RC h sp la) rfl zc_5_121 gd_X6_number rfl rfl rfl (Nat.le_of_ble_eq_true rfl) (ct_X6_number (d := _) (I := (zx_uI (zx_uI (zx_uI (zx_uI I 4 1 (fi_num I 0)) 4 2 (fi_num I 1)) 4 3 (fi_num I 2)) 4 4 (fi_num I 3)))) ⟨Nat.le_refl _, Nat.le_refl _⟩ ?_
                refine zv_run 0 (pc' := 112) (lo' := [some (.ref 4), some (.ref 2)]) (st' := [.int (fi_num I 4), .ref 4]) (I' := (zx_uI (zx_uI (zx_uI (zx_uI I 4 1 (fi_num I 0)) 4 2 (fi_num I 1)) 4 3 (fi_num I 2)) 4 4 (fi_num I 3))) (L' := L) (R' := zw_RC h sp la) rfl ?_
                refine zv_run 5 (pc' := 121) (lo' := [some (.ref 4), some (.ref 2)]) (st' := [.int 1]) (I' := (zx_uI (zx_uI (zx_uI (zx_uI (zx_uI (zx_uI I 4 1 (fi_num I 0)) 4 2 (fi_num I 1)) 4 3 (fi_num I 2)) 4 4 (fi_num I 3)) 4 5 (fi_num I 4)) 4 0 1)) (L' := L) (R' := zw_RC h sp la) rfl ?_
                exact zv_zret (zs_at rfl) rfl (Or.inr rfl) ⟨Nat.le_refl _, Nat.le_refl _⟩ (zw_to rfl rfl rfl rfl)
              · have _c := c65
                refine zv_run 1 (pc' := 69) (lo' := [some (.ref 4), some (.ref 2)]) (st' := [.int 0]) (I' := I) (L' := L) (R' := zw_RC h sp la) rfl ?_
                exact zv_zret (zs_at rfl) rfl (Or.inl rfl) ⟨Nat.le_refl _, Nat.le_refl _⟩ (absurd hok (fun q => by first | exact c5 q.1 | exact q.2.1 c16 | exact q.2.2.1 c27 | exact q.2.2.2.1 c38 | exact q.2.2.2.2.1 c53 | exact q.2.2.2.2.2 c65))
  · refine zv_entry gd_X5_takesTank (Nat.le_of_ble_eq_true rfl) ?_
    refine zv_run 3 (pc' := 5) (lo' := [some (.ref 14), some (.ref 2)]) (st' := [.int 5, .int (I 2 2)]) (I' := I) (L' := L) (R' := zw_RC h sp la) rfl ?_
    refine zv_icmp_ne (tgt := 68) (zs_at rfl) (by decide) (fun c5 => ?_) (fun c5 => ?_)
    · have _c := c5
      refine zv_run 1 (pc' := 69) (lo' := [some (.ref 14), some (.ref 2)]) (st' := [.int 0]) (I' := I) (L' := L) (R' := zw_RC h sp la) rfl ?_
      exact zv_zret (zs_at rfl) rfl (Or.inl rfl) ⟨Nat.le_refl _, Nat.le_refl _⟩ (absurd hok (fun q => by first | exact c5 q.1 | exact q.2.1 c16 | exact q.2.2.1 c27 | exact q.2.2.2.1 c38 | exact q.2.2.2.2.1 c53 | exact q.2.2.2.2.2 c65))
    · have _c := c5
      refine zv_run 4 (pc' := 13) (lo' := [some (.ref 14), some (.ref 2)]) (st' := [.int 6, .int 1, .int 0, .ref 2]) (I' := I) (L' := L) (R' := zw_RC h sp la) rfl ?_
      refine zv_cV (M' := mm_X6_isWithin) (ci := 6) (a := 2) (av := [.int 0, .int 1, .int 6]) (st := []) (r := some (.int (fi_in I 0 1 6))) (I' := I) (L' := L) (R' := zw_RC h sp la) rfl zc_5_117 gd_X6_isWithin rfl rfl rfl (Nat.le_of_ble_eq_true rfl) (ct_X6_isWithin (d := _)) ⟨Nat.le_refl _, Nat.le_refl _⟩ ?_
      refine zv_run 0 (pc' := 16) (lo' := [some (.ref 14), some (.ref 2)]) (st' := [.int (fi_in I 0 1 6)]) (I' := I) (L' := L) (R' := zw_RC h sp la) rfl ?_
      refine zv_if_eq (tgt := 68) (zs_at rfl) (by decide) (fun c16 => ?_) (fun c16 => ?_)
      · have _c := c16
        refine zv_run 1 (pc' := 69) (lo' := [some (.ref 14), some (.ref 2)]) (st' := [.int 0]) (I' := I) (L' := L) (R' := zw_RC h sp la) rfl ?_
        exact zv_zret (zs_at rfl) rfl (Or.inl rfl) ⟨Nat.le_refl _, Nat.le_refl _⟩ (absurd hok (fun q => by first | exact c5 q.1 | exact q.2.1 c16 | exact q.2.2.1 c27 | exact q.2.2.2.1 c38 | exact q.2.2.2.2.1 c53 | exact q.2.2.2.2.2 c65))
      · have _c := c16
        refine zv_run 4 (pc' := 24) (lo' := [some (.ref 14), some (.ref 2)]) (st' := [.int 60, .int 1, .int 1, .ref 2]) (I' := I) (L' := L) (R' := zw_RC h sp la) rfl ?_
        refine zv_cV (M' := mm_X6_isWithin) (ci := 6) (a := 2) (av := [.int 1, .int 1, .int 60]) (st := []) (r := some (.int (fi_in I 1 1 60))) (I' := I) (L' := L) (R' := zw_RC h sp la) rfl zc_5_117 gd_X6_isWithin rfl rfl rfl (Nat.le_of_ble_eq_true rfl) (ct_X6_isWithin (d := _)) ⟨Nat.le_refl _, Nat.le_refl _⟩ ?_
        refine zv_run 0 (pc' := 27) (lo' := [some (.ref 14), some (.ref 2)]) (st' := [.int (fi_in I 1 1 60)]) (I' := I) (L' := L) (R' := zw_RC h sp la) rfl ?_
        refine zv_if_eq (tgt := 68) (zs_at rfl) (by decide) (fun c27 => ?_) (fun c27 => ?_)
        · have _c := c27
          refine zv_run 1 (pc' := 69) (lo' := [some (.ref 14), some (.ref 2)]) (st' := [.int 0]) (I' := I) (L' := L) (R' := zw_RC h sp la) rfl ?_
          exact zv_zret (zs_at rfl) rfl (Or.inl rfl) ⟨Nat.le_refl _, Nat.le_refl _⟩ (absurd hok (fun q => by first | exact c5 q.1 | exact q.2.1 c16 | exact q.2.2.1 c27 | exact q.2.2.2.1 c38 | exact q.2.2.2.2.1 c53 | exact q.2.2.2.2.2 c65))
        · have _c := c27
          refine zv_run 4 (pc' := 35) (lo' := [some (.ref 14), some (.ref 2)]) (st' := [.int 40, .int 0, .int 2, .ref 2]) (I' := I) (L' := L) (R' := zw_RC h sp la) rfl ?_
          refine zv_cV (M' := mm_X6_isWithin) (ci := 6) (a := 2) (av := [.int 2, .int 0, .int 40]) (st := []) (r := some (.int (fi_in I 2 0 40))) (I' := I) (L' := L) (R' := zw_RC h sp la) rfl zc_5_117 gd_X6_isWithin rfl rfl rfl (Nat.le_of_ble_eq_true rfl) (ct_X6_isWithin (d := _)) ⟨Nat.le_refl _, Nat.le_refl _⟩ ?_
          refine zv_run 0 (pc' := 38) (lo' := [some (.ref 14), some (.ref 2)]) (st' := [.int (fi_in I 2 0 40)]) (I' := I) (L' := L) (R' := zw_RC h sp la) rfl ?_
          refine zv_if_eq (tgt := 68) (zs_at rfl) (by decide) (fun c38 => ?_) (fun c38 => ?_)
          · have _c := c38
            refine zv_run 1 (pc' := 69) (lo' := [some (.ref 14), some (.ref 2)]) (st' := [.int 0]) (I' := I) (L' := L) (R' := zw_RC h sp la) rfl ?_
            exact zv_zret (zs_at rfl) rfl (Or.inl rfl) ⟨Nat.le_refl _, Nat.le_refl _⟩ (absurd hok (fun q => by first | exact c5 q.1 | exact q.2.1 c16 | exact q.2.2.1 c27 | exact q.2.2.2.1 c38 | exact q.2.2.2.2.1 c53 | exact q.2.2.2.2.2 c65))
          · have _c := c38
            refine zv_run 4 (pc' := 45) (lo' := [some (.ref 14), some (.ref 2)]) (st' := [.int 2, .ref 2, .int 3, .ref 2]) (I' := I) (L' := L) (R' := zw_RC h sp la) rfl ?_
            refine zv_cV (M' := mm_X6_number) (ci := 6) (a := 2) (av := [.int 2]) (st := [.int 3, .ref 2]) (r := some (.int (fi_num I 2))) (I' := I) (L' := L) (R' := zw_RC h sp la) rfl zc_5_121 gd_X6_number rfl rfl rfl (Nat.le_of_ble_eq_true rfl) (ct_X6_number (d := _) (I := I)) ⟨Nat.le_refl _, Nat.le_refl _⟩ ?_
            refine zv_run 0 (pc' := 48) (lo' := [some (.ref 14), some (.ref 2)]) (st' := [.int (fi_num I 2), .int 3, .ref 2]) (I' := I) (L' := L) (R' := zw_RC h sp la) rfl ?_
            refine zv_run 1 (pc' := 50) (lo' := [some (.ref 14), some (.ref 2)]) (st' := [.int 95, .int (fi_num I 2), .int 3, .ref 2]) (I' := I) (L' := L) (R' := zw_RC h sp la) rfl ?_
            refine zv_cV (M' := mm_X6_isWithin) (ci := 6) (a := 2) (av := [.int 3, .int (fi_num I 2), .int 95]) (st := []) (r := some (.int (fi_in I 3 (fi_num I 2) 95))) (I' := I) (L' := L) (R' := zw_RC h sp la) rfl zc_5_117 gd_X6_isWithin rfl rfl rfl (Nat.le_of_ble_eq_true rfl) (ct_X6_isWithin (d := _)) ⟨Nat.le_refl _, Nat.le_refl _⟩ ?_
            refine zv_run 0 (pc' := 53) (lo' := [some (.ref 14), some (.ref 2)]) (st' := [.int (fi_in I 3 (fi_num I 2) 95)]) (I' := I) (L' := L) (R' := zw_RC h sp la) rfl ?_
            refine zv_if_eq (tgt := 68) (zs_at rfl) (by decide) (fun c53 => ?_) (fun c53 => ?_)
            · have _c := c53
              refine zv_run 1 (pc' := 69) (lo' := [some (.ref 14), some (.ref 2)]) (st' := [.int 0]) (I' := I) (L' := L) (R' := zw_RC h sp la) rfl ?_
              exact zv_zret (zs_at rfl) rfl (Or.inl rfl) ⟨Nat.le_refl _, Nat.le_refl _⟩ (absurd hok (fun q => by first | exact c5 q.1 | exact q.2.1 c16 | exact q.2.2.1 c27 | exact q.2.2.2.1 c38 | exact q.2.2.2.2.1 c53 | exact q.2.2.2.2.2 c65))
            · have _c := c53
              refine zv_run 4 (pc' := 62) (lo' := [some (.ref 14), some (.ref 2)]) (st' := [.int 999, .int 0, .int 4, .ref 2]) (I' := I) (L' := L) (R' := zw_RC h sp la) rfl ?_
              refine zv_cV (M' := mm_X6_isWithin) (ci := 6) (a := 2) (av := [.int 4, .int 0, .int 999]) (st := []) (r := some (.int (fi_in I 4 0 999))) (I' := I) (L' := L) (R' := zw_RC h sp la) rfl zc_5_117 gd_X6_isWithin rfl rfl rfl (Nat.le_of_ble_eq_true rfl) (ct_X6_isWithin (d := _)) ⟨Nat.le_refl _, Nat.le_refl _⟩ ?_
              refine zv_run 0 (pc' := 65) (lo' := [some (.ref 14), some (.ref 2)]) (st' := [.int (fi_in I 4 0 999)]) (I' := I) (L' := L) (R' := zw_RC h sp la) rfl ?_
              refine zv_if_ne (tgt := 70) (zs_at rfl) (by decide) (fun c65 => ?_) (fun c65 => ?_)
              · have _c := c65
                refine zv_run 3 (pc' := 73) (lo' := [some (.ref 14), some (.ref 2)]) (st' := [.int 0, .ref 2, .ref 14]) (I' := I) (L' := L) (R' := zw_RC h sp la) rfl ?_
                refine zv_cV (M' := mm_X6_number) (ci := 6) (a := 2) (av := [.int 0]) (st := [.ref 14]) (r := some (.int (fi_num I 0))) (I' := I) (L' := L) (R' := zw_RC h sp la) rfl zc_5_121 gd_X6_number rfl rfl rfl (Nat.le_of_ble_eq_true rfl) (ct_X6_number (d := _) (I := I)) ⟨Nat.le_refl _, Nat.le_refl _⟩ ?_
                refine zv_run 0 (pc' := 76) (lo' := [some (.ref 14), some (.ref 2)]) (st' := [.int (fi_num I 0), .ref 14]) (I' := I) (L' := L) (R' := zw_RC h sp la) rfl ?_
                refine zv_run 4 (pc' := 82) (lo' := [some (.ref 14), some (.ref 2)]) (st' := [.int 1, .ref 2, .ref 14]) (I' := (zx_uI I 14 1 (fi_num I 0))) (L' := L) (R' := zw_RC h sp la) rfl ?_
                refine zv_cV (M' := mm_X6_number) (ci := 6) (a := 2) (av := [.int 1]) (st := [.ref 14]) (r := some (.int (fi_num I 1))) (I' := (zx_uI I 14 1 (fi_num I 0))) (L' := L) (R' := zw_RC h sp la) rfl zc_5_121 gd_X6_number rfl rfl rfl (Nat.le_of_ble_eq_true rfl) (ct_X6_number (d := _) (I := (zx_uI I 14 1 (fi_num I 0)))) ⟨Nat.le_refl _, Nat.le_refl _⟩ ?_
                refine zv_run 0 (pc' := 85) (lo' := [some (.ref 14), some (.ref 2)]) (st' := [.int (fi_num I 1), .ref 14]) (I' := (zx_uI I 14 1 (fi_num I 0))) (L' := L) (R' := zw_RC h sp la) rfl ?_
                refine zv_run 4 (pc' := 91) (lo' := [some (.ref 14), some (.ref 2)]) (st' := [.int 2, .ref 2, .ref 14]) (I' := (zx_uI (zx_uI I 14 1 (fi_num I 0)) 14 2 (fi_num I 1))) (L' := L) (R' := zw_RC h sp la) rfl ?_
                refine zv_cV (M' := mm_X6_number) (ci := 6) (a := 2) (av := [.int 2]) (st := [.ref 14]) (r := some (.int (fi_num I 2))) (I' := (zx_uI (zx_uI I 14 1 (fi_num I 0)) 14 2 (fi_num I 1))) (L' := L) (R' := zw_RC h sp la) rfl zc_5_121 gd_X6_number rfl rfl rfl (Nat.le_of_ble_eq_true rfl) (ct_X6_number (d := _) (I := (zx_uI (zx_uI I 14 1 (fi_num I 0)) 14 2 (fi_num I 1)))) ⟨Nat.le_refl _, Nat.le_refl _⟩ ?_
                refine zv_run 0 (pc' := 94) (lo' := [some (.ref 14), some (.ref 2)]) (st' := [.int (fi_num I 2), .ref 14]) (I' := (zx_uI (zx_uI I 14 1 (fi_num I 0)) 14 2 (fi_num I 1))) (L' := L) (R' := zw_RC h sp la) rfl ?_
                refine zv_run 4 (pc' := 100) (lo' := [some (.ref 14), some (.ref 2)]) (st' := [.int 3, .ref 2, .ref 14]) (I' := (zx_uI (zx_uI (zx_uI I 14 1 (fi_num I 0)) 14 2 (fi_num I 1)) 14 3 (fi_num I 2))) (L' := L) (R' := zw_RC h sp la) rfl ?_
                refine zv_cV (M' := mm_X6_number) (ci := 6) (a := 2) (av := [.int 3]) (st := [.ref 14]) (r := some (.int (fi_num I 3))) (I' := (zx_uI (zx_uI (zx_uI I 14 1 (fi_num I 0)) 14 2 (fi_num I 1)) 14 3 (fi_num I 2))) (L' := L) (R' := zw_RC h sp la) rfl zc_5_121 gd_X6_number rfl rfl rfl (Nat.le_of_ble_eq_true rfl) (ct_X6_number (d := _) (I := (zx_uI (zx_uI (zx_uI I 14 1 (fi_num I 0)) 14 2 (fi_num I 1)) 14 3 (fi_num I 2)))) ⟨Nat.le_refl _, Nat.le_refl _⟩ ?_
                refine zv_run 0 (pc' := 103) (lo' := [some (.ref 14), some (.ref 2)]) (st' := [.int (fi_num I 3), .ref 14]) (I' := (zx_uI (zx_uI (zx_uI I 14 1 (fi_num I 0)) 14 2 (fi_num I 1)) 14 3 (fi_num I 2))) (L' := L) (R' := zw_RC h sp la) rfl ?_
                refine zv_run 4 (pc' := 109) (lo' := [some (.ref 14), some (.ref 2)]) (st' := [.int 4, .ref 2, .ref 14]) (I' := (zx_uI (zx_uI (zx_uI (zx_uI I 14 1 (fi_num I 0)) 14 2 (fi_num I 1)) 14 3 (fi_num I 2)) 14 4 (fi_num I 3))) (L' := L) (R' := zw_RC h sp la) rfl ?_
                refine zv_cV (M' := mm_X6_number) (ci := 6) (a := 2) (av := [.int 4]) (st := [.ref 14]) (r := some (.int (fi_num I 4))) (I' := (zx_uI (zx_uI (zx_uI (zx_uI I 14 1 (fi_num I 0)) 14 2 (fi_num I 1)) 14 3 (fi_num I 2)) 14 4 (fi_num I 3))) (L' := L) (R' := zw_RC h sp la) rfl zc_5_121 gd_X6_number rfl rfl rfl (Nat.le_of_ble_eq_true rfl) (ct_X6_number (d := _) (I := (zx_uI (zx_uI (zx_uI (zx_uI I 14 1 (fi_num I 0)) 14 2 (fi_num I 1)) 14 3 (fi_num I 2)) 14 4 (fi_num I 3)))) ⟨Nat.le_refl _, Nat.le_refl _⟩ ?_
                refine zv_run 0 (pc' := 112) (lo' := [some (.ref 14), some (.ref 2)]) (st' := [.int (fi_num I 4), .ref 14]) (I' := (zx_uI (zx_uI (zx_uI (zx_uI I 14 1 (fi_num I 0)) 14 2 (fi_num I 1)) 14 3 (fi_num I 2)) 14 4 (fi_num I 3))) (L' := L) (R' := zw_RC h sp la) rfl ?_
                refine zv_run 5 (pc' := 121) (lo' := [some (.ref 14), some (.ref 2)]) (st' := [.int 1]) (I' := (zx_uI (zx_uI (zx_uI (zx_uI (zx_uI (zx_uI I 14 1 (fi_num I 0)) 14 2 (fi_num I 1)) 14 3 (fi_num I 2)) 14 4 (fi_num I 3)) 14 5 (fi_num I 4)) 14 0 1)) (L' := L) (R' := zw_RC h sp la) rfl ?_
                exact zv_zret (zs_at rfl) rfl (Or.inr rfl) ⟨Nat.le_refl _, Nat.le_refl _⟩ (zw_to rfl rfl rfl rfl)
              · have _c := c65
                refine zv_run 1 (pc' := 69) (lo' := [some (.ref 14), some (.ref 2)]) (st' := [.int 0]) (I' := I) (L' := L) (R' := zw_RC h sp la) rfl ?_
                exact zv_zret (zs_at rfl) rfl (Or.inl rfl) ⟨Nat.le_refl _, Nat.le_refl _⟩ (absurd hok (fun q => by first | exact c5 q.1 | exact q.2.1 c16 | exact q.2.2.1 c27 | exact q.2.2.2.1 c38 | exact q.2.2.2.2.1 c53 | exact q.2.2.2.2.2 c65))
theorem ct_X5_takesStage_no {d : Nat} {I : zx_I} {L : zx_L} {h sp : Nat} {la : Option Nat} {a : Nat}  (ha : a = 4 ∨ a = 14) (hno : ¬ (ti_stage I)) : zx_M0 mm_X5_takesStage (d + 2) 0 0 [.ref a, .ref 2] zw_SC I L (zw_RC h sp la) (zw_ret (some (.int 0)) zw_SC I L (zw_RC h sp la)) := by
  rcases ha with rfl | rfl
  · refine zv_entry gd_X5_takesStage (Nat.le_of_ble_eq_true rfl) ?_
    refine zv_run 3 (pc' := 5) (lo' := [some (.ref 4), some (.ref 2)]) (st' := [.int 3, .int (I 2 2)]) (I' := I) (L' := L) (R' := zw_RC h sp la) rfl ?_
    refine zv_icmp_ne (tgt := 41) (zs_at rfl) (by decide) (fun c5 => ?_) (fun c5 => ?_)
    · have _c := c5
      refine zv_run 1 (pc' := 42) (lo' := [some (.ref 4), some (.ref 2)]) (st' := [.int 0]) (I' := I) (L' := L) (R' := zw_RC h sp la) rfl ?_
      exact zv_zret (zs_at rfl) rfl (Or.inl rfl) ⟨Nat.le_refl _, Nat.le_refl _⟩ (zw_to rfl rfl rfl rfl)
    · have _c := c5
      refine zv_run 4 (pc' := 12) (lo' := [some (.ref 4), some (.ref 2)]) (st' := [.int 3, .int 1, .int 0, .ref 2]) (I' := I) (L' := L) (R' := zw_RC h sp la) rfl ?_
      refine zv_cV (M' := mm_X6_isWithin) (ci := 6) (a := 2) (av := [.int 0, .int 1, .int 3]) (st := []) (r := some (.int (fi_in I 0 1 3))) (I' := I) (L' := L) (R' := zw_RC h sp la) rfl zc_5_117 gd_X6_isWithin rfl rfl rfl (Nat.le_of_ble_eq_true rfl) (ct_X6_isWithin (d := _)) ⟨Nat.le_refl _, Nat.le_refl _⟩ ?_
      refine zv_run 0 (pc' := 15) (lo' := [some (.ref 4), some (.ref 2)]) (st' := [.int (fi_in I 0 1 3)]) (I' := I) (L' := L) (R' := zw_RC h sp la) rfl ?_
      refine zv_if_eq (tgt := 41) (zs_at rfl) (by decide) (fun c15 => ?_) (fun c15 => ?_)
      · have _c := c15
        refine zv_run 1 (pc' := 42) (lo' := [some (.ref 4), some (.ref 2)]) (st' := [.int 0]) (I' := I) (L' := L) (R' := zw_RC h sp la) rfl ?_
        exact zv_zret (zs_at rfl) rfl (Or.inl rfl) ⟨Nat.le_refl _, Nat.le_refl _⟩ (zw_to rfl rfl rfl rfl)
      · have _c := c15
        refine zv_run 4 (pc' := 24) (lo' := [some (.ref 4), some (.ref 2)]) (st' := [.int 9999, .int 0, .int 1, .ref 2]) (I' := I) (L' := L) (R' := zw_RC h sp la) rfl ?_
        refine zv_cV (M' := mm_X6_isWithin) (ci := 6) (a := 2) (av := [.int 1, .int 0, .int 9999]) (st := []) (r := some (.int (fi_in I 1 0 9999))) (I' := I) (L' := L) (R' := zw_RC h sp la) rfl zc_5_117 gd_X6_isWithin rfl rfl rfl (Nat.le_of_ble_eq_true rfl) (ct_X6_isWithin (d := _)) ⟨Nat.le_refl _, Nat.le_refl _⟩ ?_
        refine zv_run 0 (pc' := 27) (lo' := [some (.ref 4), some (.ref 2)]) (st' := [.int (fi_in I 1 0 9999)]) (I' := I) (L' := L) (R' := zw_RC h sp la) rfl ?_
        refine zv_if_eq (tgt := 41) (zs_at rfl) (by decide) (fun c27 => ?_) (fun c27 => ?_)
        · have _c := c27
          refine zv_run 1 (pc' := 42) (lo' := [some (.ref 4), some (.ref 2)]) (st' := [.int 0]) (I' := I) (L' := L) (R' := zw_RC h sp la) rfl ?_
          exact zv_zret (zs_at rfl) rfl (Or.inl rfl) ⟨Nat.le_refl _, Nat.le_refl _⟩ (zw_to rfl rfl rfl rfl)
        · have _c := c27
          refine zv_run 4 (pc' := 35) (lo' := [some (.ref 4), some (.ref 2)]) (st' := [.int 30, .int 1, .int 2, .ref 2]) (I' := I) (L' := L) (R' := zw_RC h sp la) rfl ?_
          refine zv_cV (M' := mm_X6_isWithin) (ci := 6) (a := 2) (av := [.int 2, .int 1, .int 30]) (st := []) (r := some (.int (fi_in I 2 1 30))) (I' := I) (L' := L) (R' := zw_RC h sp la) rfl zc_5_117 gd_X6_isWithin rfl rfl rfl (Nat.le_of_ble_eq_true rfl) (ct_X6_isWithin (d := _)) ⟨Nat.le_refl _, Nat.le_refl _⟩ ?_
          refine zv_run 0 (pc' := 38) (lo' := [some (.ref 4), some (.ref 2)]) (st' := [.int (fi_in I 2 1 30)]) (I' := I) (L' := L) (R' := zw_RC h sp la) rfl ?_
          refine zv_if_ne (tgt := 43) (zs_at rfl) (by decide) (fun c38 => ?_) (fun c38 => ?_)
          · have _c := c38
            exact absurd ⟨c5, c15, c27, c38⟩ hno
          · have _c := c38
            refine zv_run 1 (pc' := 42) (lo' := [some (.ref 4), some (.ref 2)]) (st' := [.int 0]) (I' := I) (L' := L) (R' := zw_RC h sp la) rfl ?_
            exact zv_zret (zs_at rfl) rfl (Or.inl rfl) ⟨Nat.le_refl _, Nat.le_refl _⟩ (zw_to rfl rfl rfl rfl)
  · refine zv_entry gd_X5_takesStage (Nat.le_of_ble_eq_true rfl) ?_
    refine zv_run 3 (pc' := 5) (lo' := [some (.ref 14), some (.ref 2)]) (st' := [.int 3, .int (I 2 2)]) (I' := I) (L' := L) (R' := zw_RC h sp la) rfl ?_
    refine zv_icmp_ne (tgt := 41) (zs_at rfl) (by decide) (fun c5 => ?_) (fun c5 => ?_)
    · have _c := c5
      refine zv_run 1 (pc' := 42) (lo' := [some (.ref 14), some (.ref 2)]) (st' := [.int 0]) (I' := I) (L' := L) (R' := zw_RC h sp la) rfl ?_
      exact zv_zret (zs_at rfl) rfl (Or.inl rfl) ⟨Nat.le_refl _, Nat.le_refl _⟩ (zw_to rfl rfl rfl rfl)
    · have _c := c5
      refine zv_run 4 (pc' := 12) (lo' := [some (.ref 14), some (.ref 2)]) (st' := [.int 3, .int 1, .int 0, .ref 2]) (I' := I) (L' := L) (R' := zw_RC h sp la) rfl ?_
      refine zv_cV (M' := mm_X6_isWithin) (ci := 6) (a := 2) (av := [.int 0, .int 1, .int 3]) (st := []) (r := some (.int (fi_in I 0 1 3))) (I' := I) (L' := L) (R' := zw_RC h sp la) rfl zc_5_117 gd_X6_isWithin rfl rfl rfl (Nat.le_of_ble_eq_true rfl) (ct_X6_isWithin (d := _)) ⟨Nat.le_refl _, Nat.le_refl _⟩ ?_
      refine zv_run 0 (pc' := 15) (lo' := [some (.ref 14), some (.ref 2)]) (st' := [.int (fi_in I 0 1 3)]) (I' := I) (L' := L) (R' := zw_RC h sp la) rfl ?_
      refine zv_if_eq (tgt := 41) (zs_at rfl) (by decide) (fun c15 => ?_) (fun c15 => ?_)
      · have _c := c15
        refine zv_run 1 (pc' := 42) (lo' := [some (.ref 14), some (.ref 2)]) (st' := [.int 0]) (I' := I) (L' := L) (R' := zw_RC h sp la) rfl ?_
        exact zv_zret (zs_at rfl) rfl (Or.inl rfl) ⟨Nat.le_refl _, Nat.le_refl _⟩ (zw_to rfl rfl rfl rfl)
      · have _c := c15
        refine zv_run 4 (pc' := 24) (lo' := [some (.ref 14), some (.ref 2)]) (st' := [.int 9999, .int 0, .int 1, .ref 2]) (I' := I) (L' := L) (R' := zw_RC h sp la) rfl ?_
        refine zv_cV (M' := mm_X6_isWithin) (ci := 6) (a := 2) (av := [.int 1, .int 0, .int 9999]) (st := []) (r := some (.int (fi_in I 1 0 9999))) (I' := I) (L' := L) (R' := zw_RC h sp la) rfl zc_5_117 gd_X6_isWithin rfl rfl rfl (Nat.le_of_ble_eq_true rfl) (ct_X6_isWithin (d := _)) ⟨Nat.le_refl _, Nat.le_refl _⟩ ?_
        refine zv_run 0 (pc' := 27) (lo' := [some (.ref 14), some (.ref 2)]) (st' := [.int (fi_in I 1 0 9999)]) (I' := I) (L' := L) (R' := zw_RC h sp la) rfl ?_
        refine zv_if_eq (tgt := 41) (zs_at rfl) (by decide) (fun c27 => ?_) (fun c27 => ?_)
        · have _c := c27
          refine zv_run 1 (pc' := 42) (lo' := [some (.ref 14), some (.ref 2)]) (st' := [.int 0]) (I' := I) (L' := L) (R' := zw_RC h sp la) rfl ?_
          exact zv_zret (zs_at rfl) rfl (Or.inl rfl) ⟨Nat.le_refl _, Nat.le_refl _⟩ (zw_to rfl rfl rfl rfl)
        · have _c := c27
          refine zv_run 4 (pc' := 35) (lo' := [some (.ref 14), some (.ref 2)]) (st' := [.int 30, .int 1, .int 2, .ref 2]) (I' := I) (L' := L) (R' := zw_RC h sp la) rfl ?_
          refine zv_cV (M' := mm_X6_isWithin) (ci := 6) (a := 2) (av := [.int 2, .int 1, .int 30]) (st := []) (r := some (.int (fi_in I 2 1 30))) (I' := I) (L' := L) (R' := zw_RC h sp la) rfl zc_5_117 gd_X6_isWithin rfl rfl rfl (Nat.le_of_ble_eq_true rfl) (ct_X6_isWithin (d := _)) ⟨Nat.le_refl _, Nat.le_refl _⟩ ?_
          refine zv_run 0 (pc' := 38) (lo' := [some (.ref 14), some (.ref 2)]) (st' := [.int (fi_in I 2 1 30)]) (I' := I) (L' := L) (R' := zw_RC h sp la) rfl ?_
          refine zv_if_ne (tgt := 43) (zs_at rfl) (by decide) (fun c38 => ?_) (fun c38 => ?_)
          · have _c := c38
            exact absurd ⟨c5, c15, c27, c38⟩ hno
          · have _c := c38
            refine zv_run 1 (pc' := 42) (lo' := [some (.ref 14), some (.ref 2)]) (st' := [.int 0]) (I' := I) (L' := L) (R' := zw_RC h sp la) rfl ?_
            exact zv_zret (zs_at rfl) rfl (Or.inl rfl) ⟨Nat.le_refl _, Nat.le_refl _⟩ (zw_to rfl rfl rfl rfl)
theorem ct_X5_takesStage {d : Nat} {I : zx_I} {L : zx_L} {h sp : Nat} {la : Option Nat} {a : Nat}  (ha : a = 4 ∨ a = 14) (hok : (ti_stage I)) : zx_M0 mm_X5_takesStage (d + 2) 0 0 [.ref a, .ref 2] zw_SC I L (zw_RC h sp la) (zw_ret (some (.int 1)) zw_SC (tm_stage I a) L (zw_RC h sp la)) := by
  rcases ha with rfl | rfl
  · refine zv_entry gd_X5_takesStage (Nat.le_of_ble_eq_true rfl) ?_
    refine zv_run 3 (pc' := 5) (lo' := [some (.ref 4), some (.ref 2)]) (st' := [.int 3, .int (I 2 2)]) (I' := I) (L' := L) (R' := zw_RC h sp la) rfl ?_
    refine zv_icmp_ne (tgt := 41) (zs_at rfl) (by decide) (fun c5 => ?_) (fun c5 => ?_)
    · have _c := c5
      refine zv_run 1 (pc' := 42) (lo' := [some (.ref 4), some (.ref 2)]) (st' := [.int 0]) (I' := I) (L' := L) (R' := zw_RC h sp la) rfl ?_
      exact zv_zret (zs_at rfl) rfl (Or.inl rfl) ⟨Nat.le_refl _, Nat.le_refl _⟩ (absurd hok (fun q => by first | exact c5 q.1 | exact q.2.1 c15 | exact q.2.2.1 c27 | exact q.2.2.2 c38))
    · have _c := c5
      refine zv_run 4 (pc' := 12) (lo' := [some (.ref 4), some (.ref 2)]) (st' := [.int 3, .int 1, .int 0, .ref 2]) (I' := I) (L' := L) (R' := zw_RC h sp la) rfl ?_
      refine zv_cV (M' := mm_X6_isWithin) (ci := 6) (a := 2) (av := [.int 0, .int 1, .int 3]) (st := []) (r := some (.int (fi_in I 0 1 3))) (I' := I) (L' := L) (R' := zw_RC h sp la) rfl zc_5_117 gd_X6_isWithin rfl rfl rfl (Nat.le_of_ble_eq_true rfl) (ct_X6_isWithin (d := _)) ⟨Nat.le_refl _, Nat.le_refl _⟩ ?_
      refine zv_run 0 (pc' := 15) (lo' := [some (.ref 4), some (.ref 2)]) (st' := [.int (fi_in I 0 1 3)]) (I' := I) (L' := L) (R' := zw_RC h sp la) rfl ?_
      refine zv_if_eq (tgt := 41) (zs_at rfl) (by decide) (fun c15 => ?_) (fun c15 => ?_)
      · have _c := c15
        refine zv_run 1 (pc' := 42) (lo' := [some (.ref 4), some (.ref 2)]) (st' := [.int 0]) (I' := I) (L' := L) (R' := zw_RC h sp la) rfl ?_
        exact zv_zret (zs_at rfl) rfl (Or.inl rfl) ⟨Nat.le_refl _, Nat.le_refl _⟩ (absurd hok (fun q => by first | exact c5 q.1 | exact q.2.1 c15 | exact q.2.2.1 c27 | exact q.2.2.2 c38))
      · have _c := c15
        refine zv_run 4 (pc' := 24) (lo' := [some (.ref 4), some (.ref 2)]) (st' := [.int 9999, .int 0, .int 1, .ref 2]) (I' := I) (L' := L) (R' := zw_RC h sp la) rfl ?_
        refine zv_cV (M' := mm_X6_isWithin) (ci := 6) (a := 2) (av := [.int 1, .int 0, .int 9999]) (st := []) (r := some (.int (fi_in I 1 0 9999))) (I' := I) (L' := L) (R' := zw_RC h sp la) rfl zc_5_117 gd_X6_isWithin rfl rfl rfl (Nat.le_of_ble_eq_true rfl) (ct_X6_isWithin (d := _)) ⟨Nat.le_refl _, Nat.le_refl _⟩ ?_
        refine zv_run 0 (pc' := 27) (lo' := [some (.ref 4), some (.ref 2)]) (st' := [.int (fi_in I 1 0 9999)]) (I' := I) (L' := L) (R' := zw_RC h sp la) rfl ?_
        refine zv_if_eq (tgt := 41) (zs_at rfl) (by decide) (fun c27 => ?_) (fun c27 => ?_)
        · have _c := c27
          refine zv_run 1 (pc' := 42) (lo' := [some (.ref 4), some (.ref 2)]) (st' := [.int 0]) (I' := I) (L' := L) (R' := zw_RC h sp la) rfl ?_
          exact zv_zret (zs_at rfl) rfl (Or.inl rfl) ⟨Nat.le_refl _, Nat.le_refl _⟩ (absurd hok (fun q => by first | exact c5 q.1 | exact q.2.1 c15 | exact q.2.2.1 c27 | exact q.2.2.2 c38))
        · have _c := c27
          refine zv_run 4 (pc' := 35) (lo' := [some (.ref 4), some (.ref 2)]) (st' := [.int 30, .int 1, .int 2, .ref 2]) (I' := I) (L' := L) (R' := zw_RC h sp la) rfl ?_
          refine zv_cV (M' := mm_X6_isWithin) (ci := 6) (a := 2) (av := [.int 2, .int 1, .int 30]) (st := []) (r := some (.int (fi_in I 2 1 30))) (I' := I) (L' := L) (R' := zw_RC h sp la) rfl zc_5_117 gd_X6_isWithin rfl rfl rfl (Nat.le_of_ble_eq_true rfl) (ct_X6_isWithin (d := _)) ⟨Nat.le_refl _, Nat.le_refl _⟩ ?_
          refine zv_run 0 (pc' := 38) (lo' := [some (.ref 4), some (.ref 2)]) (st' := [.int (fi_in I 2 1 30)]) (I' := I) (L' := L) (R' := zw_RC h sp la) rfl ?_
          refine zv_if_ne (tgt := 43) (zs_at rfl) (by decide) (fun c38 => ?_) (fun c38 => ?_)
          · have _c := c38
            refine zv_run 4 (pc' := 49) (lo' := [some (.ref 4), some (.ref 2)]) (st' := [.int 0, .ref 2, .ref 5]) (I' := I) (L' := L) (R' := zw_RC h sp la) rfl ?_
            refine zv_cV (M' := mm_X6_number) (ci := 6) (a := 2) (av := [.int 0]) (st := [.ref 5]) (r := some (.int (fi_num I 0))) (I' := I) (L' := L) (R' := zw_RC h sp la) rfl zc_5_121 gd_X6_number rfl rfl rfl (Nat.le_of_ble_eq_true rfl) (ct_X6_number (d := _) (I := I)) ⟨Nat.le_refl _, Nat.le_refl _⟩ ?_
            refine zv_run 0 (pc' := 52) (lo' := [some (.ref 4), some (.ref 2)]) (st' := [.int (fi_num I 0), .ref 5]) (I' := I) (L' := L) (R' := zw_RC h sp la) rfl ?_
            refine zv_run 2 (pc' := 54) (lo' := [some (.ref 4), some (.ref 2)]) (st' := [.int 1, .ref 2, .int (fi_num I 0), .ref 5]) (I' := I) (L' := L) (R' := zw_RC h sp la) rfl ?_
            refine zv_cV (M' := mm_X6_number) (ci := 6) (a := 2) (av := [.int 1]) (st := [.int (fi_num I 0), .ref 5]) (r := some (.int (fi_num I 1))) (I' := I) (L' := L) (R' := zw_RC h sp la) rfl zc_5_121 gd_X6_number rfl rfl rfl (Nat.le_of_ble_eq_true rfl) (ct_X6_number (d := _) (I := I)) ⟨Nat.le_refl _, Nat.le_refl _⟩ ?_
            refine zv_run 0 (pc' := 57) (lo' := [some (.ref 4), some (.ref 2)]) (st' := [.int (fi_num I 1), .int (fi_num I 0), .ref 5]) (I' := I) (L' := L) (R' := zw_RC h sp la) rfl ?_
            refine zv_iast (zs_at rfl) rfl (by obtain ⟨q1, q2⟩ := fi_in_of hok.2.1; exact zin2 q1 q2 (by decide) (by decide)) ?_
            refine zv_run 4 (pc' := 64) (lo' := [some (.ref 4), some (.ref 2)]) (st' := [.int 0, .ref 2, .ref 6]) (I' := (zx_uI I 5 ((fi_num I 0).toNatClampNeg) (fi_num I 1))) (L' := L) (R' := zw_RC h sp la) rfl ?_
            refine zv_cV (M' := mm_X6_number) (ci := 6) (a := 2) (av := [.int 0]) (st := [.ref 6]) (r := some (.int (fi_num I 0))) (I' := (zx_uI I 5 ((fi_num I 0).toNatClampNeg) (fi_num I 1))) (L' := L) (R' := zw_RC h sp la) rfl zc_5_121 gd_X6_number rfl rfl rfl (Nat.le_of_ble_eq_true rfl) (ct_X6_number (d := _) (I := (zx_uI I 5 ((fi_num I 0).toNatClampNeg) (fi_num I 1)))) ⟨Nat.le_refl _, Nat.le_refl _⟩ ?_
            refine zv_run 0 (pc' := 67) (lo' := [some (.ref 4), some (.ref 2)]) (st' := [.int (fi_num I 0), .ref 6]) (I' := (zx_uI I 5 ((fi_num I 0).toNatClampNeg) (fi_num I 1))) (L' := L) (R' := zw_RC h sp la) rfl ?_
            refine zv_run 2 (pc' := 69) (lo' := [some (.ref 4), some (.ref 2)]) (st' := [.int 2, .ref 2, .int (fi_num I 0), .ref 6]) (I' := (zx_uI I 5 ((fi_num I 0).toNatClampNeg) (fi_num I 1))) (L' := L) (R' := zw_RC h sp la) rfl ?_
            refine zv_cV (M' := mm_X6_number) (ci := 6) (a := 2) (av := [.int 2]) (st := [.int (fi_num I 0), .ref 6]) (r := some (.int (fi_num I 2))) (I' := (zx_uI I 5 ((fi_num I 0).toNatClampNeg) (fi_num I 1))) (L' := L) (R' := zw_RC h sp la) rfl zc_5_121 gd_X6_number rfl rfl rfl (Nat.le_of_ble_eq_true rfl) (ct_X6_number (d := _) (I := (zx_uI I 5 ((fi_num I 0).toNatClampNeg) (fi_num I 1)))) ⟨Nat.le_refl _, Nat.le_refl _⟩ ?_
            refine zv_run 0 (pc' := 72) (lo' := [some (.ref 4), some (.ref 2)]) (st' := [.int (fi_num I 2), .int (fi_num I 0), .ref 6]) (I' := (zx_uI I 5 ((fi_num I 0).toNatClampNeg) (fi_num I 1))) (L' := L) (R' := zw_RC h sp la) rfl ?_
            refine zv_iast (zs_at rfl) rfl (by obtain ⟨q1, q2⟩ := fi_in_of hok.2.1; exact zin2 q1 q2 (by decide) (by decide)) ?_
            refine zv_run 1 (pc' := 74) (lo' := [some (.ref 4), some (.ref 2)]) (st' := [.int 1]) (I' := (zx_uI (zx_uI I 5 ((fi_num I 0).toNatClampNeg) (fi_num I 1)) 6 ((fi_num I 0).toNatClampNeg) (fi_num I 2))) (L' := L) (R' := zw_RC h sp la) rfl ?_
            exact zv_zret (zs_at rfl) rfl (Or.inr rfl) ⟨Nat.le_refl _, Nat.le_refl _⟩ (zw_to rfl rfl rfl rfl)
          · have _c := c38
            refine zv_run 1 (pc' := 42) (lo' := [some (.ref 4), some (.ref 2)]) (st' := [.int 0]) (I' := I) (L' := L) (R' := zw_RC h sp la) rfl ?_
            exact zv_zret (zs_at rfl) rfl (Or.inl rfl) ⟨Nat.le_refl _, Nat.le_refl _⟩ (absurd hok (fun q => by first | exact c5 q.1 | exact q.2.1 c15 | exact q.2.2.1 c27 | exact q.2.2.2 c38))
  · refine zv_entry gd_X5_takesStage (Nat.le_of_ble_eq_true rfl) ?_
    refine zv_run 3 (pc' := 5) (lo' := [some (.ref 14), some (.ref 2)]) (st' := [.int 3, .int (I 2 2)]) (I' := I) (L' := L) (R' := zw_RC h sp la) rfl ?_
    refine zv_icmp_ne (tgt := 41) (zs_at rfl) (by decide) (fun c5 => ?_) (fun c5 => ?_)
    · have _c := c5
      refine zv_run 1 (pc' := 42) (lo' := [some (.ref 14), some (.ref 2)]) (st' := [.int 0]) (I' := I) (L' := L) (R' := zw_RC h sp la) rfl ?_
      exact zv_zret (zs_at rfl) rfl (Or.inl rfl) ⟨Nat.le_refl _, Nat.le_refl _⟩ (absurd hok (fun q => by first | exact c5 q.1 | exact q.2.1 c15 | exact q.2.2.1 c27 | exact q.2.2.2 c38))
    · have _c := c5
      refine zv_run 4 (pc' := 12) (lo' := [some (.ref 14), some (.ref 2)]) (st' := [.int 3, .int 1, .int 0, .ref 2]) (I' := I) (L' := L) (R' := zw_RC h sp la) rfl ?_
      refine zv_cV (M' := mm_X6_isWithin) (ci := 6) (a := 2) (av := [.int 0, .int 1, .int 3]) (st := []) (r := some (.int (fi_in I 0 1 3))) (I' := I) (L' := L) (R' := zw_RC h sp la) rfl zc_5_117 gd_X6_isWithin rfl rfl rfl (Nat.le_of_ble_eq_true rfl) (ct_X6_isWithin (d := _)) ⟨Nat.le_refl _, Nat.le_refl _⟩ ?_
      refine zv_run 0 (pc' := 15) (lo' := [some (.ref 14), some (.ref 2)]) (st' := [.int (fi_in I 0 1 3)]) (I' := I) (L' := L) (R' := zw_RC h sp la) rfl ?_
      refine zv_if_eq (tgt := 41) (zs_at rfl) (by decide) (fun c15 => ?_) (fun c15 => ?_)
      · have _c := c15
        refine zv_run 1 (pc' := 42) (lo' := [some (.ref 14), some (.ref 2)]) (st' := [.int 0]) (I' := I) (L' := L) (R' := zw_RC h sp la) rfl ?_
        exact zv_zret (zs_at rfl) rfl (Or.inl rfl) ⟨Nat.le_refl _, Nat.le_refl _⟩ (absurd hok (fun q => by first | exact c5 q.1 | exact q.2.1 c15 | exact q.2.2.1 c27 | exact q.2.2.2 c38))
      · have _c := c15
        refine zv_run 4 (pc' := 24) (lo' := [some (.ref 14), some (.ref 2)]) (st' := [.int 9999, .int 0, .int 1, .ref 2]) (I' := I) (L' := L) (R' := zw_RC h sp la) rfl ?_
        refine zv_cV (M' := mm_X6_isWithin) (ci := 6) (a := 2) (av := [.int 1, .int 0, .int 9999]) (st := []) (r := some (.int (fi_in I 1 0 9999))) (I' := I) (L' := L) (R' := zw_RC h sp la) rfl zc_5_117 gd_X6_isWithin rfl rfl rfl (Nat.le_of_ble_eq_true rfl) (ct_X6_isWithin (d := _)) ⟨Nat.le_refl _, Nat.le_refl _⟩ ?_
        refine zv_run 0 (pc' := 27) (lo' := [some (.ref 14), some (.ref 2)]) (st' := [.int (fi_in I 1 0 9999)]) (I' := I) (L' := L) (R' := zw_RC h sp la) rfl ?_
        refine zv_if_eq (tgt := 41) (zs_at rfl) (by decide) (fun c27 => ?_) (fun c27 => ?_)
        · have _c := c27
          refine zv_run 1 (pc' := 42) (lo' := [some (.ref 14), some (.ref 2)]) (st' := [.int 0]) (I' := I) (L' := L) (R' := zw_RC h sp la) rfl ?_
          exact zv_zret (zs_at rfl) rfl (Or.inl rfl) ⟨Nat.le_refl _, Nat.le_refl _⟩ (absurd hok (fun q => by first | exact c5 q.1 | exact q.2.1 c15 | exact q.2.2.1 c27 | exact q.2.2.2 c38))
        · have _c := c27
          refine zv_run 4 (pc' := 35) (lo' := [some (.ref 14), some (.ref 2)]) (st' := [.int 30, .int 1, .int 2, .ref 2]) (I' := I) (L' := L) (R' := zw_RC h sp la) rfl ?_
          refine zv_cV (M' := mm_X6_isWithin) (ci := 6) (a := 2) (av := [.int 2, .int 1, .int 30]) (st := []) (r := some (.int (fi_in I 2 1 30))) (I' := I) (L' := L) (R' := zw_RC h sp la) rfl zc_5_117 gd_X6_isWithin rfl rfl rfl (Nat.le_of_ble_eq_true rfl) (ct_X6_isWithin (d := _)) ⟨Nat.le_refl _, Nat.le_refl _⟩ ?_
          refine zv_run 0 (pc' := 38) (lo' := [some (.ref 14), some (.ref 2)]) (st' := [.int (fi_in I 2 1 30)]) (I' := I) (L' := L) (R' := zw_RC h sp la) rfl ?_
          refine zv_if_ne (tgt := 43) (zs_at rfl) (by decide) (fun c38 => ?_) (fun c38 => ?_)
          · have _c := c38
            refine zv_run 4 (pc' := 49) (lo' := [some (.ref 14), some (.ref 2)]) (st' := [.int 0, .ref 2, .ref 15]) (I' := I) (L' := L) (R' := zw_RC h sp la) rfl ?_
            refine zv_cV (M' := mm_X6_number) (ci := 6) (a := 2) (av := [.int 0]) (st := [.ref 15]) (r := some (.int (fi_num I 0))) (I' := I) (L' := L) (R' := zw_RC h sp la) rfl zc_5_121 gd_X6_number rfl rfl rfl (Nat.le_of_ble_eq_true rfl) (ct_X6_number (d := _) (I := I)) ⟨Nat.le_refl _, Nat.le_refl _⟩ ?_
            refine zv_run 0 (pc' := 52) (lo' := [some (.ref 14), some (.ref 2)]) (st' := [.int (fi_num I 0), .ref 15]) (I' := I) (L' := L) (R' := zw_RC h sp la) rfl ?_
            refine zv_run 2 (pc' := 54) (lo' := [some (.ref 14), some (.ref 2)]) (st' := [.int 1, .ref 2, .int (fi_num I 0), .ref 15]) (I' := I) (L' := L) (R' := zw_RC h sp la) rfl ?_
            refine zv_cV (M' := mm_X6_number) (ci := 6) (a := 2) (av := [.int 1]) (st := [.int (fi_num I 0), .ref 15]) (r := some (.int (fi_num I 1))) (I' := I) (L' := L) (R' := zw_RC h sp la) rfl zc_5_121 gd_X6_number rfl rfl rfl (Nat.le_of_ble_eq_true rfl) (ct_X6_number (d := _) (I := I)) ⟨Nat.le_refl _, Nat.le_refl _⟩ ?_
            refine zv_run 0 (pc' := 57) (lo' := [some (.ref 14), some (.ref 2)]) (st' := [.int (fi_num I 1), .int (fi_num I 0), .ref 15]) (I' := I) (L' := L) (R' := zw_RC h sp la) rfl ?_
            refine zv_iast (zs_at rfl) rfl (by obtain ⟨q1, q2⟩ := fi_in_of hok.2.1; exact zin2 q1 q2 (by decide) (by decide)) ?_
            refine zv_run 4 (pc' := 64) (lo' := [some (.ref 14), some (.ref 2)]) (st' := [.int 0, .ref 2, .ref 16]) (I' := (zx_uI I 15 ((fi_num I 0).toNatClampNeg) (fi_num I 1))) (L' := L) (R' := zw_RC h sp la) rfl ?_
            refine zv_cV (M' := mm_X6_number) (ci := 6) (a := 2) (av := [.int 0]) (st := [.ref 16]) (r := some (.int (fi_num I 0))) (I' := (zx_uI I 15 ((fi_num I 0).toNatClampNeg) (fi_num I 1))) (L' := L) (R' := zw_RC h sp la) rfl zc_5_121 gd_X6_number rfl rfl rfl (Nat.le_of_ble_eq_true rfl) (ct_X6_number (d := _) (I := (zx_uI I 15 ((fi_num I 0).toNatClampNeg) (fi_num I 1)))) ⟨Nat.le_refl _, Nat.le_refl _⟩ ?_
            refine zv_run 0 (pc' := 67) (lo' := [some (.ref 14), some (.ref 2)]) (st' := [.int (fi_num I 0), .ref 16]) (I' := (zx_uI I 15 ((fi_num I 0).toNatClampNeg) (fi_num I 1))) (L' := L) (R' := zw_RC h sp la) rfl ?_
            refine zv_run 2 (pc' := 69) (lo' := [some (.ref 14), some (.ref 2)]) (st' := [.int 2, .ref 2, .int (fi_num I 0), .ref 16]) (I' := (zx_uI I 15 ((fi_num I 0).toNatClampNeg) (fi_num I 1))) (L' := L) (R' := zw_RC h sp la) rfl ?_
            refine zv_cV (M' := mm_X6_number) (ci := 6) (a := 2) (av := [.int 2]) (st := [.int (fi_num I 0), .ref 16]) (r := some (.int (fi_num I 2))) (I' := (zx_uI I 15 ((fi_num I 0).toNatClampNeg) (fi_num I 1))) (L' := L) (R' := zw_RC h sp la) rfl zc_5_121 gd_X6_number rfl rfl rfl (Nat.le_of_ble_eq_true rfl) (ct_X6_number (d := _) (I := (zx_uI I 15 ((fi_num I 0).toNatClampNeg) (fi_num I 1)))) ⟨Nat.le_refl _, Nat.le_refl _⟩ ?_
            refine zv_run 0 (pc' := 72) (lo' := [some (.ref 14), some (.ref 2)]) (st' := [.int (fi_num I 2), .int (fi_num I 0), .ref 16]) (I' := (zx_uI I 15 ((fi_num I 0).toNatClampNeg) (fi_num I 1))) (L' := L) (R' := zw_RC h sp la) rfl ?_
            refine zv_iast (zs_at rfl) rfl (by obtain ⟨q1, q2⟩ := fi_in_of hok.2.1; exact zin2 q1 q2 (by decide) (by decide)) ?_
            refine zv_run 1 (pc' := 74) (lo' := [some (.ref 14), some (.ref 2)]) (st' := [.int 1]) (I' := (zx_uI (zx_uI I 15 ((fi_num I 0).toNatClampNeg) (fi_num I 1)) 16 ((fi_num I 0).toNatClampNeg) (fi_num I 2))) (L' := L) (R' := zw_RC h sp la) rfl ?_
            exact zv_zret (zs_at rfl) rfl (Or.inr rfl) ⟨Nat.le_refl _, Nat.le_refl _⟩ (zw_to rfl rfl rfl rfl)
          · have _c := c38
            refine zv_run 1 (pc' := 42) (lo' := [some (.ref 14), some (.ref 2)]) (st' := [.int 0]) (I' := I) (L' := L) (R' := zw_RC h sp la) rfl ?_
            exact zv_zret (zs_at rfl) rfl (Or.inl rfl) ⟨Nat.le_refl _, Nat.le_refl _⟩ (absurd hok (fun q => by first | exact c5 q.1 | exact q.2.1 c15 | exact q.2.2.1 c27 | exact q.2.2.2 c38))
theorem ct_X5_takesKettle_no {d : Nat} {I : zx_I} {L : zx_L} {h sp : Nat} {la : Option Nat} {a : Nat}  (ha : a = 4 ∨ a = 14) (hno : ¬ (ti_kettle I)) : zx_M0 mm_X5_takesKettle (d + 2) 0 0 [.ref a, .ref 2] zw_SC I L (zw_RC h sp la) (zw_ret (some (.int 0)) zw_SC I L (zw_RC h sp la)) := by
  rcases ha with rfl | rfl
  · refine zv_entry gd_X5_takesKettle (Nat.le_of_ble_eq_true rfl) ?_
    refine zv_run 3 (pc' := 5) (lo' := [some (.ref 4), some (.ref 2)]) (st' := [.int 2, .int (I 2 2)]) (I' := I) (L' := L) (R' := zw_RC h sp la) rfl ?_
    refine zv_icmp_ne (tgt := 30) (zs_at rfl) (by decide) (fun c5 => ?_) (fun c5 => ?_)
    · have _c := c5
      refine zv_run 1 (pc' := 31) (lo' := [some (.ref 4), some (.ref 2)]) (st' := [.int 0]) (I' := I) (L' := L) (R' := zw_RC h sp la) rfl ?_
      exact zv_zret (zs_at rfl) rfl (Or.inl rfl) ⟨Nat.le_refl _, Nat.le_refl _⟩ (zw_to rfl rfl rfl rfl)
    · have _c := c5
      refine zv_run 4 (pc' := 13) (lo' := [some (.ref 4), some (.ref 2)]) (st' := [.int 20, .int 0, .int 0, .ref 2]) (I' := I) (L' := L) (R' := zw_RC h sp la) rfl ?_
      refine zv_cV (M' := mm_X6_isWithin) (ci := 6) (a := 2) (av := [.int 0, .int 0, .int 20]) (st := []) (r := some (.int (fi_in I 0 0 20))) (I' := I) (L' := L) (R' := zw_RC h sp la) rfl zc_5_117 gd_X6_isWithin rfl rfl rfl (Nat.le_of_ble_eq_true rfl) (ct_X6_isWithin (d := _)) ⟨Nat.le_refl _, Nat.le_refl _⟩ ?_
      refine zv_run 0 (pc' := 16) (lo' := [some (.ref 4), some (.ref 2)]) (st' := [.int (fi_in I 0 0 20)]) (I' := I) (L' := L) (R' := zw_RC h sp la) rfl ?_
      refine zv_if_eq (tgt := 30) (zs_at rfl) (by decide) (fun c16 => ?_) (fun c16 => ?_)
      · have _c := c16
        refine zv_run 1 (pc' := 31) (lo' := [some (.ref 4), some (.ref 2)]) (st' := [.int 0]) (I' := I) (L' := L) (R' := zw_RC h sp la) rfl ?_
        exact zv_zret (zs_at rfl) rfl (Or.inl rfl) ⟨Nat.le_refl _, Nat.le_refl _⟩ (zw_to rfl rfl rfl rfl)
      · have _c := c16
        refine zv_run 4 (pc' := 24) (lo' := [some (.ref 4), some (.ref 2)]) (st' := [.int 30, .int 1, .int 1, .ref 2]) (I' := I) (L' := L) (R' := zw_RC h sp la) rfl ?_
        refine zv_cV (M' := mm_X6_isWithin) (ci := 6) (a := 2) (av := [.int 1, .int 1, .int 30]) (st := []) (r := some (.int (fi_in I 1 1 30))) (I' := I) (L' := L) (R' := zw_RC h sp la) rfl zc_5_117 gd_X6_isWithin rfl rfl rfl (Nat.le_of_ble_eq_true rfl) (ct_X6_isWithin (d := _)) ⟨Nat.le_refl _, Nat.le_refl _⟩ ?_
        refine zv_run 0 (pc' := 27) (lo' := [some (.ref 4), some (.ref 2)]) (st' := [.int (fi_in I 1 1 30)]) (I' := I) (L' := L) (R' := zw_RC h sp la) rfl ?_
        refine zv_if_ne (tgt := 32) (zs_at rfl) (by decide) (fun c27 => ?_) (fun c27 => ?_)
        · have _c := c27
          exact absurd ⟨c5, c16, c27⟩ hno
        · have _c := c27
          refine zv_run 1 (pc' := 31) (lo' := [some (.ref 4), some (.ref 2)]) (st' := [.int 0]) (I' := I) (L' := L) (R' := zw_RC h sp la) rfl ?_
          exact zv_zret (zs_at rfl) rfl (Or.inl rfl) ⟨Nat.le_refl _, Nat.le_refl _⟩ (zw_to rfl rfl rfl rfl)
  · refine zv_entry gd_X5_takesKettle (Nat.le_of_ble_eq_true rfl) ?_
    refine zv_run 3 (pc' := 5) (lo' := [some (.ref 14), some (.ref 2)]) (st' := [.int 2, .int (I 2 2)]) (I' := I) (L' := L) (R' := zw_RC h sp la) rfl ?_
    refine zv_icmp_ne (tgt := 30) (zs_at rfl) (by decide) (fun c5 => ?_) (fun c5 => ?_)
    · have _c := c5
      refine zv_run 1 (pc' := 31) (lo' := [some (.ref 14), some (.ref 2)]) (st' := [.int 0]) (I' := I) (L' := L) (R' := zw_RC h sp la) rfl ?_
      exact zv_zret (zs_at rfl) rfl (Or.inl rfl) ⟨Nat.le_refl _, Nat.le_refl _⟩ (zw_to rfl rfl rfl rfl)
    · have _c := c5
      refine zv_run 4 (pc' := 13) (lo' := [some (.ref 14), some (.ref 2)]) (st' := [.int 20, .int 0, .int 0, .ref 2]) (I' := I) (L' := L) (R' := zw_RC h sp la) rfl ?_
      refine zv_cV (M' := mm_X6_isWithin) (ci := 6) (a := 2) (av := [.int 0, .int 0, .int 20]) (st := []) (r := some (.int (fi_in I 0 0 20))) (I' := I) (L' := L) (R' := zw_RC h sp la) rfl zc_5_117 gd_X6_isWithin rfl rfl rfl (Nat.le_of_ble_eq_true rfl) (ct_X6_isWithin (d := _)) ⟨Nat.le_refl _, Nat.le_refl _⟩ ?_
      refine zv_run 0 (pc' := 16) (lo' := [some (.ref 14), some (.ref 2)]) (st' := [.int (fi_in I 0 0 20)]) (I' := I) (L' := L) (R' := zw_RC h sp la) rfl ?_
      refine zv_if_eq (tgt := 30) (zs_at rfl) (by decide) (fun c16 => ?_) (fun c16 => ?_)
      · have _c := c16
        refine zv_run 1 (pc' := 31) (lo' := [some (.ref 14), some (.ref 2)]) (st' := [.int 0]) (I' := I) (L' := L) (R' := zw_RC h sp la) rfl ?_
        exact zv_zret (zs_at rfl) rfl (Or.inl rfl) ⟨Nat.le_refl _, Nat.le_refl _⟩ (zw_to rfl rfl rfl rfl)
      · have _c := c16
        refine zv_run 4 (pc' := 24) (lo' := [some (.ref 14), some (.ref 2)]) (st' := [.int 30, .int 1, .int 1, .ref 2]) (I' := I) (L' := L) (R' := zw_RC h sp la) rfl ?_
        refine zv_cV (M' := mm_X6_isWithin) (ci := 6) (a := 2) (av := [.int 1, .int 1, .int 30]) (st := []) (r := some (.int (fi_in I 1 1 30))) (I' := I) (L' := L) (R' := zw_RC h sp la) rfl zc_5_117 gd_X6_isWithin rfl rfl rfl (Nat.le_of_ble_eq_true rfl) (ct_X6_isWithin (d := _)) ⟨Nat.le_refl _, Nat.le_refl _⟩ ?_
        refine zv_run 0 (pc' := 27) (lo' := [some (.ref 14), some (.ref 2)]) (st' := [.int (fi_in I 1 1 30)]) (I' := I) (L' := L) (R' := zw_RC h sp la) rfl ?_
        refine zv_if_ne (tgt := 32) (zs_at rfl) (by decide) (fun c27 => ?_) (fun c27 => ?_)
        · have _c := c27
          exact absurd ⟨c5, c16, c27⟩ hno
        · have _c := c27
          refine zv_run 1 (pc' := 31) (lo' := [some (.ref 14), some (.ref 2)]) (st' := [.int 0]) (I' := I) (L' := L) (R' := zw_RC h sp la) rfl ?_
          exact zv_zret (zs_at rfl) rfl (Or.inl rfl) ⟨Nat.le_refl _, Nat.le_refl _⟩ (zw_to rfl rfl rfl rfl)
theorem ct_X5_takesKettle {d : Nat} {I : zx_I} {L : zx_L} {h sp : Nat} {la : Option Nat} {a : Nat}  (ha : a = 4 ∨ a = 14) (hok : (ti_kettle I)) : zx_M0 mm_X5_takesKettle (d + 2) 0 0 [.ref a, .ref 2] zw_SC I L (zw_RC h sp la) (zw_ret (some (.int 1)) zw_SC (tm_kettle I a) L (zw_RC h sp la)) := by
  rcases ha with rfl | rfl
  · refine zv_entry gd_X5_takesKettle (Nat.le_of_ble_eq_true rfl) ?_
    refine zv_run 3 (pc' := 5) (lo' := [some (.ref 4), some (.ref 2)]) (st' := [.int 2, .int (I 2 2)]) (I' := I) (L' := L) (R' := zw_RC h sp la) rfl ?_
    refine zv_icmp_ne (tgt := 30) (zs_at rfl) (by decide) (fun c5 => ?_) (fun c5 => ?_)
    · have _c := c5
      refine zv_run 1 (pc' := 31) (lo' := [some (.ref 4), some (.ref 2)]) (st' := [.int 0]) (I' := I) (L' := L) (R' := zw_RC h sp la) rfl ?_
      exact zv_zret (zs_at rfl) rfl (Or.inl rfl) ⟨Nat.le_refl _, Nat.le_refl _⟩ (absurd hok (fun q => by first | exact c5 q.1 | exact q.2.1 c16 | exact q.2.2 c27))
    · have _c := c5
      refine zv_run 4 (pc' := 13) (lo' := [some (.ref 4), some (.ref 2)]) (st' := [.int 20, .int 0, .int 0, .ref 2]) (I' := I) (L' := L) (R' := zw_RC h sp la) rfl ?_
      refine zv_cV (M' := mm_X6_isWithin) (ci := 6) (a := 2) (av := [.int 0, .int 0, .int 20]) (st := []) (r := some (.int (fi_in I 0 0 20))) (I' := I) (L' := L) (R' := zw_RC h sp la) rfl zc_5_117 gd_X6_isWithin rfl rfl rfl (Nat.le_of_ble_eq_true rfl) (ct_X6_isWithin (d := _)) ⟨Nat.le_refl _, Nat.le_refl _⟩ ?_
      refine zv_run 0 (pc' := 16) (lo' := [some (.ref 4), some (.ref 2)]) (st' := [.int (fi_in I 0 0 20)]) (I' := I) (L' := L) (R' := zw_RC h sp la) rfl ?_
      refine zv_if_eq (tgt := 30) (zs_at rfl) (by decide) (fun c16 => ?_) (fun c16 => ?_)
      · have _c := c16
        refine zv_run 1 (pc' := 31) (lo' := [some (.ref 4), some (.ref 2)]) (st' := [.int 0]) (I' := I) (L' := L) (R' := zw_RC h sp la) rfl ?_
        exact zv_zret (zs_at rfl) rfl (Or.inl rfl) ⟨Nat.le_refl _, Nat.le_refl _⟩ (absurd hok (fun q => by first | exact c5 q.1 | exact q.2.1 c16 | exact q.2.2 c27))
      · have _c := c16
        refine zv_run 4 (pc' := 24) (lo' := [some (.ref 4), some (.ref 2)]) (st' := [.int 30, .int 1, .int 1, .ref 2]) (I' := I) (L' := L) (R' := zw_RC h sp la) rfl ?_
        refine zv_cV (M' := mm_X6_isWithin) (ci := 6) (a := 2) (av := [.int 1, .int 1, .int 30]) (st := []) (r := some (.int (fi_in I 1 1 30))) (I' := I) (L' := L) (R' := zw_RC h sp la) rfl zc_5_117 gd_X6_isWithin rfl rfl rfl (Nat.le_of_ble_eq_true rfl) (ct_X6_isWithin (d := _)) ⟨Nat.le_refl _, Nat.le_refl _⟩ ?_
        refine zv_run 0 (pc' := 27) (lo' := [some (.ref 4), some (.ref 2)]) (st' := [.int (fi_in I 1 1 30)]) (I' := I) (L' := L) (R' := zw_RC h sp la) rfl ?_
        refine zv_if_ne (tgt := 32) (zs_at rfl) (by decide) (fun c27 => ?_) (fun c27 => ?_)
        · have _c := c27
          refine zv_run 3 (pc' := 35) (lo' := [some (.ref 4), some (.ref 2)]) (st' := [.int 0, .ref 2, .ref 4]) (I' := I) (L' := L) (R' := zw_RC h sp la) rfl ?_
          refine zv_cV (M' := mm_X6_number) (ci := 6) (a := 2) (av := [.int 0]) (st := [.ref 4]) (r := some (.int (fi_num I 0))) (I' := I) (L' := L) (R' := zw_RC h sp la) rfl zc_5_121 gd_X6_number rfl rfl rfl (Nat.le_of_ble_eq_true rfl) (ct_X6_number (d := _) (I := I)) ⟨Nat.le_refl _, Nat.le_refl _⟩ ?_
          refine zv_run 0 (pc' := 38) (lo' := [some (.ref 4), some (.ref 2)]) (st' := [.int (fi_num I 0), .ref 4]) (I' := I) (L' := L) (R' := zw_RC h sp la) rfl ?_
          refine zv_run 4 (pc' := 44) (lo' := [some (.ref 4), some (.ref 2)]) (st' := [.int 1, .ref 2, .ref 4]) (I' := (zx_uI I 4 9 (fi_num I 0))) (L' := L) (R' := zw_RC h sp la) rfl ?_
          refine zv_cV (M' := mm_X6_number) (ci := 6) (a := 2) (av := [.int 1]) (st := [.ref 4]) (r := some (.int (fi_num I 1))) (I' := (zx_uI I 4 9 (fi_num I 0))) (L' := L) (R' := zw_RC h sp la) rfl zc_5_121 gd_X6_number rfl rfl rfl (Nat.le_of_ble_eq_true rfl) (ct_X6_number (d := _) (I := (zx_uI I 4 9 (fi_num I 0)))) ⟨Nat.le_refl _, Nat.le_refl _⟩ ?_
          refine zv_run 0 (pc' := 47) (lo' := [some (.ref 4), some (.ref 2)]) (st' := [.int (fi_num I 1), .ref 4]) (I' := (zx_uI I 4 9 (fi_num I 0))) (L' := L) (R' := zw_RC h sp la) rfl ?_
          refine zv_run 2 (pc' := 51) (lo' := [some (.ref 4), some (.ref 2)]) (st' := [.int 1]) (I' := (zx_uI (zx_uI I 4 9 (fi_num I 0)) 4 10 (fi_num I 1))) (L' := L) (R' := zw_RC h sp la) rfl ?_
          exact zv_zret (zs_at rfl) rfl (Or.inr rfl) ⟨Nat.le_refl _, Nat.le_refl _⟩ (zw_to rfl rfl rfl rfl)
        · have _c := c27
          refine zv_run 1 (pc' := 31) (lo' := [some (.ref 4), some (.ref 2)]) (st' := [.int 0]) (I' := I) (L' := L) (R' := zw_RC h sp la) rfl ?_
          exact zv_zret (zs_at rfl) rfl (Or.inl rfl) ⟨Nat.le_refl _, Nat.le_refl _⟩ (absurd hok (fun q => by first | exact c5 q.1 | exact q.2.1 c16 | exact q.2.2 c27))
  · refine zv_entry gd_X5_takesKettle (Nat.le_of_ble_eq_true rfl) ?_
    refine zv_run 3 (pc' := 5) (lo' := [some (.ref 14), some (.ref 2)]) (st' := [.int 2, .int (I 2 2)]) (I' := I) (L' := L) (R' := zw_RC h sp la) rfl ?_
    refine zv_icmp_ne (tgt := 30) (zs_at rfl) (by decide) (fun c5 => ?_) (fun c5 => ?_)
    · have _c := c5
      refine zv_run 1 (pc' := 31) (lo' := [some (.ref 14), some (.ref 2)]) (st' := [.int 0]) (I' := I) (L' := L) (R' := zw_RC h sp la) rfl ?_
      exact zv_zret (zs_at rfl) rfl (Or.inl rfl) ⟨Nat.le_refl _, Nat.le_refl _⟩ (absurd hok (fun q => by first | exact c5 q.1 | exact q.2.1 c16 | exact q.2.2 c27))
    · have _c := c5
      refine zv_run 4 (pc' := 13) (lo' := [some (.ref 14), some (.ref 2)]) (st' := [.int 20, .int 0, .int 0, .ref 2]) (I' := I) (L' := L) (R' := zw_RC h sp la) rfl ?_
      refine zv_cV (M' := mm_X6_isWithin) (ci := 6) (a := 2) (av := [.int 0, .int 0, .int 20]) (st := []) (r := some (.int (fi_in I 0 0 20))) (I' := I) (L' := L) (R' := zw_RC h sp la) rfl zc_5_117 gd_X6_isWithin rfl rfl rfl (Nat.le_of_ble_eq_true rfl) (ct_X6_isWithin (d := _)) ⟨Nat.le_refl _, Nat.le_refl _⟩ ?_
      refine zv_run 0 (pc' := 16) (lo' := [some (.ref 14), some (.ref 2)]) (st' := [.int (fi_in I 0 0 20)]) (I' := I) (L' := L) (R' := zw_RC h sp la) rfl ?_
      refine zv_if_eq (tgt := 30) (zs_at rfl) (by decide) (fun c16 => ?_) (fun c16 => ?_)
      · have _c := c16
        refine zv_run 1 (pc' := 31) (lo' := [some (.ref 14), some (.ref 2)]) (st' := [.int 0]) (I' := I) (L' := L) (R' := zw_RC h sp la) rfl ?_
        exact zv_zret (zs_at rfl) rfl (Or.inl rfl) ⟨Nat.le_refl _, Nat.le_refl _⟩ (absurd hok (fun q => by first | exact c5 q.1 | exact q.2.1 c16 | exact q.2.2 c27))
      · have _c := c16
        refine zv_run 4 (pc' := 24) (lo' := [some (.ref 14), some (.ref 2)]) (st' := [.int 30, .int 1, .int 1, .ref 2]) (I' := I) (L' := L) (R' := zw_RC h sp la) rfl ?_
        refine zv_cV (M' := mm_X6_isWithin) (ci := 6) (a := 2) (av := [.int 1, .int 1, .int 30]) (st := []) (r := some (.int (fi_in I 1 1 30))) (I' := I) (L' := L) (R' := zw_RC h sp la) rfl zc_5_117 gd_X6_isWithin rfl rfl rfl (Nat.le_of_ble_eq_true rfl) (ct_X6_isWithin (d := _)) ⟨Nat.le_refl _, Nat.le_refl _⟩ ?_
        refine zv_run 0 (pc' := 27) (lo' := [some (.ref 14), some (.ref 2)]) (st' := [.int (fi_in I 1 1 30)]) (I' := I) (L' := L) (R' := zw_RC h sp la) rfl ?_
        refine zv_if_ne (tgt := 32) (zs_at rfl) (by decide) (fun c27 => ?_) (fun c27 => ?_)
        · have _c := c27
          refine zv_run 3 (pc' := 35) (lo' := [some (.ref 14), some (.ref 2)]) (st' := [.int 0, .ref 2, .ref 14]) (I' := I) (L' := L) (R' := zw_RC h sp la) rfl ?_
          refine zv_cV (M' := mm_X6_number) (ci := 6) (a := 2) (av := [.int 0]) (st := [.ref 14]) (r := some (.int (fi_num I 0))) (I' := I) (L' := L) (R' := zw_RC h sp la) rfl zc_5_121 gd_X6_number rfl rfl rfl (Nat.le_of_ble_eq_true rfl) (ct_X6_number (d := _) (I := I)) ⟨Nat.le_refl _, Nat.le_refl _⟩ ?_
          refine zv_run 0 (pc' := 38) (lo' := [some (.ref 14), some (.ref 2)]) (st' := [.int (fi_num I 0), .ref 14]) (I' := I) (L' := L) (R' := zw_RC h sp la) rfl ?_
          refine zv_run 4 (pc' := 44) (lo' := [some (.ref 14), some (.ref 2)]) (st' := [.int 1, .ref 2, .ref 14]) (I' := (zx_uI I 14 9 (fi_num I 0))) (L' := L) (R' := zw_RC h sp la) rfl ?_
          refine zv_cV (M' := mm_X6_number) (ci := 6) (a := 2) (av := [.int 1]) (st := [.ref 14]) (r := some (.int (fi_num I 1))) (I' := (zx_uI I 14 9 (fi_num I 0))) (L' := L) (R' := zw_RC h sp la) rfl zc_5_121 gd_X6_number rfl rfl rfl (Nat.le_of_ble_eq_true rfl) (ct_X6_number (d := _) (I := (zx_uI I 14 9 (fi_num I 0)))) ⟨Nat.le_refl _, Nat.le_refl _⟩ ?_
          refine zv_run 0 (pc' := 47) (lo' := [some (.ref 14), some (.ref 2)]) (st' := [.int (fi_num I 1), .ref 14]) (I' := (zx_uI I 14 9 (fi_num I 0))) (L' := L) (R' := zw_RC h sp la) rfl ?_
          refine zv_run 2 (pc' := 51) (lo' := [some (.ref 14), some (.ref 2)]) (st' := [.int 1]) (I' := (zx_uI (zx_uI I 14 9 (fi_num I 0)) 14 10 (fi_num I 1))) (L' := L) (R' := zw_RC h sp la) rfl ?_
          exact zv_zret (zs_at rfl) rfl (Or.inr rfl) ⟨Nat.le_refl _, Nat.le_refl _⟩ (zw_to rfl rfl rfl rfl)
        · have _c := c27
          refine zv_run 1 (pc' := 31) (lo' := [some (.ref 14), some (.ref 2)]) (st' := [.int 0]) (I' := I) (L' := L) (R' := zw_RC h sp la) rfl ?_
          exact zv_zret (zs_at rfl) rfl (Or.inl rfl) ⟨Nat.le_refl _, Nat.le_refl _⟩ (absurd hok (fun q => by first | exact c5 q.1 | exact q.2.1 c16 | exact q.2.2 c27))
def ti_bather (I : zx_I) (a : Nat) : Prop := ¬ I a 13 ≥ 6 ∧ I 2 2 = 6 ∧ ¬ fi_in I 0 1 99 = 0 ∧ ¬ fi_in I 1 0 99 = 0 ∧ ¬ fi_in I 2 (fi_num I 1) 99 = 0 ∧ ¬ fi_in I 3 1 20 = 0 ∧ ¬ fi_in I 4 0 60 = 0 ∧ ¬ fi_in I 5 0 99 = 0
def tm_bather (I : zx_I) (a c : Nat) : zx_I := zx_uI (fb_become I (a + 4 + c)) a 13 (I a 13 + 1)
theorem fb_become_ne {I : zx_I} {w b : Nat} (h : b ≠ w) : fb_become I w b = I b := by
  unfold fb_become
  rw [zx_uI_ne h, zx_uI_ne h, zx_uI_ne h, zx_uI_ne h, zx_uI_ne h, zx_uI_ne h, zx_uI_ne h, zx_uI_ne h]
theorem ct_X5_takesBather_no {d : Nat} {I : zx_I} {L : zx_L} {h sp : Nat} {la : Option Nat} {a : Nat}  (ha : a = 4 ∨ a = 14) (hno : ¬ ti_bather I a) : zx_M0 mm_X5_takesBather (d + 2) 0 0 [.ref a, .ref 2] zw_SC I L (zw_RC h sp la) (zw_ret (some (.int 0)) zw_SC I L (zw_RC h sp la)) := by
  rcases ha with rfl | rfl
  · refine zv_entry gd_X5_takesBather (Nat.le_of_ble_eq_true rfl) ?_
    refine zv_run 5 (pc' := 9) (lo' := [some (.ref 4), some (.ref 2)]) (st' := [.int 6, .int (I 4 13)]) (I' := I) (L' := L) (R' := zw_RC h sp la) rfl ?_
    refine zv_icmp_ge (tgt := 91) (zs_at rfl) (by decide) (fun c9 => ?_) (fun c9 => ?_)
    · have _c := c9
      refine zv_run 1 (pc' := 92) (lo' := [some (.ref 4), some (.ref 2)]) (st' := [.int 0]) (I' := I) (L' := L) (R' := zw_RC h sp la) rfl ?_
      exact zv_zret (zs_at rfl) rfl (Or.inl rfl) ⟨Nat.le_refl _, Nat.le_refl _⟩ (zw_to rfl rfl rfl rfl)
    · have _c := c9
      refine zv_run 3 (pc' := 18) (lo' := [some (.ref 4), some (.ref 2)]) (st' := [.int 6, .int (I 2 2)]) (I' := I) (L' := L) (R' := zw_RC h sp la) rfl ?_
      refine zv_icmp_ne (tgt := 91) (zs_at rfl) (by decide) (fun c18 => ?_) (fun c18 => ?_)
      · have _c := c18
        refine zv_run 1 (pc' := 92) (lo' := [some (.ref 4), some (.ref 2)]) (st' := [.int 0]) (I' := I) (L' := L) (R' := zw_RC h sp la) rfl ?_
        exact zv_zret (zs_at rfl) rfl (Or.inl rfl) ⟨Nat.le_refl _, Nat.le_refl _⟩ (zw_to rfl rfl rfl rfl)
      · have _c := c18
        refine zv_run 4 (pc' := 26) (lo' := [some (.ref 4), some (.ref 2)]) (st' := [.int 99, .int 1, .int 0, .ref 2]) (I' := I) (L' := L) (R' := zw_RC h sp la) rfl ?_
        refine zv_cV (M' := mm_X6_isWithin) (ci := 6) (a := 2) (av := [.int 0, .int 1, .int 99]) (st := []) (r := some (.int (fi_in I 0 1 99))) (I' := I) (L' := L) (R' := zw_RC h sp la) rfl zc_5_117 gd_X6_isWithin rfl rfl rfl (Nat.le_of_ble_eq_true rfl) (ct_X6_isWithin (d := _)) ⟨Nat.le_refl _, Nat.le_refl _⟩ ?_
        refine zv_run 0 (pc' := 29) (lo' := [some (.ref 4), some (.ref 2)]) (st' := [.int (fi_in I 0 1 99)]) (I' := I) (L' := L) (R' := zw_RC h sp la) rfl ?_
        refine zv_if_eq (tgt := 91) (zs_at rfl) (by decide) (fun c29 => ?_) (fun c29 => ?_)
        · have _c := c29
          refine zv_run 1 (pc' := 92) (lo' := [some (.ref 4), some (.ref 2)]) (st' := [.int 0]) (I' := I) (L' := L) (R' := zw_RC h sp la) rfl ?_
          exact zv_zret (zs_at rfl) rfl (Or.inl rfl) ⟨Nat.le_refl _, Nat.le_refl _⟩ (zw_to rfl rfl rfl rfl)
        · have _c := c29
          refine zv_run 4 (pc' := 37) (lo' := [some (.ref 4), some (.ref 2)]) (st' := [.int 99, .int 0, .int 1, .ref 2]) (I' := I) (L' := L) (R' := zw_RC h sp la) rfl ?_
          refine zv_cV (M' := mm_X6_isWithin) (ci := 6) (a := 2) (av := [.int 1, .int 0, .int 99]) (st := []) (r := some (.int (fi_in I 1 0 99))) (I' := I) (L' := L) (R' := zw_RC h sp la) rfl zc_5_117 gd_X6_isWithin rfl rfl rfl (Nat.le_of_ble_eq_true rfl) (ct_X6_isWithin (d := _)) ⟨Nat.le_refl _, Nat.le_refl _⟩ ?_
          refine zv_run 0 (pc' := 40) (lo' := [some (.ref 4), some (.ref 2)]) (st' := [.int (fi_in I 1 0 99)]) (I' := I) (L' := L) (R' := zw_RC h sp la) rfl ?_
          refine zv_if_eq (tgt := 91) (zs_at rfl) (by decide) (fun c40 => ?_) (fun c40 => ?_)
          · have _c := c40
            refine zv_run 1 (pc' := 92) (lo' := [some (.ref 4), some (.ref 2)]) (st' := [.int 0]) (I' := I) (L' := L) (R' := zw_RC h sp la) rfl ?_
            exact zv_zret (zs_at rfl) rfl (Or.inl rfl) ⟨Nat.le_refl _, Nat.le_refl _⟩ (zw_to rfl rfl rfl rfl)
          · have _c := c40
            refine zv_run 4 (pc' := 47) (lo' := [some (.ref 4), some (.ref 2)]) (st' := [.int 1, .ref 2, .int 2, .ref 2]) (I' := I) (L' := L) (R' := zw_RC h sp la) rfl ?_
            refine zv_cV (M' := mm_X6_number) (ci := 6) (a := 2) (av := [.int 1]) (st := [.int 2, .ref 2]) (r := some (.int (fi_num I 1))) (I' := I) (L' := L) (R' := zw_RC h sp la) rfl zc_5_121 gd_X6_number rfl rfl rfl (Nat.le_of_ble_eq_true rfl) (ct_X6_number (d := _) (I := I)) ⟨Nat.le_refl _, Nat.le_refl _⟩ ?_
            refine zv_run 0 (pc' := 50) (lo' := [some (.ref 4), some (.ref 2)]) (st' := [.int (fi_num I 1), .int 2, .ref 2]) (I' := I) (L' := L) (R' := zw_RC h sp la) rfl ?_
            refine zv_run 1 (pc' := 52) (lo' := [some (.ref 4), some (.ref 2)]) (st' := [.int 99, .int (fi_num I 1), .int 2, .ref 2]) (I' := I) (L' := L) (R' := zw_RC h sp la) rfl ?_
            refine zv_cV (M' := mm_X6_isWithin) (ci := 6) (a := 2) (av := [.int 2, .int (fi_num I 1), .int 99]) (st := []) (r := some (.int (fi_in I 2 (fi_num I 1) 99))) (I' := I) (L' := L) (R' := zw_RC h sp la) rfl zc_5_117 gd_X6_isWithin rfl rfl rfl (Nat.le_of_ble_eq_true rfl) (ct_X6_isWithin (d := _)) ⟨Nat.le_refl _, Nat.le_refl _⟩ ?_
            refine zv_run 0 (pc' := 55) (lo' := [some (.ref 4), some (.ref 2)]) (st' := [.int (fi_in I 2 (fi_num I 1) 99)]) (I' := I) (L' := L) (R' := zw_RC h sp la) rfl ?_
            refine zv_if_eq (tgt := 91) (zs_at rfl) (by decide) (fun c55 => ?_) (fun c55 => ?_)
            · have _c := c55
              refine zv_run 1 (pc' := 92) (lo' := [some (.ref 4), some (.ref 2)]) (st' := [.int 0]) (I' := I) (L' := L) (R' := zw_RC h sp la) rfl ?_
              exact zv_zret (zs_at rfl) rfl (Or.inl rfl) ⟨Nat.le_refl _, Nat.le_refl _⟩ (zw_to rfl rfl rfl rfl)
            · have _c := c55
              refine zv_run 4 (pc' := 63) (lo' := [some (.ref 4), some (.ref 2)]) (st' := [.int 20, .int 1, .int 3, .ref 2]) (I' := I) (L' := L) (R' := zw_RC h sp la) rfl ?_
              refine zv_cV (M' := mm_X6_isWithin) (ci := 6) (a := 2) (av := [.int 3, .int 1, .int 20]) (st := []) (r := some (.int (fi_in I 3 1 20))) (I' := I) (L' := L) (R' := zw_RC h sp la) rfl zc_5_117 gd_X6_isWithin rfl rfl rfl (Nat.le_of_ble_eq_true rfl) (ct_X6_isWithin (d := _)) ⟨Nat.le_refl _, Nat.le_refl _⟩ ?_
              refine zv_run 0 (pc' := 66) (lo' := [some (.ref 4), some (.ref 2)]) (st' := [.int (fi_in I 3 1 20)]) (I' := I) (L' := L) (R' := zw_RC h sp la) rfl ?_
              refine zv_if_eq (tgt := 91) (zs_at rfl) (by decide) (fun c66 => ?_) (fun c66 => ?_)
              · have _c := c66
                refine zv_run 1 (pc' := 92) (lo' := [some (.ref 4), some (.ref 2)]) (st' := [.int 0]) (I' := I) (L' := L) (R' := zw_RC h sp la) rfl ?_
                exact zv_zret (zs_at rfl) rfl (Or.inl rfl) ⟨Nat.le_refl _, Nat.le_refl _⟩ (zw_to rfl rfl rfl rfl)
              · have _c := c66
                refine zv_run 4 (pc' := 74) (lo' := [some (.ref 4), some (.ref 2)]) (st' := [.int 60, .int 0, .int 4, .ref 2]) (I' := I) (L' := L) (R' := zw_RC h sp la) rfl ?_
                refine zv_cV (M' := mm_X6_isWithin) (ci := 6) (a := 2) (av := [.int 4, .int 0, .int 60]) (st := []) (r := some (.int (fi_in I 4 0 60))) (I' := I) (L' := L) (R' := zw_RC h sp la) rfl zc_5_117 gd_X6_isWithin rfl rfl rfl (Nat.le_of_ble_eq_true rfl) (ct_X6_isWithin (d := _)) ⟨Nat.le_refl _, Nat.le_refl _⟩ ?_
                refine zv_run 0 (pc' := 77) (lo' := [some (.ref 4), some (.ref 2)]) (st' := [.int (fi_in I 4 0 60)]) (I' := I) (L' := L) (R' := zw_RC h sp la) rfl ?_
                refine zv_if_eq (tgt := 91) (zs_at rfl) (by decide) (fun c77 => ?_) (fun c77 => ?_)
                · have _c := c77
                  refine zv_run 1 (pc' := 92) (lo' := [some (.ref 4), some (.ref 2)]) (st' := [.int 0]) (I' := I) (L' := L) (R' := zw_RC h sp la) rfl ?_
                  exact zv_zret (zs_at rfl) rfl (Or.inl rfl) ⟨Nat.le_refl _, Nat.le_refl _⟩ (zw_to rfl rfl rfl rfl)
                · have _c := c77
                  refine zv_run 4 (pc' := 85) (lo' := [some (.ref 4), some (.ref 2)]) (st' := [.int 99, .int 0, .int 5, .ref 2]) (I' := I) (L' := L) (R' := zw_RC h sp la) rfl ?_
                  refine zv_cV (M' := mm_X6_isWithin) (ci := 6) (a := 2) (av := [.int 5, .int 0, .int 99]) (st := []) (r := some (.int (fi_in I 5 0 99))) (I' := I) (L' := L) (R' := zw_RC h sp la) rfl zc_5_117 gd_X6_isWithin rfl rfl rfl (Nat.le_of_ble_eq_true rfl) (ct_X6_isWithin (d := _)) ⟨Nat.le_refl _, Nat.le_refl _⟩ ?_
                  refine zv_run 0 (pc' := 88) (lo' := [some (.ref 4), some (.ref 2)]) (st' := [.int (fi_in I 5 0 99)]) (I' := I) (L' := L) (R' := zw_RC h sp la) rfl ?_
                  refine zv_if_ne (tgt := 93) (zs_at rfl) (by decide) (fun c88 => ?_) (fun c88 => ?_)
                  · have _c := c88
                    exact absurd ⟨c9, c18, c29, c40, c55, c66, c77, c88⟩ hno
                  · have _c := c88
                    refine zv_run 1 (pc' := 92) (lo' := [some (.ref 4), some (.ref 2)]) (st' := [.int 0]) (I' := I) (L' := L) (R' := zw_RC h sp la) rfl ?_
                    exact zv_zret (zs_at rfl) rfl (Or.inl rfl) ⟨Nat.le_refl _, Nat.le_refl _⟩ (zw_to rfl rfl rfl rfl)
  · refine zv_entry gd_X5_takesBather (Nat.le_of_ble_eq_true rfl) ?_
    refine zv_run 5 (pc' := 9) (lo' := [some (.ref 14), some (.ref 2)]) (st' := [.int 6, .int (I 14 13)]) (I' := I) (L' := L) (R' := zw_RC h sp la) rfl ?_
    refine zv_icmp_ge (tgt := 91) (zs_at rfl) (by decide) (fun c9 => ?_) (fun c9 => ?_)
    · have _c := c9
      refine zv_run 1 (pc' := 92) (lo' := [some (.ref 14), some (.ref 2)]) (st' := [.int 0]) (I' := I) (L' := L) (R' := zw_RC h sp la) rfl ?_
      exact zv_zret (zs_at rfl) rfl (Or.inl rfl) ⟨Nat.le_refl _, Nat.le_refl _⟩ (zw_to rfl rfl rfl rfl)
    · have _c := c9
      refine zv_run 3 (pc' := 18) (lo' := [some (.ref 14), some (.ref 2)]) (st' := [.int 6, .int (I 2 2)]) (I' := I) (L' := L) (R' := zw_RC h sp la) rfl ?_
      refine zv_icmp_ne (tgt := 91) (zs_at rfl) (by decide) (fun c18 => ?_) (fun c18 => ?_)
      · have _c := c18
        refine zv_run 1 (pc' := 92) (lo' := [some (.ref 14), some (.ref 2)]) (st' := [.int 0]) (I' := I) (L' := L) (R' := zw_RC h sp la) rfl ?_
        exact zv_zret (zs_at rfl) rfl (Or.inl rfl) ⟨Nat.le_refl _, Nat.le_refl _⟩ (zw_to rfl rfl rfl rfl)
      · have _c := c18
        refine zv_run 4 (pc' := 26) (lo' := [some (.ref 14), some (.ref 2)]) (st' := [.int 99, .int 1, .int 0, .ref 2]) (I' := I) (L' := L) (R' := zw_RC h sp la) rfl ?_
        refine zv_cV (M' := mm_X6_isWithin) (ci := 6) (a := 2) (av := [.int 0, .int 1, .int 99]) (st := []) (r := some (.int (fi_in I 0 1 99))) (I' := I) (L' := L) (R' := zw_RC h sp la) rfl zc_5_117 gd_X6_isWithin rfl rfl rfl (Nat.le_of_ble_eq_true rfl) (ct_X6_isWithin (d := _)) ⟨Nat.le_refl _, Nat.le_refl _⟩ ?_
        refine zv_run 0 (pc' := 29) (lo' := [some (.ref 14), some (.ref 2)]) (st' := [.int (fi_in I 0 1 99)]) (I' := I) (L' := L) (R' := zw_RC h sp la) rfl ?_
        refine zv_if_eq (tgt := 91) (zs_at rfl) (by decide) (fun c29 => ?_) (fun c29 => ?_)
        · have _c := c29
          refine zv_run 1 (pc' := 92) (lo' := [some (.ref 14), some (.ref 2)]) (st' := [.int 0]) (I' := I) (L' := L) (R' := zw_RC h sp la) rfl ?_
          exact zv_zret (zs_at rfl) rfl (Or.inl rfl) ⟨Nat.le_refl _, Nat.le_refl _⟩ (zw_to rfl rfl rfl rfl)
        · have _c := c29
          refine zv_run 4 (pc' := 37) (lo' := [some (.ref 14), some (.ref 2)]) (st' := [.int 99, .int 0, .int 1, .ref 2]) (I' := I) (L' := L) (R' := zw_RC h sp la) rfl ?_
          refine zv_cV (M' := mm_X6_isWithin) (ci := 6) (a := 2) (av := [.int 1, .int 0, .int 99]) (st := []) (r := some (.int (fi_in I 1 0 99))) (I' := I) (L' := L) (R' := zw_RC h sp la) rfl zc_5_117 gd_X6_isWithin rfl rfl rfl (Nat.le_of_ble_eq_true rfl) (ct_X6_isWithin (d := _)) ⟨Nat.le_refl _, Nat.le_refl _⟩ ?_
          refine zv_run 0 (pc' := 40) (lo' := [some (.ref 14), some (.ref 2)]) (st' := [.int (fi_in I 1 0 99)]) (I' := I) (L' := L) (R' := zw_RC h sp la) rfl ?_
          refine zv_if_eq (tgt := 91) (zs_at rfl) (by decide) (fun c40 => ?_) (fun c40 => ?_)
          · have _c := c40
            refine zv_run 1 (pc' := 92) (lo' := [some (.ref 14), some (.ref 2)]) (st' := [.int 0]) (I' := I) (L' := L) (R' := zw_RC h sp la) rfl ?_
            exact zv_zret (zs_at rfl) rfl (Or.inl rfl) ⟨Nat.le_refl _, Nat.le_refl _⟩ (zw_to rfl rfl rfl rfl)
          · have _c := c40
            refine zv_run 4 (pc' := 47) (lo' := [some (.ref 14), some (.ref 2)]) (st' := [.int 1, .ref 2, .int 2, .ref 2]) (I' := I) (L' := L) (R' := zw_RC h sp la) rfl ?_
            refine zv_cV (M' := mm_X6_number) (ci := 6) (a := 2) (av := [.int 1]) (st := [.int 2, .ref 2]) (r := some (.int (fi_num I 1))) (I' := I) (L' := L) (R' := zw_RC h sp la) rfl zc_5_121 gd_X6_number rfl rfl rfl (Nat.le_of_ble_eq_true rfl) (ct_X6_number (d := _) (I := I)) ⟨Nat.le_refl _, Nat.le_refl _⟩ ?_
            refine zv_run 0 (pc' := 50) (lo' := [some (.ref 14), some (.ref 2)]) (st' := [.int (fi_num I 1), .int 2, .ref 2]) (I' := I) (L' := L) (R' := zw_RC h sp la) rfl ?_
            refine zv_run 1 (pc' := 52) (lo' := [some (.ref 14), some (.ref 2)]) (st' := [.int 99, .int (fi_num I 1), .int 2, .ref 2]) (I' := I) (L' := L) (R' := zw_RC h sp la) rfl ?_
            refine zv_cV (M' := mm_X6_isWithin) (ci := 6) (a := 2) (av := [.int 2, .int (fi_num I 1), .int 99]) (st := []) (r := some (.int (fi_in I 2 (fi_num I 1) 99))) (I' := I) (L' := L) (R' := zw_RC h sp la) rfl zc_5_117 gd_X6_isWithin rfl rfl rfl (Nat.le_of_ble_eq_true rfl) (ct_X6_isWithin (d := _)) ⟨Nat.le_refl _, Nat.le_refl _⟩ ?_
            refine zv_run 0 (pc' := 55) (lo' := [some (.ref 14), some (.ref 2)]) (st' := [.int (fi_in I 2 (fi_num I 1) 99)]) (I' := I) (L' := L) (R' := zw_RC h sp la) rfl ?_
            refine zv_if_eq (tgt := 91) (zs_at rfl) (by decide) (fun c55 => ?_) (fun c55 => ?_)
            · have _c := c55
              refine zv_run 1 (pc' := 92) (lo' := [some (.ref 14), some (.ref 2)]) (st' := [.int 0]) (I' := I) (L' := L) (R' := zw_RC h sp la) rfl ?_
              exact zv_zret (zs_at rfl) rfl (Or.inl rfl) ⟨Nat.le_refl _, Nat.le_refl _⟩ (zw_to rfl rfl rfl rfl)
            · have _c := c55
              refine zv_run 4 (pc' := 63) (lo' := [some (.ref 14), some (.ref 2)]) (st' := [.int 20, .int 1, .int 3, .ref 2]) (I' := I) (L' := L) (R' := zw_RC h sp la) rfl ?_
              refine zv_cV (M' := mm_X6_isWithin) (ci := 6) (a := 2) (av := [.int 3, .int 1, .int 20]) (st := []) (r := some (.int (fi_in I 3 1 20))) (I' := I) (L' := L) (R' := zw_RC h sp la) rfl zc_5_117 gd_X6_isWithin rfl rfl rfl (Nat.le_of_ble_eq_true rfl) (ct_X6_isWithin (d := _)) ⟨Nat.le_refl _, Nat.le_refl _⟩ ?_
              refine zv_run 0 (pc' := 66) (lo' := [some (.ref 14), some (.ref 2)]) (st' := [.int (fi_in I 3 1 20)]) (I' := I) (L' := L) (R' := zw_RC h sp la) rfl ?_
              refine zv_if_eq (tgt := 91) (zs_at rfl) (by decide) (fun c66 => ?_) (fun c66 => ?_)
              · have _c := c66
                refine zv_run 1 (pc' := 92) (lo' := [some (.ref 14), some (.ref 2)]) (st' := [.int 0]) (I' := I) (L' := L) (R' := zw_RC h sp la) rfl ?_
                exact zv_zret (zs_at rfl) rfl (Or.inl rfl) ⟨Nat.le_refl _, Nat.le_refl _⟩ (zw_to rfl rfl rfl rfl)
              · have _c := c66
                refine zv_run 4 (pc' := 74) (lo' := [some (.ref 14), some (.ref 2)]) (st' := [.int 60, .int 0, .int 4, .ref 2]) (I' := I) (L' := L) (R' := zw_RC h sp la) rfl ?_
                refine zv_cV (M' := mm_X6_isWithin) (ci := 6) (a := 2) (av := [.int 4, .int 0, .int 60]) (st := []) (r := some (.int (fi_in I 4 0 60))) (I' := I) (L' := L) (R' := zw_RC h sp la) rfl zc_5_117 gd_X6_isWithin rfl rfl rfl (Nat.le_of_ble_eq_true rfl) (ct_X6_isWithin (d := _)) ⟨Nat.le_refl _, Nat.le_refl _⟩ ?_
                refine zv_run 0 (pc' := 77) (lo' := [some (.ref 14), some (.ref 2)]) (st' := [.int (fi_in I 4 0 60)]) (I' := I) (L' := L) (R' := zw_RC h sp la) rfl ?_
                refine zv_if_eq (tgt := 91) (zs_at rfl) (by decide) (fun c77 => ?_) (fun c77 => ?_)
                · have _c := c77
                  refine zv_run 1 (pc' := 92) (lo' := [some (.ref 14), some (.ref 2)]) (st' := [.int 0]) (I' := I) (L' := L) (R' := zw_RC h sp la) rfl ?_
                  exact zv_zret (zs_at rfl) rfl (Or.inl rfl) ⟨Nat.le_refl _, Nat.le_refl _⟩ (zw_to rfl rfl rfl rfl)
                · have _c := c77
                  refine zv_run 4 (pc' := 85) (lo' := [some (.ref 14), some (.ref 2)]) (st' := [.int 99, .int 0, .int 5, .ref 2]) (I' := I) (L' := L) (R' := zw_RC h sp la) rfl ?_
                  refine zv_cV (M' := mm_X6_isWithin) (ci := 6) (a := 2) (av := [.int 5, .int 0, .int 99]) (st := []) (r := some (.int (fi_in I 5 0 99))) (I' := I) (L' := L) (R' := zw_RC h sp la) rfl zc_5_117 gd_X6_isWithin rfl rfl rfl (Nat.le_of_ble_eq_true rfl) (ct_X6_isWithin (d := _)) ⟨Nat.le_refl _, Nat.le_refl _⟩ ?_
                  refine zv_run 0 (pc' := 88) (lo' := [some (.ref 14), some (.ref 2)]) (st' := [.int (fi_in I 5 0 99)]) (I' := I) (L' := L) (R' := zw_RC h sp la) rfl ?_
                  refine zv_if_ne (tgt := 93) (zs_at rfl) (by decide) (fun c88 => ?_) (fun c88 => ?_)
                  · have _c := c88
                    exact absurd ⟨c9, c18, c29, c40, c55, c66, c77, c88⟩ hno
                  · have _c := c88
                    refine zv_run 1 (pc' := 92) (lo' := [some (.ref 14), some (.ref 2)]) (st' := [.int 0]) (I' := I) (L' := L) (R' := zw_RC h sp la) rfl ?_
                    exact zv_zret (zs_at rfl) rfl (Or.inl rfl) ⟨Nat.le_refl _, Nat.le_refl _⟩ (zw_to rfl rfl rfl rfl)
theorem ct_X5_takesBather_4 {d : Nat} {I : zx_I} {L : zx_L} {h sp : Nat} {la : Option Nat} {c : Nat} (hc6 : c < 6) (hc : I 4 13 = nI c) (hok : ti_bather I 4) : zx_M0 mm_X5_takesBather (d + 2) 0 0 [.ref 4, .ref 2] zw_SC I L (zw_RC h sp la) (zw_ret (some (.int 1)) zw_SC (tm_bather I 4 c) L (zw_RC h sp la)) := by
  refine zv_entry gd_X5_takesBather (Nat.le_of_ble_eq_true rfl) ?_
  refine zv_run 5 (pc' := 9) (lo' := [some (.ref 4), some (.ref 2)]) (st' := [.int 6, .int (I 4 13)]) (I' := I) (L' := L) (R' := zw_RC h sp la) rfl ?_
  refine zv_icmp_ge (tgt := 91) (zs_at rfl) (by decide) (fun c9 => ?_) (fun c9 => ?_)
  · have _c := c9
    refine zv_run 1 (pc' := 92) (lo' := [some (.ref 4), some (.ref 2)]) (st' := [.int 0]) (I' := I) (L' := L) (R' := zw_RC h sp la) rfl ?_
    exact zv_zret (zs_at rfl) rfl (Or.inl rfl) ⟨Nat.le_refl _, Nat.le_refl _⟩ (absurd hok (fun q => by first | exact q.1 c9 | exact c18 q.2.1 | exact q.2.2.1 c29 | exact q.2.2.2.1 c40 | exact q.2.2.2.2.1 c55 | exact q.2.2.2.2.2.1 c66 | exact q.2.2.2.2.2.2.1 c77 | exact q.2.2.2.2.2.2.2 c88))
  · have _c := c9
    refine zv_run 3 (pc' := 18) (lo' := [some (.ref 4), some (.ref 2)]) (st' := [.int 6, .int (I 2 2)]) (I' := I) (L' := L) (R' := zw_RC h sp la) rfl ?_
    refine zv_icmp_ne (tgt := 91) (zs_at rfl) (by decide) (fun c18 => ?_) (fun c18 => ?_)
    · have _c := c18
      refine zv_run 1 (pc' := 92) (lo' := [some (.ref 4), some (.ref 2)]) (st' := [.int 0]) (I' := I) (L' := L) (R' := zw_RC h sp la) rfl ?_
      exact zv_zret (zs_at rfl) rfl (Or.inl rfl) ⟨Nat.le_refl _, Nat.le_refl _⟩ (absurd hok (fun q => by first | exact q.1 c9 | exact c18 q.2.1 | exact q.2.2.1 c29 | exact q.2.2.2.1 c40 | exact q.2.2.2.2.1 c55 | exact q.2.2.2.2.2.1 c66 | exact q.2.2.2.2.2.2.1 c77 | exact q.2.2.2.2.2.2.2 c88))
    · have _c := c18
      refine zv_run 4 (pc' := 26) (lo' := [some (.ref 4), some (.ref 2)]) (st' := [.int 99, .int 1, .int 0, .ref 2]) (I' := I) (L' := L) (R' := zw_RC h sp la) rfl ?_
      refine zv_cV (M' := mm_X6_isWithin) (ci := 6) (a := 2) (av := [.int 0, .int 1, .int 99]) (st := []) (r := some (.int (fi_in I 0 1 99))) (I' := I) (L' := L) (R' := zw_RC h sp la) rfl zc_5_117 gd_X6_isWithin rfl rfl rfl (Nat.le_of_ble_eq_true rfl) (ct_X6_isWithin (d := _)) ⟨Nat.le_refl _, Nat.le_refl _⟩ ?_
      refine zv_run 0 (pc' := 29) (lo' := [some (.ref 4), some (.ref 2)]) (st' := [.int (fi_in I 0 1 99)]) (I' := I) (L' := L) (R' := zw_RC h sp la) rfl ?_
      refine zv_if_eq (tgt := 91) (zs_at rfl) (by decide) (fun c29 => ?_) (fun c29 => ?_)
      · have _c := c29
        refine zv_run 1 (pc' := 92) (lo' := [some (.ref 4), some (.ref 2)]) (st' := [.int 0]) (I' := I) (L' := L) (R' := zw_RC h sp la) rfl ?_
        exact zv_zret (zs_at rfl) rfl (Or.inl rfl) ⟨Nat.le_refl _, Nat.le_refl _⟩ (absurd hok (fun q => by first | exact q.1 c9 | exact c18 q.2.1 | exact q.2.2.1 c29 | exact q.2.2.2.1 c40 | exact q.2.2.2.2.1 c55 | exact q.2.2.2.2.2.1 c66 | exact q.2.2.2.2.2.2.1 c77 | exact q.2.2.2.2.2.2.2 c88))
      · have _c := c29
        refine zv_run 4 (pc' := 37) (lo' := [some (.ref 4), some (.ref 2)]) (st' := [.int 99, .int 0, .int 1, .ref 2]) (I' := I) (L' := L) (R' := zw_RC h sp la) rfl ?_
        refine zv_cV (M' := mm_X6_isWithin) (ci := 6) (a := 2) (av := [.int 1, .int 0, .int 99]) (st := []) (r := some (.int (fi_in I 1 0 99))) (I' := I) (L' := L) (R' := zw_RC h sp la) rfl zc_5_117 gd_X6_isWithin rfl rfl rfl (Nat.le_of_ble_eq_true rfl) (ct_X6_isWithin (d := _)) ⟨Nat.le_refl _, Nat.le_refl _⟩ ?_
        refine zv_run 0 (pc' := 40) (lo' := [some (.ref 4), some (.ref 2)]) (st' := [.int (fi_in I 1 0 99)]) (I' := I) (L' := L) (R' := zw_RC h sp la) rfl ?_
        refine zv_if_eq (tgt := 91) (zs_at rfl) (by decide) (fun c40 => ?_) (fun c40 => ?_)
        · have _c := c40
          refine zv_run 1 (pc' := 92) (lo' := [some (.ref 4), some (.ref 2)]) (st' := [.int 0]) (I' := I) (L' := L) (R' := zw_RC h sp la) rfl ?_
          exact zv_zret (zs_at rfl) rfl (Or.inl rfl) ⟨Nat.le_refl _, Nat.le_refl _⟩ (absurd hok (fun q => by first | exact q.1 c9 | exact c18 q.2.1 | exact q.2.2.1 c29 | exact q.2.2.2.1 c40 | exact q.2.2.2.2.1 c55 | exact q.2.2.2.2.2.1 c66 | exact q.2.2.2.2.2.2.1 c77 | exact q.2.2.2.2.2.2.2 c88))
        · have _c := c40
          refine zv_run 4 (pc' := 47) (lo' := [some (.ref 4), some (.ref 2)]) (st' := [.int 1, .ref 2, .int 2, .ref 2]) (I' := I) (L' := L) (R' := zw_RC h sp la) rfl ?_
          refine zv_cV (M' := mm_X6_number) (ci := 6) (a := 2) (av := [.int 1]) (st := [.int 2, .ref 2]) (r := some (.int (fi_num I 1))) (I' := I) (L' := L) (R' := zw_RC h sp la) rfl zc_5_121 gd_X6_number rfl rfl rfl (Nat.le_of_ble_eq_true rfl) (ct_X6_number (d := _) (I := I)) ⟨Nat.le_refl _, Nat.le_refl _⟩ ?_
          refine zv_run 0 (pc' := 50) (lo' := [some (.ref 4), some (.ref 2)]) (st' := [.int (fi_num I 1), .int 2, .ref 2]) (I' := I) (L' := L) (R' := zw_RC h sp la) rfl ?_
          refine zv_run 1 (pc' := 52) (lo' := [some (.ref 4), some (.ref 2)]) (st' := [.int 99, .int (fi_num I 1), .int 2, .ref 2]) (I' := I) (L' := L) (R' := zw_RC h sp la) rfl ?_
          refine zv_cV (M' := mm_X6_isWithin) (ci := 6) (a := 2) (av := [.int 2, .int (fi_num I 1), .int 99]) (st := []) (r := some (.int (fi_in I 2 (fi_num I 1) 99))) (I' := I) (L' := L) (R' := zw_RC h sp la) rfl zc_5_117 gd_X6_isWithin rfl rfl rfl (Nat.le_of_ble_eq_true rfl) (ct_X6_isWithin (d := _)) ⟨Nat.le_refl _, Nat.le_refl _⟩ ?_
          refine zv_run 0 (pc' := 55) (lo' := [some (.ref 4), some (.ref 2)]) (st' := [.int (fi_in I 2 (fi_num I 1) 99)]) (I' := I) (L' := L) (R' := zw_RC h sp la) rfl ?_
          refine zv_if_eq (tgt := 91) (zs_at rfl) (by decide) (fun c55 => ?_) (fun c55 => ?_)
          · have _c := c55
            refine zv_run 1 (pc' := 92) (lo' := [some (.ref 4), some (.ref 2)]) (st' := [.int 0]) (I' := I) (L' := L) (R' := zw_RC h sp la) rfl ?_
            exact zv_zret (zs_at rfl) rfl (Or.inl rfl) ⟨Nat.le_refl _, Nat.le_refl _⟩ (absurd hok (fun q => by first | exact q.1 c9 | exact c18 q.2.1 | exact q.2.2.1 c29 | exact q.2.2.2.1 c40 | exact q.2.2.2.2.1 c55 | exact q.2.2.2.2.2.1 c66 | exact q.2.2.2.2.2.2.1 c77 | exact q.2.2.2.2.2.2.2 c88))
          · have _c := c55
            refine zv_run 4 (pc' := 63) (lo' := [some (.ref 4), some (.ref 2)]) (st' := [.int 20, .int 1, .int 3, .ref 2]) (I' := I) (L' := L) (R' := zw_RC h sp la) rfl ?_
            refine zv_cV (M' := mm_X6_isWithin) (ci := 6) (a := 2) (av := [.int 3, .int 1, .int 20]) (st := []) (r := some (.int (fi_in I 3 1 20))) (I' := I) (L' := L) (R' := zw_RC h sp la) rfl zc_5_117 gd_X6_isWithin rfl rfl rfl (Nat.le_of_ble_eq_true rfl) (ct_X6_isWithin (d := _)) ⟨Nat.le_refl _, Nat.le_refl _⟩ ?_
            refine zv_run 0 (pc' := 66) (lo' := [some (.ref 4), some (.ref 2)]) (st' := [.int (fi_in I 3 1 20)]) (I' := I) (L' := L) (R' := zw_RC h sp la) rfl ?_
            refine zv_if_eq (tgt := 91) (zs_at rfl) (by decide) (fun c66 => ?_) (fun c66 => ?_)
            · have _c := c66
              refine zv_run 1 (pc' := 92) (lo' := [some (.ref 4), some (.ref 2)]) (st' := [.int 0]) (I' := I) (L' := L) (R' := zw_RC h sp la) rfl ?_
              exact zv_zret (zs_at rfl) rfl (Or.inl rfl) ⟨Nat.le_refl _, Nat.le_refl _⟩ (absurd hok (fun q => by first | exact q.1 c9 | exact c18 q.2.1 | exact q.2.2.1 c29 | exact q.2.2.2.1 c40 | exact q.2.2.2.2.1 c55 | exact q.2.2.2.2.2.1 c66 | exact q.2.2.2.2.2.2.1 c77 | exact q.2.2.2.2.2.2.2 c88))
            · have _c := c66
              refine zv_run 4 (pc' := 74) (lo' := [some (.ref 4), some (.ref 2)]) (st' := [.int 60, .int 0, .int 4, .ref 2]) (I' := I) (L' := L) (R' := zw_RC h sp la) rfl ?_
              refine zv_cV (M' := mm_X6_isWithin) (ci := 6) (a := 2) (av := [.int 4, .int 0, .int 60]) (st := []) (r := some (.int (fi_in I 4 0 60))) (I' := I) (L' := L) (R' := zw_RC h sp la) rfl zc_5_117 gd_X6_isWithin rfl rfl rfl (Nat.le_of_ble_eq_true rfl) (ct_X6_isWithin (d := _)) ⟨Nat.le_refl _, Nat.le_refl _⟩ ?_
              refine zv_run 0 (pc' := 77) (lo' := [some (.ref 4), some (.ref 2)]) (st' := [.int (fi_in I 4 0 60)]) (I' := I) (L' := L) (R' := zw_RC h sp la) rfl ?_
              refine zv_if_eq (tgt := 91) (zs_at rfl) (by decide) (fun c77 => ?_) (fun c77 => ?_)
              · have _c := c77
                refine zv_run 1 (pc' := 92) (lo' := [some (.ref 4), some (.ref 2)]) (st' := [.int 0]) (I' := I) (L' := L) (R' := zw_RC h sp la) rfl ?_
                exact zv_zret (zs_at rfl) rfl (Or.inl rfl) ⟨Nat.le_refl _, Nat.le_refl _⟩ (absurd hok (fun q => by first | exact q.1 c9 | exact c18 q.2.1 | exact q.2.2.1 c29 | exact q.2.2.2.1 c40 | exact q.2.2.2.2.1 c55 | exact q.2.2.2.2.2.1 c66 | exact q.2.2.2.2.2.2.1 c77 | exact q.2.2.2.2.2.2.2 c88))
              · have _c := c77
                refine zv_run 4 (pc' := 85) (lo' := [some (.ref 4), some (.ref 2)]) (st' := [.int 99, .int 0, .int 5, .ref 2]) (I' := I) (L' := L) (R' := zw_RC h sp la) rfl ?_
                refine zv_cV (M' := mm_X6_isWithin) (ci := 6) (a := 2) (av := [.int 5, .int 0, .int 99]) (st := []) (r := some (.int (fi_in I 5 0 99))) (I' := I) (L' := L) (R' := zw_RC h sp la) rfl zc_5_117 gd_X6_isWithin rfl rfl rfl (Nat.le_of_ble_eq_true rfl) (ct_X6_isWithin (d := _)) ⟨Nat.le_refl _, Nat.le_refl _⟩ ?_
                refine zv_run 0 (pc' := 88) (lo' := [some (.ref 4), some (.ref 2)]) (st' := [.int (fi_in I 5 0 99)]) (I' := I) (L' := L) (R' := zw_RC h sp la) rfl ?_
                refine zv_if_ne (tgt := 93) (zs_at rfl) (by decide) (fun c88 => ?_) (fun c88 => ?_)
                · have _c := c88
                  refine zv_run 4 (pc' := 101) (lo' := [some (.ref 4), some (.ref 2)]) (st' := [.int (I 4 13), .ref 7]) (I' := I) (L' := L) (R' := zw_RC h sp la) rfl ?_
                  refine zv_aald (zs_at rfl) rfl (Or.inl rfl) (by rw [hc]; exact vp_in_nI hc6 (by decide)) ?_
                  refine zv_run 0 (pc' := 102) (lo' := [some (.ref 4), some (.ref 2)]) (st' := [.ref (8 + c)]) (I' := I) (L' := L) (R' := zw_RC h sp la) (by rw [hc, nI_clamp (by omega), rc_7 hc6]; rfl) ?_
                  refine zv_run 1 (pc' := 103) (lo' := [some (.ref 4), some (.ref 2)]) (st' := [.ref 2, .ref (8 + c)]) (I' := I) (L' := L) (R' := zw_RC h sp la) rfl ?_
                  refine zv_cV (M' := mm_X2_become) (ci := 2) (a := (8 + c)) (av := [.ref 2]) (st := []) (r := none) (I' := (fb_become I (8 + c))) (L' := L) (R' := zw_RC h sp la) rfl zc_5_125 gd_X2_become (bt_S (by unfold bt; omega)) rfl rfl (Nat.le_of_ble_eq_true rfl) (ct_X2_become (d := _) (by unfold bt; omega)) ⟨Nat.le_refl _, Nat.le_refl _⟩ ?_
                  refine zv_run 0 (pc' := 106) (lo' := [some (.ref 4), some (.ref 2)]) (st' := []) (I' := (fb_become I (8 + c))) (L' := L) (R' := zw_RC h sp la) rfl ?_
                  refine zv_run 2 (pc' := 108) (lo' := [some (.ref 4), some (.ref 2)]) (st' := [.ref 4, .ref 4]) (I' := (fb_become I (8 + c))) (L' := L) (R' := zw_RC h sp la) rfl ?_
                  refine zv_get (ci := 5) (k := 13) (t := 0) (zs_at rfl) (zf_ok rfl) rfl rfl ?_
                  refine zv_run 0 (pc' := 111) (lo' := [some (.ref 4), some (.ref 2)]) (st' := [.int (I 4 13), .ref 4]) (I' := (fb_become I (8 + c))) (L' := L) (R' := zw_RC h sp la) (by rw [show (fb_become I (8 + c)) 4 13 = I 4 13 from by simp [zx_uI, zr, zmap, fb_become]]; rfl) ?_
                  refine zv_run 4 (pc' := 117) (lo' := [some (.ref 4), some (.ref 2)]) (st' := [.int 1]) (I' := (zx_uI (fb_become I (8 + c)) 4 13 ((I 4 13) + 1))) (L' := L) (R' := zw_RC h sp la) rfl ?_
                  exact zv_zret (zs_at rfl) rfl (Or.inr rfl) ⟨Nat.le_refl _, Nat.le_refl _⟩ (zw_to rfl rfl rfl rfl)
                · have _c := c88
                  refine zv_run 1 (pc' := 92) (lo' := [some (.ref 4), some (.ref 2)]) (st' := [.int 0]) (I' := I) (L' := L) (R' := zw_RC h sp la) rfl ?_
                  exact zv_zret (zs_at rfl) rfl (Or.inl rfl) ⟨Nat.le_refl _, Nat.le_refl _⟩ (absurd hok (fun q => by first | exact q.1 c9 | exact c18 q.2.1 | exact q.2.2.1 c29 | exact q.2.2.2.1 c40 | exact q.2.2.2.2.1 c55 | exact q.2.2.2.2.2.1 c66 | exact q.2.2.2.2.2.2.1 c77 | exact q.2.2.2.2.2.2.2 c88))
theorem ct_X5_takesBather_14 {d : Nat} {I : zx_I} {L : zx_L} {h sp : Nat} {la : Option Nat} {c : Nat} (hc6 : c < 6) (hc : I 14 13 = nI c) (hok : ti_bather I 14) : zx_M0 mm_X5_takesBather (d + 2) 0 0 [.ref 14, .ref 2] zw_SC I L (zw_RC h sp la) (zw_ret (some (.int 1)) zw_SC (tm_bather I 14 c) L (zw_RC h sp la)) := by
  refine zv_entry gd_X5_takesBather (Nat.le_of_ble_eq_true rfl) ?_
  refine zv_run 5 (pc' := 9) (lo' := [some (.ref 14), some (.ref 2)]) (st' := [.int 6, .int (I 14 13)]) (I' := I) (L' := L) (R' := zw_RC h sp la) rfl ?_
  refine zv_icmp_ge (tgt := 91) (zs_at rfl) (by decide) (fun c9 => ?_) (fun c9 => ?_)
  · have _c := c9
    refine zv_run 1 (pc' := 92) (lo' := [some (.ref 14), some (.ref 2)]) (st' := [.int 0]) (I' := I) (L' := L) (R' := zw_RC h sp la) rfl ?_
    exact zv_zret (zs_at rfl) rfl (Or.inl rfl) ⟨Nat.le_refl _, Nat.le_refl _⟩ (absurd hok (fun q => by first | exact q.1 c9 | exact c18 q.2.1 | exact q.2.2.1 c29 | exact q.2.2.2.1 c40 | exact q.2.2.2.2.1 c55 | exact q.2.2.2.2.2.1 c66 | exact q.2.2.2.2.2.2.1 c77 | exact q.2.2.2.2.2.2.2 c88))
  · have _c := c9
    refine zv_run 3 (pc' := 18) (lo' := [some (.ref 14), some (.ref 2)]) (st' := [.int 6, .int (I 2 2)]) (I' := I) (L' := L) (R' := zw_RC h sp la) rfl ?_
    refine zv_icmp_ne (tgt := 91) (zs_at rfl) (by decide) (fun c18 => ?_) (fun c18 => ?_)
    · have _c := c18
      refine zv_run 1 (pc' := 92) (lo' := [some (.ref 14), some (.ref 2)]) (st' := [.int 0]) (I' := I) (L' := L) (R' := zw_RC h sp la) rfl ?_
      exact zv_zret (zs_at rfl) rfl (Or.inl rfl) ⟨Nat.le_refl _, Nat.le_refl _⟩ (absurd hok (fun q => by first | exact q.1 c9 | exact c18 q.2.1 | exact q.2.2.1 c29 | exact q.2.2.2.1 c40 | exact q.2.2.2.2.1 c55 | exact q.2.2.2.2.2.1 c66 | exact q.2.2.2.2.2.2.1 c77 | exact q.2.2.2.2.2.2.2 c88))
    · have _c := c18
      refine zv_run 4 (pc' := 26) (lo' := [some (.ref 14), some (.ref 2)]) (st' := [.int 99, .int 1, .int 0, .ref 2]) (I' := I) (L' := L) (R' := zw_RC h sp la) rfl ?_
      refine zv_cV (M' := mm_X6_isWithin) (ci := 6) (a := 2) (av := [.int 0, .int 1, .int 99]) (st := []) (r := some (.int (fi_in I 0 1 99))) (I' := I) (L' := L) (R' := zw_RC h sp la) rfl zc_5_117 gd_X6_isWithin rfl rfl rfl (Nat.le_of_ble_eq_true rfl) (ct_X6_isWithin (d := _)) ⟨Nat.le_refl _, Nat.le_refl _⟩ ?_
      refine zv_run 0 (pc' := 29) (lo' := [some (.ref 14), some (.ref 2)]) (st' := [.int (fi_in I 0 1 99)]) (I' := I) (L' := L) (R' := zw_RC h sp la) rfl ?_
      refine zv_if_eq (tgt := 91) (zs_at rfl) (by decide) (fun c29 => ?_) (fun c29 => ?_)
      · have _c := c29
        refine zv_run 1 (pc' := 92) (lo' := [some (.ref 14), some (.ref 2)]) (st' := [.int 0]) (I' := I) (L' := L) (R' := zw_RC h sp la) rfl ?_
        exact zv_zret (zs_at rfl) rfl (Or.inl rfl) ⟨Nat.le_refl _, Nat.le_refl _⟩ (absurd hok (fun q => by first | exact q.1 c9 | exact c18 q.2.1 | exact q.2.2.1 c29 | exact q.2.2.2.1 c40 | exact q.2.2.2.2.1 c55 | exact q.2.2.2.2.2.1 c66 | exact q.2.2.2.2.2.2.1 c77 | exact q.2.2.2.2.2.2.2 c88))
      · have _c := c29
        refine zv_run 4 (pc' := 37) (lo' := [some (.ref 14), some (.ref 2)]) (st' := [.int 99, .int 0, .int 1, .ref 2]) (I' := I) (L' := L) (R' := zw_RC h sp la) rfl ?_
        refine zv_cV (M' := mm_X6_isWithin) (ci := 6) (a := 2) (av := [.int 1, .int 0, .int 99]) (st := []) (r := some (.int (fi_in I 1 0 99))) (I' := I) (L' := L) (R' := zw_RC h sp la) rfl zc_5_117 gd_X6_isWithin rfl rfl rfl (Nat.le_of_ble_eq_true rfl) (ct_X6_isWithin (d := _)) ⟨Nat.le_refl _, Nat.le_refl _⟩ ?_
        refine zv_run 0 (pc' := 40) (lo' := [some (.ref 14), some (.ref 2)]) (st' := [.int (fi_in I 1 0 99)]) (I' := I) (L' := L) (R' := zw_RC h sp la) rfl ?_
        refine zv_if_eq (tgt := 91) (zs_at rfl) (by decide) (fun c40 => ?_) (fun c40 => ?_)
        · have _c := c40
          refine zv_run 1 (pc' := 92) (lo' := [some (.ref 14), some (.ref 2)]) (st' := [.int 0]) (I' := I) (L' := L) (R' := zw_RC h sp la) rfl ?_
          exact zv_zret (zs_at rfl) rfl (Or.inl rfl) ⟨Nat.le_refl _, Nat.le_refl _⟩ (absurd hok (fun q => by first | exact q.1 c9 | exact c18 q.2.1 | exact q.2.2.1 c29 | exact q.2.2.2.1 c40 | exact q.2.2.2.2.1 c55 | exact q.2.2.2.2.2.1 c66 | exact q.2.2.2.2.2.2.1 c77 | exact q.2.2.2.2.2.2.2 c88))
        · have _c := c40
          refine zv_run 4 (pc' := 47) (lo' := [some (.ref 14), some (.ref 2)]) (st' := [.int 1, .ref 2, .int 2, .ref 2]) (I' := I) (L' := L) (R' := zw_RC h sp la) rfl ?_
          refine zv_cV (M' := mm_X6_number) (ci := 6) (a := 2) (av := [.int 1]) (st := [.int 2, .ref 2]) (r := some (.int (fi_num I 1))) (I' := I) (L' := L) (R' := zw_RC h sp la) rfl zc_5_121 gd_X6_number rfl rfl rfl (Nat.le_of_ble_eq_true rfl) (ct_X6_number (d := _) (I := I)) ⟨Nat.le_refl _, Nat.le_refl _⟩ ?_
          refine zv_run 0 (pc' := 50) (lo' := [some (.ref 14), some (.ref 2)]) (st' := [.int (fi_num I 1), .int 2, .ref 2]) (I' := I) (L' := L) (R' := zw_RC h sp la) rfl ?_
          refine zv_run 1 (pc' := 52) (lo' := [some (.ref 14), some (.ref 2)]) (st' := [.int 99, .int (fi_num I 1), .int 2, .ref 2]) (I' := I) (L' := L) (R' := zw_RC h sp la) rfl ?_
          refine zv_cV (M' := mm_X6_isWithin) (ci := 6) (a := 2) (av := [.int 2, .int (fi_num I 1), .int 99]) (st := []) (r := some (.int (fi_in I 2 (fi_num I 1) 99))) (I' := I) (L' := L) (R' := zw_RC h sp la) rfl zc_5_117 gd_X6_isWithin rfl rfl rfl (Nat.le_of_ble_eq_true rfl) (ct_X6_isWithin (d := _)) ⟨Nat.le_refl _, Nat.le_refl _⟩ ?_
          refine zv_run 0 (pc' := 55) (lo' := [some (.ref 14), some (.ref 2)]) (st' := [.int (fi_in I 2 (fi_num I 1) 99)]) (I' := I) (L' := L) (R' := zw_RC h sp la) rfl ?_
          refine zv_if_eq (tgt := 91) (zs_at rfl) (by decide) (fun c55 => ?_) (fun c55 => ?_)
          · have _c := c55
            refine zv_run 1 (pc' := 92) (lo' := [some (.ref 14), some (.ref 2)]) (st' := [.int 0]) (I' := I) (L' := L) (R' := zw_RC h sp la) rfl ?_
            exact zv_zret (zs_at rfl) rfl (Or.inl rfl) ⟨Nat.le_refl _, Nat.le_refl _⟩ (absurd hok (fun q => by first | exact q.1 c9 | exact c18 q.2.1 | exact q.2.2.1 c29 | exact q.2.2.2.1 c40 | exact q.2.2.2.2.1 c55 | exact q.2.2.2.2.2.1 c66 | exact q.2.2.2.2.2.2.1 c77 | exact q.2.2.2.2.2.2.2 c88))
          · have _c := c55
            refine zv_run 4 (pc' := 63) (lo' := [some (.ref 14), some (.ref 2)]) (st' := [.int 20, .int 1, .int 3, .ref 2]) (I' := I) (L' := L) (R' := zw_RC h sp la) rfl ?_
            refine zv_cV (M' := mm_X6_isWithin) (ci := 6) (a := 2) (av := [.int 3, .int 1, .int 20]) (st := []) (r := some (.int (fi_in I 3 1 20))) (I' := I) (L' := L) (R' := zw_RC h sp la) rfl zc_5_117 gd_X6_isWithin rfl rfl rfl (Nat.le_of_ble_eq_true rfl) (ct_X6_isWithin (d := _)) ⟨Nat.le_refl _, Nat.le_refl _⟩ ?_
            refine zv_run 0 (pc' := 66) (lo' := [some (.ref 14), some (.ref 2)]) (st' := [.int (fi_in I 3 1 20)]) (I' := I) (L' := L) (R' := zw_RC h sp la) rfl ?_
            refine zv_if_eq (tgt := 91) (zs_at rfl) (by decide) (fun c66 => ?_) (fun c66 => ?_)
            · have _c := c66
              refine zv_run 1 (pc' := 92) (lo' := [some (.ref 14), some (.ref 2)]) (st' := [.int 0]) (I' := I) (L' := L) (R' := zw_RC h sp la) rfl ?_
              exact zv_zret (zs_at rfl) rfl (Or.inl rfl) ⟨Nat.le_refl _, Nat.le_refl _⟩ (absurd hok (fun q => by first | exact q.1 c9 | exact c18 q.2.1 | exact q.2.2.1 c29 | exact q.2.2.2.1 c40 | exact q.2.2.2.2.1 c55 | exact q.2.2.2.2.2.1 c66 | exact q.2.2.2.2.2.2.1 c77 | exact q.2.2.2.2.2.2.2 c88))
            · have _c := c66
              refine zv_run 4 (pc' := 74) (lo' := [some (.ref 14), some (.ref 2)]) (st' := [.int 60, .int 0, .int 4, .ref 2]) (I' := I) (L' := L) (R' := zw_RC h sp la) rfl ?_
              refine zv_cV (M' := mm_X6_isWithin) (ci := 6) (a := 2) (av := [.int 4, .int 0, .int 60]) (st := []) (r := some (.int (fi_in I 4 0 60))) (I' := I) (L' := L) (R' := zw_RC h sp la) rfl zc_5_117 gd_X6_isWithin rfl rfl rfl (Nat.le_of_ble_eq_true rfl) (ct_X6_isWithin (d := _)) ⟨Nat.le_refl _, Nat.le_refl _⟩ ?_
              refine zv_run 0 (pc' := 77) (lo' := [some (.ref 14), some (.ref 2)]) (st' := [.int (fi_in I 4 0 60)]) (I' := I) (L' := L) (R' := zw_RC h sp la) rfl ?_
              refine zv_if_eq (tgt := 91) (zs_at rfl) (by decide) (fun c77 => ?_) (fun c77 => ?_)
              · have _c := c77
                refine zv_run 1 (pc' := 92) (lo' := [some (.ref 14), some (.ref 2)]) (st' := [.int 0]) (I' := I) (L' := L) (R' := zw_RC h sp la) rfl ?_
                exact zv_zret (zs_at rfl) rfl (Or.inl rfl) ⟨Nat.le_refl _, Nat.le_refl _⟩ (absurd hok (fun q => by first | exact q.1 c9 | exact c18 q.2.1 | exact q.2.2.1 c29 | exact q.2.2.2.1 c40 | exact q.2.2.2.2.1 c55 | exact q.2.2.2.2.2.1 c66 | exact q.2.2.2.2.2.2.1 c77 | exact q.2.2.2.2.2.2.2 c88))
              · have _c := c77
                refine zv_run 4 (pc' := 85) (lo' := [some (.ref 14), some (.ref 2)]) (st' := [.int 99, .int 0, .int 5, .ref 2]) (I' := I) (L' := L) (R' := zw_RC h sp la) rfl ?_
                refine zv_cV (M' := mm_X6_isWithin) (ci := 6) (a := 2) (av := [.int 5, .int 0, .int 99]) (st := []) (r := some (.int (fi_in I 5 0 99))) (I' := I) (L' := L) (R' := zw_RC h sp la) rfl zc_5_117 gd_X6_isWithin rfl rfl rfl (Nat.le_of_ble_eq_true rfl) (ct_X6_isWithin (d := _)) ⟨Nat.le_refl _, Nat.le_refl _⟩ ?_
                refine zv_run 0 (pc' := 88) (lo' := [some (.ref 14), some (.ref 2)]) (st' := [.int (fi_in I 5 0 99)]) (I' := I) (L' := L) (R' := zw_RC h sp la) rfl ?_
                refine zv_if_ne (tgt := 93) (zs_at rfl) (by decide) (fun c88 => ?_) (fun c88 => ?_)
                · have _c := c88
                  refine zv_run 4 (pc' := 101) (lo' := [some (.ref 14), some (.ref 2)]) (st' := [.int (I 14 13), .ref 17]) (I' := I) (L' := L) (R' := zw_RC h sp la) rfl ?_
                  refine zv_aald (zs_at rfl) rfl (Or.inl rfl) (by rw [hc]; exact vp_in_nI hc6 (by decide)) ?_
                  refine zv_run 0 (pc' := 102) (lo' := [some (.ref 14), some (.ref 2)]) (st' := [.ref (18 + c)]) (I' := I) (L' := L) (R' := zw_RC h sp la) (by rw [hc, nI_clamp (by omega), rc_17 hc6]; rfl) ?_
                  refine zv_run 1 (pc' := 103) (lo' := [some (.ref 14), some (.ref 2)]) (st' := [.ref 2, .ref (18 + c)]) (I' := I) (L' := L) (R' := zw_RC h sp la) rfl ?_
                  refine zv_cV (M' := mm_X2_become) (ci := 2) (a := (18 + c)) (av := [.ref 2]) (st := []) (r := none) (I' := (fb_become I (18 + c))) (L' := L) (R' := zw_RC h sp la) rfl zc_5_125 gd_X2_become (bt_S (by unfold bt; omega)) rfl rfl (Nat.le_of_ble_eq_true rfl) (ct_X2_become (d := _) (by unfold bt; omega)) ⟨Nat.le_refl _, Nat.le_refl _⟩ ?_
                  refine zv_run 0 (pc' := 106) (lo' := [some (.ref 14), some (.ref 2)]) (st' := []) (I' := (fb_become I (18 + c))) (L' := L) (R' := zw_RC h sp la) rfl ?_
                  refine zv_run 2 (pc' := 108) (lo' := [some (.ref 14), some (.ref 2)]) (st' := [.ref 14, .ref 14]) (I' := (fb_become I (18 + c))) (L' := L) (R' := zw_RC h sp la) rfl ?_
                  refine zv_get (ci := 5) (k := 13) (t := 0) (zs_at rfl) (zf_ok rfl) rfl rfl ?_
                  refine zv_run 0 (pc' := 111) (lo' := [some (.ref 14), some (.ref 2)]) (st' := [.int (I 14 13), .ref 14]) (I' := (fb_become I (18 + c))) (L' := L) (R' := zw_RC h sp la) (by rw [show (fb_become I (18 + c)) 14 13 = I 14 13 from by simp [zx_uI, zr, zmap, fb_become]]; rfl) ?_
                  refine zv_run 4 (pc' := 117) (lo' := [some (.ref 14), some (.ref 2)]) (st' := [.int 1]) (I' := (zx_uI (fb_become I (18 + c)) 14 13 ((I 14 13) + 1))) (L' := L) (R' := zw_RC h sp la) rfl ?_
                  exact zv_zret (zs_at rfl) rfl (Or.inr rfl) ⟨Nat.le_refl _, Nat.le_refl _⟩ (zw_to rfl rfl rfl rfl)
                · have _c := c88
                  refine zv_run 1 (pc' := 92) (lo' := [some (.ref 14), some (.ref 2)]) (st' := [.int 0]) (I' := I) (L' := L) (R' := zw_RC h sp la) rfl ?_
                  exact zv_zret (zs_at rfl) rfl (Or.inl rfl) ⟨Nat.le_refl _, Nat.le_refl _⟩ (absurd hok (fun q => by first | exact q.1 c9 | exact c18 q.2.1 | exact q.2.2.1 c29 | exact q.2.2.2.1 c40 | exact q.2.2.2.2.1 c55 | exact q.2.2.2.2.2.1 c66 | exact q.2.2.2.2.2.2.1 c77 | exact q.2.2.2.2.2.2.2 c88))
def ti_num (I : zx_I) : Int32 := if I 2 1 = 99 then fi_one I 0 9 else if I 2 1 = 113 then fi_one I 0 9 else if I 2 1 = 110 then fi_one I 1 60 else 0
def tm_num (I : zx_I) (a : Nat) : zx_I := if I 2 1 = 99 then zx_uI I a 8 (fi_num I 0) else if I 2 1 = 113 then zx_uI I a 11 (fi_num I 0) else zx_uI I a 12 (fi_num I 0)
