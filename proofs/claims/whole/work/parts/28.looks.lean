/-! looks; rows by numbers; best, swapped -/
theorem kr_lk {K : zx_I → Prop} {h : Nat} {L : zx_L} (hK : kr K h) (hw9 : ∀ j, j < 6 → ∀ J x, K J → K (zx_uI J (h + 4 + j) 9 x)) : ∀ (n i : Nat) (an : Int32) (J : zx_I), i + n ≤ 6 → K J → K (lk_2 h L n i an J).2 := by
  intro n
  induction n with
  | zero => intro i an J _ hJ; exact hJ
  | succ n ih =>
    intro i an J hi hJ
    rw [lk_2]
    exact ih _ _ _ (by omega) (hw9 i (by omega) _ _ (kr_bc hK (hw9 i (by omega)) _ _ _ _ _ hJ))
def lk_v (I : zx_I) (m : Nat) (L : zx_L) (h : Nat) (w : Option Nat) : Int32 := if (lk_1 h m L 12 0 1 I).2.1 = 0 then (match w with
  | none => nI (lk_1 h m L 12 0 1 I).1
  | some w => (lk_1 h m L 12 0 1 I).2.2 w 9 - (lk_1 h m L 12 0 1 I).2.2 w 5) else -4
theorem bt_4 {t : Nat} (h : t < 6) : bt (8 + t) := by unfold bt; omega
theorem lp2_X9_looks_4 {d : Nat} {K : zx_I → Prop} {m : Nat} {L : zx_L} {what : Int32} {wl : Option Nat} {Q : zx_Qt} (hK : kr K 4) (hw9 : ∀ j, j < 6 → ∀ J x, K J → K (zx_uI J (4 + 4 + j) 9 x)) (hmm : ∀ J, K J → J 4 13 = nI m) (hm6 : m ≤ 6) {r : Int32} : ∀ (n t : Nat) (an : Int32) (J : zx_I) (la : Option Nat) (x6 x7 : Option Value), t + n = m → K J → (∀ la x5 x6 x7, K (lk_2 4 L n t an J).2 → zx_V mm_X9_looks (d + 6) z0 Q zw_SC 31 [some (.ref 0), some (.int what), some (va_rf wl), some (.int ((lk_2 4 L n t an J).1)), some (.int (r)), x5, x6, x7] [] (lk_2 4 L n t an J).2 L (zw_RC 4 14 la)) → zx_V mm_X9_looks (d + 6) z0 Q zw_SC 50 [some (.ref 0), some (.int what), some (va_rf wl), some (.int (an)), some (.int (r)), some (.int (nI t)), x6, x7] [] J L (zw_RC 4 14 la) := by
  rcases wl with _ | wl
  · intro n
    induction n with
    | zero =>
      intro t an J la x6 x7 ht hJ hk
      refine zv_run 4 (pc' := 59) (lo' := [some (.ref 0), some (.int what), some (.null), some (.int an), some (.int r), some (.int (nI t)), x6, x7]) (st' := [.int (J 4 13), .int (nI t)]) (I' := J) (L' := L) (R' := zw_RC 4 14 la) rfl ?_
      refine zv_icmp_ge (tgt := 122) (zs_at rfl) (by decide) (fun c59 => ?_) (fun c59 => ?_)
      · have _c := c59
        refine zv_run 1 (pc' := 31) (lo' := [some (.ref 0), some (.int what), some (.null), some (.int an), some (.int r), some (.int (nI t)), x6, x7]) (st' := []) (I' := J) (L' := L) (R' := zw_RC 4 14 la) rfl ?_
        exact hk la _ _ _ hJ
      · exact absurd (by rw [hmm J hJ]; exact nI_le (by omega) (by omega)) c59
    | succ n ih =>
      intro t an J la x6 x7 ht hJ hk
      refine zv_run 4 (pc' := 59) (lo' := [some (.ref 0), some (.int what), some (.null), some (.int an), some (.int r), some (.int (nI t)), x6, x7]) (st' := [.int (J 4 13), .int (nI t)]) (I' := J) (L' := L) (R' := zw_RC 4 14 la) rfl ?_
      refine zv_icmp_ge (tgt := 122) (zs_at rfl) (by decide) (fun c59 => ?_) (fun c59 => ?_)
      · exact absurd c59 (by rw [hmm J hJ]; exact nI_ge (by omega) (by omega))
      · have _c := c59
        refine zv_run 3 (pc' := 68) (lo' := [some (.ref 0), some (.int what), some (.null), some (.int an), some (.int r), some (.int (nI t)), x6, x7]) (st' := [.int (nI t), .ref 4]) (I' := J) (L' := L) (R' := zw_RC 4 14 la) rfl ?_
        refine zv_cV (M' := mm_X5_who) (ci := 5) (a := 4) (av := [.int (nI t)]) (st := []) (r := some (.ref (8 + t))) (I' := J) (L' := L) (R' := zw_RC 4 14 la) rfl zc_9_85 gd_X5_who rfl rfl rfl (Nat.le_of_ble_eq_true rfl) (ct2_X5_who (d := _) (Or.inl rfl) (hmm J hJ) (by omega) hm6) ⟨Nat.le_refl _, Nat.le_refl _⟩ ?_
        refine zv_run 0 (pc' := 71) (lo' := [some (.ref 0), some (.int what), some (.null), some (.int an), some (.int r), some (.int (nI t)), x6, x7]) (st' := [.ref (8 + t)]) (I' := J) (L' := L) (R' := zw_RC 4 14 la) rfl ?_
        refine zv_run 2 (pc' := 75) (lo' := [some (.ref 0), some (.int what), some (.null), some (.int an), some (.int r), some (.int (nI t)), some (.ref (8 + t)), x7]) (st' := [.ref (8 + t)]) (I' := J) (L' := L) (R' := zw_RC 4 14 la) rfl ?_
        refine zv_ifnull (zs_at rfl) ?_
        refine zv_run 1 (pc' := 80) (lo' := [some (.ref 0), some (.int what), some (.null), some (.int an), some (.int r), some (.int (nI t)), some (.ref (8 + t)), x7]) (st' := [.ref (8 + t)]) (I' := J) (L' := L) (R' := zw_RC 4 14 la) rfl ?_
        refine zv_get (ci := 2) (k := 9) (t := 0) (zs_at rfl) (zf_ok rfl) (bt_S (bt_4 (by omega))) rfl ?_
        refine zv_run 0 (pc' := 83) (lo' := [some (.ref 0), some (.int what), some (.null), some (.int an), some (.int r), some (.int (nI t)), some (.ref (8 + t)), x7]) (st' := [.int (J (8 + t) 9)]) (I' := J) (L' := L) (R' := zw_RC 4 14 la) rfl ?_
        refine zv_run 4 (pc' := 90) (lo' := [some (.ref 0), some (.int what), some (.null), some (.int an), some (.int r), some (.int (nI t)), some (.ref (8 + t)), some (.int (J (8 + t) 9))]) (st' := [.ref (8 + t), .ref 0, .ref (8 + t)]) (I' := J) (L' := L) (R' := zw_RC 4 14 la) rfl ?_
        refine zv_cVa (M' := mm_X9_bestToCome) (ci := 9) (a := 0) (av := [.ref (8 + t)]) (st := [.ref (8 + t)]) (r := some (.int ((bc_best 4 (8 + t) L J).1))) (I' := (bc_best 4 (8 + t) L J).2) (L' := L) rfl zc_9_246 gd_X9_bestToCome rfl rfl rfl (Nat.le_of_ble_eq_true rfl) (ct_X9_btc_4 (d := _) (bt_4 (by omega)) hK (hw9 t (by omega)) hJ) ⟨Nat.le_refl _, Nat.le_refl _⟩ ?_
        intro la1
        refine zv_run 0 (pc' := 93) (lo' := [some (.ref 0), some (.int what), some (.null), some (.int an), some (.int r), some (.int (nI t)), some (.ref (8 + t)), some (.int (J (8 + t) 9))]) (st' := [.int ((bc_best 4 (8 + t) L J).1), .ref (8 + t)]) (I' := (bc_best 4 (8 + t) L J).2) (L' := L) (R' := zw_RC 4 14 la1) rfl ?_
        refine zs_putI (ci := 2) (k := 9) (zs_at rfl) (zf_ok rfl) (bt_S (bt_4 (by omega))) (Or.inl rfl) rfl (fun q => absurd q (by decide)) ?_
        refine zv_run 1 (pc' := 97) (lo' := [some (.ref 0), some (.int what), some (.null), some (.int an), some (.int r), some (.int (nI t)), some (.ref (8 + t)), some (.int (J (8 + t) 9))]) (st' := [.int an]) (I' := (zx_uI ((bc_best 4 (8 + t) L J).2) (8 + t) 9 ((bc_best 4 (8 + t) L J).1))) (L' := L) (R' := zw_RC 4 14 la1) rfl ?_
        refine zv_if_ne (tgt := 110) (zs_at rfl) (by decide) (fun c97 => ?_) (fun c97 => ?_)
        · have _c := c97
          refine zv_run 2 (pc' := 115) (lo' := [some (.ref 0), some (.int what), some (.null), some (.int an), some (.int r), some (.int (nI t)), some (.ref (8 + t)), some (.int (J (8 + t) 9))]) (st' := [.int 1]) (I' := (zx_uI ((bc_best 4 (8 + t) L J).2) (8 + t) 9 ((bc_best 4 (8 + t) L J).1))) (L' := L) (R' := zw_RC 4 14 la1) rfl ?_
          refine zv_run 3 (pc' := 50) (lo' := [some (.ref 0), some (.int what), some (.null), some (.int 1), some (.int r), some (.int ((nI t) + 1)), some (.ref (8 + t)), some (.int (J (8 + t) 9))]) (st' := []) (I' := (zx_uI ((bc_best 4 (8 + t) L J).2) (8 + t) 9 ((bc_best 4 (8 + t) L J).1))) (L' := L) (R' := zw_RC 4 14 la1) rfl ?_
          have ea : lk_an an 4 (8 + t) L J = 1 := by unfold lk_an; first | exact if_pos c97 | (rw [if_neg (fun q => q c97)]; exact if_neg c107)
          have e : lk_2 4 L (n + 1) t an J = lk_2 4 L n (t + 1) (lk_an an 4 (8 + t) L J) (lk_next 4 (8 + t) L J) := by rw [lk_2]
          rw [e, ea] at hk
          rw [← nI_succ]
          exact ih (t + 1) _ _ _ _ _ (by omega) (hw9 t (by omega) _ _ (kr_bc hK (hw9 t (by omega)) _ _ _ _ _ hJ)) hk
        · have _c := c97
          refine zv_run 1 (pc' := 102) (lo' := [some (.ref 0), some (.int what), some (.null), some (.int an), some (.int r), some (.int (nI t)), some (.ref (8 + t)), some (.int (J (8 + t) 9))]) (st' := [.ref (8 + t)]) (I' := (zx_uI ((bc_best 4 (8 + t) L J).2) (8 + t) 9 ((bc_best 4 (8 + t) L J).1))) (L' := L) (R' := zw_RC 4 14 la1) rfl ?_
          refine zv_get (ci := 2) (k := 9) (t := 0) (zs_at rfl) (zf_ok rfl) (bt_S (bt_4 (by omega))) rfl ?_
          refine zv_run 0 (pc' := 105) (lo' := [some (.ref 0), some (.int what), some (.null), some (.int an), some (.int r), some (.int (nI t)), some (.ref (8 + t)), some (.int (J (8 + t) 9))]) (st' := [.int ((bc_best 4 (8 + t) L J).1)]) (I' := (zx_uI ((bc_best 4 (8 + t) L J).2) (8 + t) 9 ((bc_best 4 (8 + t) L J).1))) (L' := L) (R' := zw_RC 4 14 la1) (by rw [show (zx_uI ((bc_best 4 (8 + t) L J).2) (8 + t) 9 ((bc_best 4 (8 + t) L J).1)) (8 + t) 9 = (bc_best 4 (8 + t) L J).1 from by simp [zx_uI, zr, zmap]]; rfl) ?_
          refine zv_run 1 (pc' := 107) (lo' := [some (.ref 0), some (.int what), some (.null), some (.int an), some (.int r), some (.int (nI t)), some (.ref (8 + t)), some (.int (J (8 + t) 9))]) (st' := [.int (J (8 + t) 9), .int ((bc_best 4 (8 + t) L J).1)]) (I' := (zx_uI ((bc_best 4 (8 + t) L J).2) (8 + t) 9 ((bc_best 4 (8 + t) L J).1))) (L' := L) (R' := zw_RC 4 14 la1) rfl ?_
          refine zv_icmp_eq (tgt := 114) (zs_at rfl) (by decide) (fun c107 => ?_) (fun c107 => ?_)
          · have _c := c107
            refine zv_run 4 (pc' := 50) (lo' := [some (.ref 0), some (.int what), some (.null), some (.int 0), some (.int r), some (.int ((nI t) + 1)), some (.ref (8 + t)), some (.int (J (8 + t) 9))]) (st' := []) (I' := (zx_uI ((bc_best 4 (8 + t) L J).2) (8 + t) 9 ((bc_best 4 (8 + t) L J).1))) (L' := L) (R' := zw_RC 4 14 la1) rfl ?_
            have ea : lk_an an 4 (8 + t) L J = 0 := by unfold lk_an; rw [if_neg (fun q => q c97)]; exact if_pos c107
            have e : lk_2 4 L (n + 1) t an J = lk_2 4 L n (t + 1) (lk_an an 4 (8 + t) L J) (lk_next 4 (8 + t) L J) := by rw [lk_2]
            rw [e, ea] at hk
            rw [← nI_succ]
            exact ih (t + 1) _ _ _ _ _ (by omega) (hw9 t (by omega) _ _ (kr_bc hK (hw9 t (by omega)) _ _ _ _ _ hJ)) hk
          · have _c := c107
            refine zv_run 2 (pc' := 115) (lo' := [some (.ref 0), some (.int what), some (.null), some (.int an), some (.int r), some (.int (nI t)), some (.ref (8 + t)), some (.int (J (8 + t) 9))]) (st' := [.int 1]) (I' := (zx_uI ((bc_best 4 (8 + t) L J).2) (8 + t) 9 ((bc_best 4 (8 + t) L J).1))) (L' := L) (R' := zw_RC 4 14 la1) rfl ?_
            refine zv_run 3 (pc' := 50) (lo' := [some (.ref 0), some (.int what), some (.null), some (.int 1), some (.int r), some (.int ((nI t) + 1)), some (.ref (8 + t)), some (.int (J (8 + t) 9))]) (st' := []) (I' := (zx_uI ((bc_best 4 (8 + t) L J).2) (8 + t) 9 ((bc_best 4 (8 + t) L J).1))) (L' := L) (R' := zw_RC 4 14 la1) rfl ?_
            have ea : lk_an an 4 (8 + t) L J = 1 := by unfold lk_an; first | exact if_pos c97 | (rw [if_neg (fun q => q c97)]; exact if_neg c107)
            have e : lk_2 4 L (n + 1) t an J = lk_2 4 L n (t + 1) (lk_an an 4 (8 + t) L J) (lk_next 4 (8 + t) L J) := by rw [lk_2]
            rw [e, ea] at hk
            rw [← nI_succ]
            exact ih (t + 1) _ _ _ _ _ (by omega) (hw9 t (by omega) _ _ (kr_bc hK (hw9 t (by omega)) _ _ _ _ _ hJ)) hk
  · intro n
    induction n with
    | zero =>
      intro t an J la x6 x7 ht hJ hk
      refine zv_run 4 (pc' := 59) (lo' := [some (.ref 0), some (.int what), some (.ref wl), some (.int an), some (.int r), some (.int (nI t)), x6, x7]) (st' := [.int (J 4 13), .int (nI t)]) (I' := J) (L' := L) (R' := zw_RC 4 14 la) rfl ?_
      refine zv_icmp_ge (tgt := 122) (zs_at rfl) (by decide) (fun c59 => ?_) (fun c59 => ?_)
      · have _c := c59
        refine zv_run 1 (pc' := 31) (lo' := [some (.ref 0), some (.int what), some (.ref wl), some (.int an), some (.int r), some (.int (nI t)), x6, x7]) (st' := []) (I' := J) (L' := L) (R' := zw_RC 4 14 la) rfl ?_
        exact hk la _ _ _ hJ
      · exact absurd (by rw [hmm J hJ]; exact nI_le (by omega) (by omega)) c59
    | succ n ih =>
      intro t an J la x6 x7 ht hJ hk
      refine zv_run 4 (pc' := 59) (lo' := [some (.ref 0), some (.int what), some (.ref wl), some (.int an), some (.int r), some (.int (nI t)), x6, x7]) (st' := [.int (J 4 13), .int (nI t)]) (I' := J) (L' := L) (R' := zw_RC 4 14 la) rfl ?_
      refine zv_icmp_ge (tgt := 122) (zs_at rfl) (by decide) (fun c59 => ?_) (fun c59 => ?_)
      · exact absurd c59 (by rw [hmm J hJ]; exact nI_ge (by omega) (by omega))
      · have _c := c59
        refine zv_run 3 (pc' := 68) (lo' := [some (.ref 0), some (.int what), some (.ref wl), some (.int an), some (.int r), some (.int (nI t)), x6, x7]) (st' := [.int (nI t), .ref 4]) (I' := J) (L' := L) (R' := zw_RC 4 14 la) rfl ?_
        refine zv_cV (M' := mm_X5_who) (ci := 5) (a := 4) (av := [.int (nI t)]) (st := []) (r := some (.ref (8 + t))) (I' := J) (L' := L) (R' := zw_RC 4 14 la) rfl zc_9_85 gd_X5_who rfl rfl rfl (Nat.le_of_ble_eq_true rfl) (ct2_X5_who (d := _) (Or.inl rfl) (hmm J hJ) (by omega) hm6) ⟨Nat.le_refl _, Nat.le_refl _⟩ ?_
        refine zv_run 0 (pc' := 71) (lo' := [some (.ref 0), some (.int what), some (.ref wl), some (.int an), some (.int r), some (.int (nI t)), x6, x7]) (st' := [.ref (8 + t)]) (I' := J) (L' := L) (R' := zw_RC 4 14 la) rfl ?_
        refine zv_run 2 (pc' := 75) (lo' := [some (.ref 0), some (.int what), some (.ref wl), some (.int an), some (.int r), some (.int (nI t)), some (.ref (8 + t)), x7]) (st' := [.ref (8 + t)]) (I' := J) (L' := L) (R' := zw_RC 4 14 la) rfl ?_
        refine zv_ifnull (zs_at rfl) ?_
        refine zv_run 1 (pc' := 80) (lo' := [some (.ref 0), some (.int what), some (.ref wl), some (.int an), some (.int r), some (.int (nI t)), some (.ref (8 + t)), x7]) (st' := [.ref (8 + t)]) (I' := J) (L' := L) (R' := zw_RC 4 14 la) rfl ?_
        refine zv_get (ci := 2) (k := 9) (t := 0) (zs_at rfl) (zf_ok rfl) (bt_S (bt_4 (by omega))) rfl ?_
        refine zv_run 0 (pc' := 83) (lo' := [some (.ref 0), some (.int what), some (.ref wl), some (.int an), some (.int r), some (.int (nI t)), some (.ref (8 + t)), x7]) (st' := [.int (J (8 + t) 9)]) (I' := J) (L' := L) (R' := zw_RC 4 14 la) rfl ?_
        refine zv_run 4 (pc' := 90) (lo' := [some (.ref 0), some (.int what), some (.ref wl), some (.int an), some (.int r), some (.int (nI t)), some (.ref (8 + t)), some (.int (J (8 + t) 9))]) (st' := [.ref (8 + t), .ref 0, .ref (8 + t)]) (I' := J) (L' := L) (R' := zw_RC 4 14 la) rfl ?_
        refine zv_cVa (M' := mm_X9_bestToCome) (ci := 9) (a := 0) (av := [.ref (8 + t)]) (st := [.ref (8 + t)]) (r := some (.int ((bc_best 4 (8 + t) L J).1))) (I' := (bc_best 4 (8 + t) L J).2) (L' := L) rfl zc_9_246 gd_X9_bestToCome rfl rfl rfl (Nat.le_of_ble_eq_true rfl) (ct_X9_btc_4 (d := _) (bt_4 (by omega)) hK (hw9 t (by omega)) hJ) ⟨Nat.le_refl _, Nat.le_refl _⟩ ?_
        intro la1
        refine zv_run 0 (pc' := 93) (lo' := [some (.ref 0), some (.int what), some (.ref wl), some (.int an), some (.int r), some (.int (nI t)), some (.ref (8 + t)), some (.int (J (8 + t) 9))]) (st' := [.int ((bc_best 4 (8 + t) L J).1), .ref (8 + t)]) (I' := (bc_best 4 (8 + t) L J).2) (L' := L) (R' := zw_RC 4 14 la1) rfl ?_
        refine zs_putI (ci := 2) (k := 9) (zs_at rfl) (zf_ok rfl) (bt_S (bt_4 (by omega))) (Or.inl rfl) rfl (fun q => absurd q (by decide)) ?_
        refine zv_run 1 (pc' := 97) (lo' := [some (.ref 0), some (.int what), some (.ref wl), some (.int an), some (.int r), some (.int (nI t)), some (.ref (8 + t)), some (.int (J (8 + t) 9))]) (st' := [.int an]) (I' := (zx_uI ((bc_best 4 (8 + t) L J).2) (8 + t) 9 ((bc_best 4 (8 + t) L J).1))) (L' := L) (R' := zw_RC 4 14 la1) rfl ?_
        refine zv_if_ne (tgt := 110) (zs_at rfl) (by decide) (fun c97 => ?_) (fun c97 => ?_)
        · have _c := c97
          refine zv_run 2 (pc' := 115) (lo' := [some (.ref 0), some (.int what), some (.ref wl), some (.int an), some (.int r), some (.int (nI t)), some (.ref (8 + t)), some (.int (J (8 + t) 9))]) (st' := [.int 1]) (I' := (zx_uI ((bc_best 4 (8 + t) L J).2) (8 + t) 9 ((bc_best 4 (8 + t) L J).1))) (L' := L) (R' := zw_RC 4 14 la1) rfl ?_
          refine zv_run 3 (pc' := 50) (lo' := [some (.ref 0), some (.int what), some (.ref wl), some (.int 1), some (.int r), some (.int ((nI t) + 1)), some (.ref (8 + t)), some (.int (J (8 + t) 9))]) (st' := []) (I' := (zx_uI ((bc_best 4 (8 + t) L J).2) (8 + t) 9 ((bc_best 4 (8 + t) L J).1))) (L' := L) (R' := zw_RC 4 14 la1) rfl ?_
          have ea : lk_an an 4 (8 + t) L J = 1 := by unfold lk_an; first | exact if_pos c97 | (rw [if_neg (fun q => q c97)]; exact if_neg c107)
          have e : lk_2 4 L (n + 1) t an J = lk_2 4 L n (t + 1) (lk_an an 4 (8 + t) L J) (lk_next 4 (8 + t) L J) := by rw [lk_2]
          rw [e, ea] at hk
          rw [← nI_succ]
          exact ih (t + 1) _ _ _ _ _ (by omega) (hw9 t (by omega) _ _ (kr_bc hK (hw9 t (by omega)) _ _ _ _ _ hJ)) hk
        · have _c := c97
          refine zv_run 1 (pc' := 102) (lo' := [some (.ref 0), some (.int what), some (.ref wl), some (.int an), some (.int r), some (.int (nI t)), some (.ref (8 + t)), some (.int (J (8 + t) 9))]) (st' := [.ref (8 + t)]) (I' := (zx_uI ((bc_best 4 (8 + t) L J).2) (8 + t) 9 ((bc_best 4 (8 + t) L J).1))) (L' := L) (R' := zw_RC 4 14 la1) rfl ?_
          refine zv_get (ci := 2) (k := 9) (t := 0) (zs_at rfl) (zf_ok rfl) (bt_S (bt_4 (by omega))) rfl ?_
          refine zv_run 0 (pc' := 105) (lo' := [some (.ref 0), some (.int what), some (.ref wl), some (.int an), some (.int r), some (.int (nI t)), some (.ref (8 + t)), some (.int (J (8 + t) 9))]) (st' := [.int ((bc_best 4 (8 + t) L J).1)]) (I' := (zx_uI ((bc_best 4 (8 + t) L J).2) (8 + t) 9 ((bc_best 4 (8 + t) L J).1))) (L' := L) (R' := zw_RC 4 14 la1) (by rw [show (zx_uI ((bc_best 4 (8 + t) L J).2) (8 + t) 9 ((bc_best 4 (8 + t) L J).1)) (8 + t) 9 = (bc_best 4 (8 + t) L J).1 from by simp [zx_uI, zr, zmap]]; rfl) ?_
          refine zv_run 1 (pc' := 107) (lo' := [some (.ref 0), some (.int what), some (.ref wl), some (.int an), some (.int r), some (.int (nI t)), some (.ref (8 + t)), some (.int (J (8 + t) 9))]) (st' := [.int (J (8 + t) 9), .int ((bc_best 4 (8 + t) L J).1)]) (I' := (zx_uI ((bc_best 4 (8 + t) L J).2) (8 + t) 9 ((bc_best 4 (8 + t) L J).1))) (L' := L) (R' := zw_RC 4 14 la1) rfl ?_
          refine zv_icmp_eq (tgt := 114) (zs_at rfl) (by decide) (fun c107 => ?_) (fun c107 => ?_)
          · have _c := c107
            refine zv_run 4 (pc' := 50) (lo' := [some (.ref 0), some (.int what), some (.ref wl), some (.int 0), some (.int r), some (.int ((nI t) + 1)), some (.ref (8 + t)), some (.int (J (8 + t) 9))]) (st' := []) (I' := (zx_uI ((bc_best 4 (8 + t) L J).2) (8 + t) 9 ((bc_best 4 (8 + t) L J).1))) (L' := L) (R' := zw_RC 4 14 la1) rfl ?_
            have ea : lk_an an 4 (8 + t) L J = 0 := by unfold lk_an; rw [if_neg (fun q => q c97)]; exact if_pos c107
            have e : lk_2 4 L (n + 1) t an J = lk_2 4 L n (t + 1) (lk_an an 4 (8 + t) L J) (lk_next 4 (8 + t) L J) := by rw [lk_2]
            rw [e, ea] at hk
            rw [← nI_succ]
            exact ih (t + 1) _ _ _ _ _ (by omega) (hw9 t (by omega) _ _ (kr_bc hK (hw9 t (by omega)) _ _ _ _ _ hJ)) hk
          · have _c := c107
            refine zv_run 2 (pc' := 115) (lo' := [some (.ref 0), some (.int what), some (.ref wl), some (.int an), some (.int r), some (.int (nI t)), some (.ref (8 + t)), some (.int (J (8 + t) 9))]) (st' := [.int 1]) (I' := (zx_uI ((bc_best 4 (8 + t) L J).2) (8 + t) 9 ((bc_best 4 (8 + t) L J).1))) (L' := L) (R' := zw_RC 4 14 la1) rfl ?_
            refine zv_run 3 (pc' := 50) (lo' := [some (.ref 0), some (.int what), some (.ref wl), some (.int 1), some (.int r), some (.int ((nI t) + 1)), some (.ref (8 + t)), some (.int (J (8 + t) 9))]) (st' := []) (I' := (zx_uI ((bc_best 4 (8 + t) L J).2) (8 + t) 9 ((bc_best 4 (8 + t) L J).1))) (L' := L) (R' := zw_RC 4 14 la1) rfl ?_
            have ea : lk_an an 4 (8 + t) L J = 1 := by unfold lk_an; first | exact if_pos c97 | (rw [if_neg (fun q => q c97)]; exact if_neg c107)
            have e : lk_2 4 L (n + 1) t an J = lk_2 4 L n (t + 1) (lk_an an 4 (8 + t) L J) (lk_next 4 (8 + t) L J) := by rw [lk_2]
            rw [e, ea] at hk
            rw [← nI_succ]
            exact ih (t + 1) _ _ _ _ _ (by omega) (hw9 t (by omega) _ _ (kr_bc hK (hw9 t (by omega)) _ _ _ _ _ hJ)) hk
theorem lp1_X9_looks_4 {d : Nat} {K : zx_I → Prop} {m : Nat} {L : zx_L} {what : Int32} {wl : Option Nat} {Q : zx_Qt} (hK : kr K 4) (hw9 : ∀ j, j < 6 → ∀ J x, K J → K (zx_uI J (4 + 4 + j) 9 x)) (hmm : ∀ J, K J → J 4 13 = nI m) (hm6 : m ≤ 6) : ∀ (n r : Nat) (an : Int32) (J : zx_I) (la : Option Nat) (x5 x6 x7 : Option Value), r + n = 12 → K J → (∀ la x5 x6 x7, K (lk_1 4 m L n r an J).2.2 → zx_V mm_X9_looks (d + 6) z0 Q zw_SC 125 [some (.ref 0), some (.int what), some (va_rf wl), some (.int ((lk_1 4 m L n r an J).2.1)), some (.int (nI (lk_1 4 m L n r an J).1)), x5, x6, x7] [] (lk_1 4 m L n r an J).2.2 L (zw_RC 4 14 la)) → zx_V mm_X9_looks (d + 6) z0 Q zw_SC 31 [some (.ref 0), some (.int what), some (va_rf wl), some (.int (an)), some (.int (nI r)), x5, x6, x7] [] J L (zw_RC 4 14 la) := by
  rcases wl with _ | wl
  · intro n
    induction n with
    | zero =>
      intro r an J la x5 x6 x7 hr hJ hk
      refine zv_run 1 (pc' := 32) (lo' := [some (.ref 0), some (.int what), some (.null), some (.int an), some (.int (nI r)), x5, x6, x7]) (st' := [.int an]) (I' := J) (L' := L) (R' := zw_RC 4 14 la) rfl ?_
      refine zv_if_eq (tgt := 125) (zs_at rfl) (by decide) (fun c32 => ?_) (fun c32 => ?_)
      · have _c := c32
        exact hk la _ _ _ hJ
      · have _c := c32
        refine zv_run 2 (pc' := 39) (lo' := [some (.ref 0), some (.int what), some (.null), some (.int an), some (.int (nI r)), x5, x6, x7]) (st' := [.int 12, .int (nI r)]) (I' := J) (L' := L) (R' := zw_RC 4 14 la) rfl ?_
        refine zv_icmp_ge (tgt := 125) (zs_at rfl) (by decide) (fun c39 => ?_) (fun c39 => ?_)
        · have _c := c39
          exact hk la _ _ _ hJ
        · exact absurd (by rw [show r = 12 by omega]; decide) c39
    | succ n ih =>
      intro r an J la x5 x6 x7 hr hJ hk
      refine zv_run 1 (pc' := 32) (lo' := [some (.ref 0), some (.int what), some (.null), some (.int an), some (.int (nI r)), x5, x6, x7]) (st' := [.int an]) (I' := J) (L' := L) (R' := zw_RC 4 14 la) rfl ?_
      refine zv_if_eq (tgt := 125) (zs_at rfl) (by decide) (fun c32 => ?_) (fun c32 => ?_)
      · have _c := c32
        have e : lk_1 4 m L (n + 1) r an J = (r, an, J) := by rw [lk_1, if_pos c32]
        rw [e] at hk
        exact hk la _ _ _ hJ
      · have _c := c32
        refine zv_run 2 (pc' := 39) (lo' := [some (.ref 0), some (.int what), some (.null), some (.int an), some (.int (nI r)), x5, x6, x7]) (st' := [.int 12, .int (nI r)]) (I' := J) (L' := L) (R' := zw_RC 4 14 la) rfl ?_
        refine zv_icmp_ge (tgt := 125) (zs_at rfl) (by decide) (fun c39 => ?_) (fun c39 => ?_)
        · exact absurd c39 (by exact nI_ge (a := r) (b := 12) (by omega) (by decide))
        · have _c := c39
          refine zv_run 5 (pc' := 50) (lo' := [some (.ref 0), some (.int what), some (.null), some (.int 0), some (.int ((nI r) + 1)), some (.int 0), x6, x7]) (st' := []) (I' := J) (L' := L) (R' := zw_RC 4 14 la) rfl ?_
          rw [← nI_succ]
          have e : lk_1 4 m L (n + 1) r an J = lk_1 4 m L n (r + 1) (lk_2 4 L m 0 0 J).1 (lk_2 4 L m 0 0 J).2 := by rw [lk_1, if_neg c32]
          rw [e] at hk
          exact lp2_X9_looks_4 (wl := none) hK hw9 hmm hm6 m 0 0 J la _ _ (Nat.zero_add m) hJ (fun la x5 x6 x7 hJ2 => ih (r + 1) _ _ _ _ _ _ (by omega) hJ2 hk)
  · intro n
    induction n with
    | zero =>
      intro r an J la x5 x6 x7 hr hJ hk
      refine zv_run 1 (pc' := 32) (lo' := [some (.ref 0), some (.int what), some (.ref wl), some (.int an), some (.int (nI r)), x5, x6, x7]) (st' := [.int an]) (I' := J) (L' := L) (R' := zw_RC 4 14 la) rfl ?_
      refine zv_if_eq (tgt := 125) (zs_at rfl) (by decide) (fun c32 => ?_) (fun c32 => ?_)
      · have _c := c32
        exact hk la _ _ _ hJ
      · have _c := c32
        refine zv_run 2 (pc' := 39) (lo' := [some (.ref 0), some (.int what), some (.ref wl), some (.int an), some (.int (nI r)), x5, x6, x7]) (st' := [.int 12, .int (nI r)]) (I' := J) (L' := L) (R' := zw_RC 4 14 la) rfl ?_
        refine zv_icmp_ge (tgt := 125) (zs_at rfl) (by decide) (fun c39 => ?_) (fun c39 => ?_)
        · have _c := c39
          exact hk la _ _ _ hJ
        · exact absurd (by rw [show r = 12 by omega]; decide) c39
    | succ n ih =>
      intro r an J la x5 x6 x7 hr hJ hk
      refine zv_run 1 (pc' := 32) (lo' := [some (.ref 0), some (.int what), some (.ref wl), some (.int an), some (.int (nI r)), x5, x6, x7]) (st' := [.int an]) (I' := J) (L' := L) (R' := zw_RC 4 14 la) rfl ?_
      refine zv_if_eq (tgt := 125) (zs_at rfl) (by decide) (fun c32 => ?_) (fun c32 => ?_)
      · have _c := c32
        have e : lk_1 4 m L (n + 1) r an J = (r, an, J) := by rw [lk_1, if_pos c32]
        rw [e] at hk
        exact hk la _ _ _ hJ
      · have _c := c32
        refine zv_run 2 (pc' := 39) (lo' := [some (.ref 0), some (.int what), some (.ref wl), some (.int an), some (.int (nI r)), x5, x6, x7]) (st' := [.int 12, .int (nI r)]) (I' := J) (L' := L) (R' := zw_RC 4 14 la) rfl ?_
        refine zv_icmp_ge (tgt := 125) (zs_at rfl) (by decide) (fun c39 => ?_) (fun c39 => ?_)
        · exact absurd c39 (by exact nI_ge (a := r) (b := 12) (by omega) (by decide))
        · have _c := c39
          refine zv_run 5 (pc' := 50) (lo' := [some (.ref 0), some (.int what), some (.ref wl), some (.int 0), some (.int ((nI r) + 1)), some (.int 0), x6, x7]) (st' := []) (I' := J) (L' := L) (R' := zw_RC 4 14 la) rfl ?_
          rw [← nI_succ]
          have e : lk_1 4 m L (n + 1) r an J = lk_1 4 m L n (r + 1) (lk_2 4 L m 0 0 J).1 (lk_2 4 L m 0 0 J).2 := by rw [lk_1, if_neg c32]
          rw [e] at hk
          exact lp2_X9_looks_4 (wl := (some wl)) hK hw9 hmm hm6 m 0 0 J la _ _ (Nat.zero_add m) hJ (fun la x5 x6 x7 hJ2 => ih (r + 1) _ _ _ _ _ _ (by omega) hJ2 hk)
theorem bt_14 {t : Nat} (h : t < 6) : bt (18 + t) := by unfold bt; omega
theorem lp2_X9_looks_14 {d : Nat} {K : zx_I → Prop} {m : Nat} {L : zx_L} {what : Int32} {wl : Option Nat} {Q : zx_Qt} (hK : kr K 14) (hw9 : ∀ j, j < 6 → ∀ J x, K J → K (zx_uI J (14 + 4 + j) 9 x)) (hmm : ∀ J, K J → J 14 13 = nI m) (hm6 : m ≤ 6) {r : Int32} : ∀ (n t : Nat) (an : Int32) (J : zx_I) (la : Option Nat) (x6 x7 : Option Value), t + n = m → K J → (∀ la x5 x6 x7, K (lk_2 14 L n t an J).2 → zx_V mm_X9_looks (d + 6) z0 Q zw_SC 31 [some (.ref 0), some (.int what), some (va_rf wl), some (.int ((lk_2 14 L n t an J).1)), some (.int (r)), x5, x6, x7] [] (lk_2 14 L n t an J).2 L (zw_RC 14 4 la)) → zx_V mm_X9_looks (d + 6) z0 Q zw_SC 50 [some (.ref 0), some (.int what), some (va_rf wl), some (.int (an)), some (.int (r)), some (.int (nI t)), x6, x7] [] J L (zw_RC 14 4 la) := by
  rcases wl with _ | wl
  · intro n
    induction n with
    | zero =>
      intro t an J la x6 x7 ht hJ hk
      refine zv_run 4 (pc' := 59) (lo' := [some (.ref 0), some (.int what), some (.null), some (.int an), some (.int r), some (.int (nI t)), x6, x7]) (st' := [.int (J 14 13), .int (nI t)]) (I' := J) (L' := L) (R' := zw_RC 14 4 la) rfl ?_
      refine zv_icmp_ge (tgt := 122) (zs_at rfl) (by decide) (fun c59 => ?_) (fun c59 => ?_)
      · have _c := c59
        refine zv_run 1 (pc' := 31) (lo' := [some (.ref 0), some (.int what), some (.null), some (.int an), some (.int r), some (.int (nI t)), x6, x7]) (st' := []) (I' := J) (L' := L) (R' := zw_RC 14 4 la) rfl ?_
        exact hk la _ _ _ hJ
      · exact absurd (by rw [hmm J hJ]; exact nI_le (by omega) (by omega)) c59
    | succ n ih =>
      intro t an J la x6 x7 ht hJ hk
      refine zv_run 4 (pc' := 59) (lo' := [some (.ref 0), some (.int what), some (.null), some (.int an), some (.int r), some (.int (nI t)), x6, x7]) (st' := [.int (J 14 13), .int (nI t)]) (I' := J) (L' := L) (R' := zw_RC 14 4 la) rfl ?_
      refine zv_icmp_ge (tgt := 122) (zs_at rfl) (by decide) (fun c59 => ?_) (fun c59 => ?_)
      · exact absurd c59 (by rw [hmm J hJ]; exact nI_ge (by omega) (by omega))
      · have _c := c59
        refine zv_run 3 (pc' := 68) (lo' := [some (.ref 0), some (.int what), some (.null), some (.int an), some (.int r), some (.int (nI t)), x6, x7]) (st' := [.int (nI t), .ref 14]) (I' := J) (L' := L) (R' := zw_RC 14 4 la) rfl ?_
        refine zv_cV (M' := mm_X5_who) (ci := 5) (a := 14) (av := [.int (nI t)]) (st := []) (r := some (.ref (18 + t))) (I' := J) (L' := L) (R' := zw_RC 14 4 la) rfl zc_9_85 gd_X5_who rfl rfl rfl (Nat.le_of_ble_eq_true rfl) (ct2_X5_who (d := _) (Or.inr rfl) (hmm J hJ) (by omega) hm6) ⟨Nat.le_refl _, Nat.le_refl _⟩ ?_
        refine zv_run 0 (pc' := 71) (lo' := [some (.ref 0), some (.int what), some (.null), some (.int an), some (.int r), some (.int (nI t)), x6, x7]) (st' := [.ref (18 + t)]) (I' := J) (L' := L) (R' := zw_RC 14 4 la) rfl ?_
        refine zv_run 2 (pc' := 75) (lo' := [some (.ref 0), some (.int what), some (.null), some (.int an), some (.int r), some (.int (nI t)), some (.ref (18 + t)), x7]) (st' := [.ref (18 + t)]) (I' := J) (L' := L) (R' := zw_RC 14 4 la) rfl ?_
        refine zv_ifnull (zs_at rfl) ?_
        refine zv_run 1 (pc' := 80) (lo' := [some (.ref 0), some (.int what), some (.null), some (.int an), some (.int r), some (.int (nI t)), some (.ref (18 + t)), x7]) (st' := [.ref (18 + t)]) (I' := J) (L' := L) (R' := zw_RC 14 4 la) rfl ?_
        refine zv_get (ci := 2) (k := 9) (t := 0) (zs_at rfl) (zf_ok rfl) (bt_S (bt_14 (by omega))) rfl ?_
        refine zv_run 0 (pc' := 83) (lo' := [some (.ref 0), some (.int what), some (.null), some (.int an), some (.int r), some (.int (nI t)), some (.ref (18 + t)), x7]) (st' := [.int (J (18 + t) 9)]) (I' := J) (L' := L) (R' := zw_RC 14 4 la) rfl ?_
        refine zv_run 4 (pc' := 90) (lo' := [some (.ref 0), some (.int what), some (.null), some (.int an), some (.int r), some (.int (nI t)), some (.ref (18 + t)), some (.int (J (18 + t) 9))]) (st' := [.ref (18 + t), .ref 0, .ref (18 + t)]) (I' := J) (L' := L) (R' := zw_RC 14 4 la) rfl ?_
        refine zv_cVa (M' := mm_X9_bestToCome) (ci := 9) (a := 0) (av := [.ref (18 + t)]) (st := [.ref (18 + t)]) (r := some (.int ((bc_best 14 (18 + t) L J).1))) (I' := (bc_best 14 (18 + t) L J).2) (L' := L) rfl zc_9_246 gd_X9_bestToCome rfl rfl rfl (Nat.le_of_ble_eq_true rfl) (ct_X9_btc_14 (d := _) (bt_14 (by omega)) hK (hw9 t (by omega)) hJ) ⟨Nat.le_refl _, Nat.le_refl _⟩ ?_
        intro la1
        refine zv_run 0 (pc' := 93) (lo' := [some (.ref 0), some (.int what), some (.null), some (.int an), some (.int r), some (.int (nI t)), some (.ref (18 + t)), some (.int (J (18 + t) 9))]) (st' := [.int ((bc_best 14 (18 + t) L J).1), .ref (18 + t)]) (I' := (bc_best 14 (18 + t) L J).2) (L' := L) (R' := zw_RC 14 4 la1) rfl ?_
        refine zs_putI (ci := 2) (k := 9) (zs_at rfl) (zf_ok rfl) (bt_S (bt_14 (by omega))) (Or.inl rfl) rfl (fun q => absurd q (by decide)) ?_
        refine zv_run 1 (pc' := 97) (lo' := [some (.ref 0), some (.int what), some (.null), some (.int an), some (.int r), some (.int (nI t)), some (.ref (18 + t)), some (.int (J (18 + t) 9))]) (st' := [.int an]) (I' := (zx_uI ((bc_best 14 (18 + t) L J).2) (18 + t) 9 ((bc_best 14 (18 + t) L J).1))) (L' := L) (R' := zw_RC 14 4 la1) rfl ?_
        refine zv_if_ne (tgt := 110) (zs_at rfl) (by decide) (fun c97 => ?_) (fun c97 => ?_)
        · have _c := c97
          refine zv_run 2 (pc' := 115) (lo' := [some (.ref 0), some (.int what), some (.null), some (.int an), some (.int r), some (.int (nI t)), some (.ref (18 + t)), some (.int (J (18 + t) 9))]) (st' := [.int 1]) (I' := (zx_uI ((bc_best 14 (18 + t) L J).2) (18 + t) 9 ((bc_best 14 (18 + t) L J).1))) (L' := L) (R' := zw_RC 14 4 la1) rfl ?_
          refine zv_run 3 (pc' := 50) (lo' := [some (.ref 0), some (.int what), some (.null), some (.int 1), some (.int r), some (.int ((nI t) + 1)), some (.ref (18 + t)), some (.int (J (18 + t) 9))]) (st' := []) (I' := (zx_uI ((bc_best 14 (18 + t) L J).2) (18 + t) 9 ((bc_best 14 (18 + t) L J).1))) (L' := L) (R' := zw_RC 14 4 la1) rfl ?_
          have ea : lk_an an 14 (18 + t) L J = 1 := by unfold lk_an; first | exact if_pos c97 | (rw [if_neg (fun q => q c97)]; exact if_neg c107)
          have e : lk_2 14 L (n + 1) t an J = lk_2 14 L n (t + 1) (lk_an an 14 (18 + t) L J) (lk_next 14 (18 + t) L J) := by rw [lk_2]
          rw [e, ea] at hk
          rw [← nI_succ]
          exact ih (t + 1) _ _ _ _ _ (by omega) (hw9 t (by omega) _ _ (kr_bc hK (hw9 t (by omega)) _ _ _ _ _ hJ)) hk
        · have _c := c97
          refine zv_run 1 (pc' := 102) (lo' := [some (.ref 0), some (.int what), some (.null), some (.int an), some (.int r), some (.int (nI t)), some (.ref (18 + t)), some (.int (J (18 + t) 9))]) (st' := [.ref (18 + t)]) (I' := (zx_uI ((bc_best 14 (18 + t) L J).2) (18 + t) 9 ((bc_best 14 (18 + t) L J).1))) (L' := L) (R' := zw_RC 14 4 la1) rfl ?_
          refine zv_get (ci := 2) (k := 9) (t := 0) (zs_at rfl) (zf_ok rfl) (bt_S (bt_14 (by omega))) rfl ?_
          refine zv_run 0 (pc' := 105) (lo' := [some (.ref 0), some (.int what), some (.null), some (.int an), some (.int r), some (.int (nI t)), some (.ref (18 + t)), some (.int (J (18 + t) 9))]) (st' := [.int ((bc_best 14 (18 + t) L J).1)]) (I' := (zx_uI ((bc_best 14 (18 + t) L J).2) (18 + t) 9 ((bc_best 14 (18 + t) L J).1))) (L' := L) (R' := zw_RC 14 4 la1) (by rw [show (zx_uI ((bc_best 14 (18 + t) L J).2) (18 + t) 9 ((bc_best 14 (18 + t) L J).1)) (18 + t) 9 = (bc_best 14 (18 + t) L J).1 from by simp [zx_uI, zr, zmap]]; rfl) ?_
          refine zv_run 1 (pc' := 107) (lo' := [some (.ref 0), some (.int what), some (.null), some (.int an), some (.int r), some (.int (nI t)), some (.ref (18 + t)), some (.int (J (18 + t) 9))]) (st' := [.int (J (18 + t) 9), .int ((bc_best 14 (18 + t) L J).1)]) (I' := (zx_uI ((bc_best 14 (18 + t) L J).2) (18 + t) 9 ((bc_best 14 (18 + t) L J).1))) (L' := L) (R' := zw_RC 14 4 la1) rfl ?_
          refine zv_icmp_eq (tgt := 114) (zs_at rfl) (by decide) (fun c107 => ?_) (fun c107 => ?_)
          · have _c := c107
            refine zv_run 4 (pc' := 50) (lo' := [some (.ref 0), some (.int what), some (.null), some (.int 0), some (.int r), some (.int ((nI t) + 1)), some (.ref (18 + t)), some (.int (J (18 + t) 9))]) (st' := []) (I' := (zx_uI ((bc_best 14 (18 + t) L J).2) (18 + t) 9 ((bc_best 14 (18 + t) L J).1))) (L' := L) (R' := zw_RC 14 4 la1) rfl ?_
            have ea : lk_an an 14 (18 + t) L J = 0 := by unfold lk_an; rw [if_neg (fun q => q c97)]; exact if_pos c107
            have e : lk_2 14 L (n + 1) t an J = lk_2 14 L n (t + 1) (lk_an an 14 (18 + t) L J) (lk_next 14 (18 + t) L J) := by rw [lk_2]
            rw [e, ea] at hk
            rw [← nI_succ]
            exact ih (t + 1) _ _ _ _ _ (by omega) (hw9 t (by omega) _ _ (kr_bc hK (hw9 t (by omega)) _ _ _ _ _ hJ)) hk
          · have _c := c107
            refine zv_run 2 (pc' := 115) (lo' := [some (.ref 0), some (.int what), some (.null), some (.int an), some (.int r), some (.int (nI t)), some (.ref (18 + t)), some (.int (J (18 + t) 9))]) (st' := [.int 1]) (I' := (zx_uI ((bc_best 14 (18 + t) L J).2) (18 + t) 9 ((bc_best 14 (18 + t) L J).1))) (L' := L) (R' := zw_RC 14 4 la1) rfl ?_
            refine zv_run 3 (pc' := 50) (lo' := [some (.ref 0), some (.int what), some (.null), some (.int 1), some (.int r), some (.int ((nI t) + 1)), some (.ref (18 + t)), some (.int (J (18 + t) 9))]) (st' := []) (I' := (zx_uI ((bc_best 14 (18 + t) L J).2) (18 + t) 9 ((bc_best 14 (18 + t) L J).1))) (L' := L) (R' := zw_RC 14 4 la1) rfl ?_
            have ea : lk_an an 14 (18 + t) L J = 1 := by unfold lk_an; first | exact if_pos c97 | (rw [if_neg (fun q => q c97)]; exact if_neg c107)
            have e : lk_2 14 L (n + 1) t an J = lk_2 14 L n (t + 1) (lk_an an 14 (18 + t) L J) (lk_next 14 (18 + t) L J) := by rw [lk_2]
            rw [e, ea] at hk
            rw [← nI_succ]
            exact ih (t + 1) _ _ _ _ _ (by omega) (hw9 t (by omega) _ _ (kr_bc hK (hw9 t (by omega)) _ _ _ _ _ hJ)) hk
  · intro n
    induction n with
    | zero =>
      intro t an J la x6 x7 ht hJ hk
      refine zv_run 4 (pc' := 59) (lo' := [some (.ref 0), some (.int what), some (.ref wl), some (.int an), some (.int r), some (.int (nI t)), x6, x7]) (st' := [.int (J 14 13), .int (nI t)]) (I' := J) (L' := L) (R' := zw_RC 14 4 la) rfl ?_
      refine zv_icmp_ge (tgt := 122) (zs_at rfl) (by decide) (fun c59 => ?_) (fun c59 => ?_)
      · have _c := c59
        refine zv_run 1 (pc' := 31) (lo' := [some (.ref 0), some (.int what), some (.ref wl), some (.int an), some (.int r), some (.int (nI t)), x6, x7]) (st' := []) (I' := J) (L' := L) (R' := zw_RC 14 4 la) rfl ?_
        exact hk la _ _ _ hJ
      · exact absurd (by rw [hmm J hJ]; exact nI_le (by omega) (by omega)) c59
    | succ n ih =>
      intro t an J la x6 x7 ht hJ hk
      refine zv_run 4 (pc' := 59) (lo' := [some (.ref 0), some (.int what), some (.ref wl), some (.int an), some (.int r), some (.int (nI t)), x6, x7]) (st' := [.int (J 14 13), .int (nI t)]) (I' := J) (L' := L) (R' := zw_RC 14 4 la) rfl ?_
      refine zv_icmp_ge (tgt := 122) (zs_at rfl) (by decide) (fun c59 => ?_) (fun c59 => ?_)
      · exact absurd c59 (by rw [hmm J hJ]; exact nI_ge (by omega) (by omega))
      · have _c := c59
        refine zv_run 3 (pc' := 68) (lo' := [some (.ref 0), some (.int what), some (.ref wl), some (.int an), some (.int r), some (.int (nI t)), x6, x7]) (st' := [.int (nI t), .ref 14]) (I' := J) (L' := L) (R' := zw_RC 14 4 la) rfl ?_
        refine zv_cV (M' := mm_X5_who) (ci := 5) (a := 14) (av := [.int (nI t)]) (st := []) (r := some (.ref (18 + t))) (I' := J) (L' := L) (R' := zw_RC 14 4 la) rfl zc_9_85 gd_X5_who rfl rfl rfl (Nat.le_of_ble_eq_true rfl) (ct2_X5_who (d := _) (Or.inr rfl) (hmm J hJ) (by omega) hm6) ⟨Nat.le_refl _, Nat.le_refl _⟩ ?_
        refine zv_run 0 (pc' := 71) (lo' := [some (.ref 0), some (.int what), some (.ref wl), some (.int an), some (.int r), some (.int (nI t)), x6, x7]) (st' := [.ref (18 + t)]) (I' := J) (L' := L) (R' := zw_RC 14 4 la) rfl ?_
        refine zv_run 2 (pc' := 75) (lo' := [some (.ref 0), some (.int what), some (.ref wl), some (.int an), some (.int r), some (.int (nI t)), some (.ref (18 + t)), x7]) (st' := [.ref (18 + t)]) (I' := J) (L' := L) (R' := zw_RC 14 4 la) rfl ?_
        refine zv_ifnull (zs_at rfl) ?_
        refine zv_run 1 (pc' := 80) (lo' := [some (.ref 0), some (.int what), some (.ref wl), some (.int an), some (.int r), some (.int (nI t)), some (.ref (18 + t)), x7]) (st' := [.ref (18 + t)]) (I' := J) (L' := L) (R' := zw_RC 14 4 la) rfl ?_
        refine zv_get (ci := 2) (k := 9) (t := 0) (zs_at rfl) (zf_ok rfl) (bt_S (bt_14 (by omega))) rfl ?_
        refine zv_run 0 (pc' := 83) (lo' := [some (.ref 0), some (.int what), some (.ref wl), some (.int an), some (.int r), some (.int (nI t)), some (.ref (18 + t)), x7]) (st' := [.int (J (18 + t) 9)]) (I' := J) (L' := L) (R' := zw_RC 14 4 la) rfl ?_
        refine zv_run 4 (pc' := 90) (lo' := [some (.ref 0), some (.int what), some (.ref wl), some (.int an), some (.int r), some (.int (nI t)), some (.ref (18 + t)), some (.int (J (18 + t) 9))]) (st' := [.ref (18 + t), .ref 0, .ref (18 + t)]) (I' := J) (L' := L) (R' := zw_RC 14 4 la) rfl ?_
        refine zv_cVa (M' := mm_X9_bestToCome) (ci := 9) (a := 0) (av := [.ref (18 + t)]) (st := [.ref (18 + t)]) (r := some (.int ((bc_best 14 (18 + t) L J).1))) (I' := (bc_best 14 (18 + t) L J).2) (L' := L) rfl zc_9_246 gd_X9_bestToCome rfl rfl rfl (Nat.le_of_ble_eq_true rfl) (ct_X9_btc_14 (d := _) (bt_14 (by omega)) hK (hw9 t (by omega)) hJ) ⟨Nat.le_refl _, Nat.le_refl _⟩ ?_
        intro la1
        refine zv_run 0 (pc' := 93) (lo' := [some (.ref 0), some (.int what), some (.ref wl), some (.int an), some (.int r), some (.int (nI t)), some (.ref (18 + t)), some (.int (J (18 + t) 9))]) (st' := [.int ((bc_best 14 (18 + t) L J).1), .ref (18 + t)]) (I' := (bc_best 14 (18 + t) L J).2) (L' := L) (R' := zw_RC 14 4 la1) rfl ?_
        refine zs_putI (ci := 2) (k := 9) (zs_at rfl) (zf_ok rfl) (bt_S (bt_14 (by omega))) (Or.inl rfl) rfl (fun q => absurd q (by decide)) ?_
        refine zv_run 1 (pc' := 97) (lo' := [some (.ref 0), some (.int what), some (.ref wl), some (.int an), some (.int r), some (.int (nI t)), some (.ref (18 + t)), some (.int (J (18 + t) 9))]) (st' := [.int an]) (I' := (zx_uI ((bc_best 14 (18 + t) L J).2) (18 + t) 9 ((bc_best 14 (18 + t) L J).1))) (L' := L) (R' := zw_RC 14 4 la1) rfl ?_
        refine zv_if_ne (tgt := 110) (zs_at rfl) (by decide) (fun c97 => ?_) (fun c97 => ?_)
        · have _c := c97
          refine zv_run 2 (pc' := 115) (lo' := [some (.ref 0), some (.int what), some (.ref wl), some (.int an), some (.int r), some (.int (nI t)), some (.ref (18 + t)), some (.int (J (18 + t) 9))]) (st' := [.int 1]) (I' := (zx_uI ((bc_best 14 (18 + t) L J).2) (18 + t) 9 ((bc_best 14 (18 + t) L J).1))) (L' := L) (R' := zw_RC 14 4 la1) rfl ?_
          refine zv_run 3 (pc' := 50) (lo' := [some (.ref 0), some (.int what), some (.ref wl), some (.int 1), some (.int r), some (.int ((nI t) + 1)), some (.ref (18 + t)), some (.int (J (18 + t) 9))]) (st' := []) (I' := (zx_uI ((bc_best 14 (18 + t) L J).2) (18 + t) 9 ((bc_best 14 (18 + t) L J).1))) (L' := L) (R' := zw_RC 14 4 la1) rfl ?_
          have ea : lk_an an 14 (18 + t) L J = 1 := by unfold lk_an; first | exact if_pos c97 | (rw [if_neg (fun q => q c97)]; exact if_neg c107)
          have e : lk_2 14 L (n + 1) t an J = lk_2 14 L n (t + 1) (lk_an an 14 (18 + t) L J) (lk_next 14 (18 + t) L J) := by rw [lk_2]
          rw [e, ea] at hk
          rw [← nI_succ]
          exact ih (t + 1) _ _ _ _ _ (by omega) (hw9 t (by omega) _ _ (kr_bc hK (hw9 t (by omega)) _ _ _ _ _ hJ)) hk
        · have _c := c97
          refine zv_run 1 (pc' := 102) (lo' := [some (.ref 0), some (.int what), some (.ref wl), some (.int an), some (.int r), some (.int (nI t)), some (.ref (18 + t)), some (.int (J (18 + t) 9))]) (st' := [.ref (18 + t)]) (I' := (zx_uI ((bc_best 14 (18 + t) L J).2) (18 + t) 9 ((bc_best 14 (18 + t) L J).1))) (L' := L) (R' := zw_RC 14 4 la1) rfl ?_
          refine zv_get (ci := 2) (k := 9) (t := 0) (zs_at rfl) (zf_ok rfl) (bt_S (bt_14 (by omega))) rfl ?_
          refine zv_run 0 (pc' := 105) (lo' := [some (.ref 0), some (.int what), some (.ref wl), some (.int an), some (.int r), some (.int (nI t)), some (.ref (18 + t)), some (.int (J (18 + t) 9))]) (st' := [.int ((bc_best 14 (18 + t) L J).1)]) (I' := (zx_uI ((bc_best 14 (18 + t) L J).2) (18 + t) 9 ((bc_best 14 (18 + t) L J).1))) (L' := L) (R' := zw_RC 14 4 la1) (by rw [show (zx_uI ((bc_best 14 (18 + t) L J).2) (18 + t) 9 ((bc_best 14 (18 + t) L J).1)) (18 + t) 9 = (bc_best 14 (18 + t) L J).1 from by simp [zx_uI, zr, zmap]]; rfl) ?_
          refine zv_run 1 (pc' := 107) (lo' := [some (.ref 0), some (.int what), some (.ref wl), some (.int an), some (.int r), some (.int (nI t)), some (.ref (18 + t)), some (.int (J (18 + t) 9))]) (st' := [.int (J (18 + t) 9), .int ((bc_best 14 (18 + t) L J).1)]) (I' := (zx_uI ((bc_best 14 (18 + t) L J).2) (18 + t) 9 ((bc_best 14 (18 + t) L J).1))) (L' := L) (R' := zw_RC 14 4 la1) rfl ?_
          refine zv_icmp_eq (tgt := 114) (zs_at rfl) (by decide) (fun c107 => ?_) (fun c107 => ?_)
          · have _c := c107
            refine zv_run 4 (pc' := 50) (lo' := [some (.ref 0), some (.int what), some (.ref wl), some (.int 0), some (.int r), some (.int ((nI t) + 1)), some (.ref (18 + t)), some (.int (J (18 + t) 9))]) (st' := []) (I' := (zx_uI ((bc_best 14 (18 + t) L J).2) (18 + t) 9 ((bc_best 14 (18 + t) L J).1))) (L' := L) (R' := zw_RC 14 4 la1) rfl ?_
            have ea : lk_an an 14 (18 + t) L J = 0 := by unfold lk_an; rw [if_neg (fun q => q c97)]; exact if_pos c107
            have e : lk_2 14 L (n + 1) t an J = lk_2 14 L n (t + 1) (lk_an an 14 (18 + t) L J) (lk_next 14 (18 + t) L J) := by rw [lk_2]
            rw [e, ea] at hk
            rw [← nI_succ]
            exact ih (t + 1) _ _ _ _ _ (by omega) (hw9 t (by omega) _ _ (kr_bc hK (hw9 t (by omega)) _ _ _ _ _ hJ)) hk
          · have _c := c107
            refine zv_run 2 (pc' := 115) (lo' := [some (.ref 0), some (.int what), some (.ref wl), some (.int an), some (.int r), some (.int (nI t)), some (.ref (18 + t)), some (.int (J (18 + t) 9))]) (st' := [.int 1]) (I' := (zx_uI ((bc_best 14 (18 + t) L J).2) (18 + t) 9 ((bc_best 14 (18 + t) L J).1))) (L' := L) (R' := zw_RC 14 4 la1) rfl ?_
            refine zv_run 3 (pc' := 50) (lo' := [some (.ref 0), some (.int what), some (.ref wl), some (.int 1), some (.int r), some (.int ((nI t) + 1)), some (.ref (18 + t)), some (.int (J (18 + t) 9))]) (st' := []) (I' := (zx_uI ((bc_best 14 (18 + t) L J).2) (18 + t) 9 ((bc_best 14 (18 + t) L J).1))) (L' := L) (R' := zw_RC 14 4 la1) rfl ?_
            have ea : lk_an an 14 (18 + t) L J = 1 := by unfold lk_an; first | exact if_pos c97 | (rw [if_neg (fun q => q c97)]; exact if_neg c107)
            have e : lk_2 14 L (n + 1) t an J = lk_2 14 L n (t + 1) (lk_an an 14 (18 + t) L J) (lk_next 14 (18 + t) L J) := by rw [lk_2]
            rw [e, ea] at hk
            rw [← nI_succ]
            exact ih (t + 1) _ _ _ _ _ (by omega) (hw9 t (by omega) _ _ (kr_bc hK (hw9 t (by omega)) _ _ _ _ _ hJ)) hk
theorem lp1_X9_looks_14 {d : Nat} {K : zx_I → Prop} {m : Nat} {L : zx_L} {what : Int32} {wl : Option Nat} {Q : zx_Qt} (hK : kr K 14) (hw9 : ∀ j, j < 6 → ∀ J x, K J → K (zx_uI J (14 + 4 + j) 9 x)) (hmm : ∀ J, K J → J 14 13 = nI m) (hm6 : m ≤ 6) : ∀ (n r : Nat) (an : Int32) (J : zx_I) (la : Option Nat) (x5 x6 x7 : Option Value), r + n = 12 → K J → (∀ la x5 x6 x7, K (lk_1 14 m L n r an J).2.2 → zx_V mm_X9_looks (d + 6) z0 Q zw_SC 125 [some (.ref 0), some (.int what), some (va_rf wl), some (.int ((lk_1 14 m L n r an J).2.1)), some (.int (nI (lk_1 14 m L n r an J).1)), x5, x6, x7] [] (lk_1 14 m L n r an J).2.2 L (zw_RC 14 4 la)) → zx_V mm_X9_looks (d + 6) z0 Q zw_SC 31 [some (.ref 0), some (.int what), some (va_rf wl), some (.int (an)), some (.int (nI r)), x5, x6, x7] [] J L (zw_RC 14 4 la) := by
  rcases wl with _ | wl
  · intro n
    induction n with
    | zero =>
      intro r an J la x5 x6 x7 hr hJ hk
      refine zv_run 1 (pc' := 32) (lo' := [some (.ref 0), some (.int what), some (.null), some (.int an), some (.int (nI r)), x5, x6, x7]) (st' := [.int an]) (I' := J) (L' := L) (R' := zw_RC 14 4 la) rfl ?_
      refine zv_if_eq (tgt := 125) (zs_at rfl) (by decide) (fun c32 => ?_) (fun c32 => ?_)
      · have _c := c32
        exact hk la _ _ _ hJ
      · have _c := c32
        refine zv_run 2 (pc' := 39) (lo' := [some (.ref 0), some (.int what), some (.null), some (.int an), some (.int (nI r)), x5, x6, x7]) (st' := [.int 12, .int (nI r)]) (I' := J) (L' := L) (R' := zw_RC 14 4 la) rfl ?_
        refine zv_icmp_ge (tgt := 125) (zs_at rfl) (by decide) (fun c39 => ?_) (fun c39 => ?_)
        · have _c := c39
          exact hk la _ _ _ hJ
        · exact absurd (by rw [show r = 12 by omega]; decide) c39
    | succ n ih =>
      intro r an J la x5 x6 x7 hr hJ hk
      refine zv_run 1 (pc' := 32) (lo' := [some (.ref 0), some (.int what), some (.null), some (.int an), some (.int (nI r)), x5, x6, x7]) (st' := [.int an]) (I' := J) (L' := L) (R' := zw_RC 14 4 la) rfl ?_
      refine zv_if_eq (tgt := 125) (zs_at rfl) (by decide) (fun c32 => ?_) (fun c32 => ?_)
      · have _c := c32
        have e : lk_1 14 m L (n + 1) r an J = (r, an, J) := by rw [lk_1, if_pos c32]
        rw [e] at hk
        exact hk la _ _ _ hJ
      · have _c := c32
        refine zv_run 2 (pc' := 39) (lo' := [some (.ref 0), some (.int what), some (.null), some (.int an), some (.int (nI r)), x5, x6, x7]) (st' := [.int 12, .int (nI r)]) (I' := J) (L' := L) (R' := zw_RC 14 4 la) rfl ?_
        refine zv_icmp_ge (tgt := 125) (zs_at rfl) (by decide) (fun c39 => ?_) (fun c39 => ?_)
        · exact absurd c39 (by exact nI_ge (a := r) (b := 12) (by omega) (by decide))
        · have _c := c39
          refine zv_run 5 (pc' := 50) (lo' := [some (.ref 0), some (.int what), some (.null), some (.int 0), some (.int ((nI r) + 1)), some (.int 0), x6, x7]) (st' := []) (I' := J) (L' := L) (R' := zw_RC 14 4 la) rfl ?_
          rw [← nI_succ]
          have e : lk_1 14 m L (n + 1) r an J = lk_1 14 m L n (r + 1) (lk_2 14 L m 0 0 J).1 (lk_2 14 L m 0 0 J).2 := by rw [lk_1, if_neg c32]
          rw [e] at hk
          exact lp2_X9_looks_14 (wl := none) hK hw9 hmm hm6 m 0 0 J la _ _ (Nat.zero_add m) hJ (fun la x5 x6 x7 hJ2 => ih (r + 1) _ _ _ _ _ _ (by omega) hJ2 hk)
  · intro n
    induction n with
    | zero =>
      intro r an J la x5 x6 x7 hr hJ hk
      refine zv_run 1 (pc' := 32) (lo' := [some (.ref 0), some (.int what), some (.ref wl), some (.int an), some (.int (nI r)), x5, x6, x7]) (st' := [.int an]) (I' := J) (L' := L) (R' := zw_RC 14 4 la) rfl ?_
      refine zv_if_eq (tgt := 125) (zs_at rfl) (by decide) (fun c32 => ?_) (fun c32 => ?_)
      · have _c := c32
        exact hk la _ _ _ hJ
      · have _c := c32
        refine zv_run 2 (pc' := 39) (lo' := [some (.ref 0), some (.int what), some (.ref wl), some (.int an), some (.int (nI r)), x5, x6, x7]) (st' := [.int 12, .int (nI r)]) (I' := J) (L' := L) (R' := zw_RC 14 4 la) rfl ?_
        refine zv_icmp_ge (tgt := 125) (zs_at rfl) (by decide) (fun c39 => ?_) (fun c39 => ?_)
        · have _c := c39
          exact hk la _ _ _ hJ
        · exact absurd (by rw [show r = 12 by omega]; decide) c39
    | succ n ih =>
      intro r an J la x5 x6 x7 hr hJ hk
      refine zv_run 1 (pc' := 32) (lo' := [some (.ref 0), some (.int what), some (.ref wl), some (.int an), some (.int (nI r)), x5, x6, x7]) (st' := [.int an]) (I' := J) (L' := L) (R' := zw_RC 14 4 la) rfl ?_
      refine zv_if_eq (tgt := 125) (zs_at rfl) (by decide) (fun c32 => ?_) (fun c32 => ?_)
      · have _c := c32
        have e : lk_1 14 m L (n + 1) r an J = (r, an, J) := by rw [lk_1, if_pos c32]
        rw [e] at hk
        exact hk la _ _ _ hJ
      · have _c := c32
        refine zv_run 2 (pc' := 39) (lo' := [some (.ref 0), some (.int what), some (.ref wl), some (.int an), some (.int (nI r)), x5, x6, x7]) (st' := [.int 12, .int (nI r)]) (I' := J) (L' := L) (R' := zw_RC 14 4 la) rfl ?_
        refine zv_icmp_ge (tgt := 125) (zs_at rfl) (by decide) (fun c39 => ?_) (fun c39 => ?_)
        · exact absurd c39 (by exact nI_ge (a := r) (b := 12) (by omega) (by decide))
        · have _c := c39
          refine zv_run 5 (pc' := 50) (lo' := [some (.ref 0), some (.int what), some (.ref wl), some (.int 0), some (.int ((nI r) + 1)), some (.int 0), x6, x7]) (st' := []) (I' := J) (L' := L) (R' := zw_RC 14 4 la) rfl ?_
          rw [← nI_succ]
          have e : lk_1 14 m L (n + 1) r an J = lk_1 14 m L n (r + 1) (lk_2 14 L m 0 0 J).1 (lk_2 14 L m 0 0 J).2 := by rw [lk_1, if_neg c32]
          rw [e] at hk
          exact lp2_X9_looks_14 (wl := (some wl)) hK hw9 hmm hm6 m 0 0 J la _ _ (Nat.zero_add m) hJ (fun la x5 x6 x7 hJ2 => ih (r + 1) _ _ _ _ _ _ (by omega) hJ2 hk)
theorem ct_X9_looks_no_4 {d : Nat} {I : zx_I} {L : zx_L} {la : Option Nat} {what : Int32} (hno : fh_who I 4 what = none) (h6 : ¬ what = 6) : zx_M0 mm_X9_looks (d + 1) 0 0 [.ref 0, .int what] zw_SC I L (zw_RC 4 14 la) (zw_ret (some (.int (-1))) zw_SC I L (zw_RC 4 14 la)) := by
  refine zv_entry gd_X9_looks (Nat.le_of_ble_eq_true rfl) ?_
  refine zv_run 3 (pc' := 5) (lo' := [some (.ref 0), some (.int what), none, none, none, none, none, none]) (st' := [.int what, .ref 4]) (I' := I) (L' := L) (R' := zw_RC 4 14 la) rfl ?_
  refine zv_cV (M' := mm_X5_who) (ci := 5) (a := 4) (av := [.int what]) (st := []) (r := some (va_rf (fh_who I 4 what))) (I' := I) (L' := L) (R' := zw_RC 4 14 la) rfl zc_9_85 gd_X5_who rfl rfl rfl (Nat.le_of_ble_eq_true rfl) (ct_X5_who (d := _) (Or.inl rfl)) ⟨Nat.le_refl _, Nat.le_refl _⟩ ?_
  rcases hw8 : fh_who I 4 what with _ | w
  · refine zv_run 0 (pc' := 8) (lo' := [some (.ref 0), some (.int what), none, none, none, none, none, none]) (st' := [.null]) (I' := I) (L' := L) (R' := zw_RC 4 14 la) rfl ?_
    refine zv_run 2 (pc' := 10) (lo' := [some (.ref 0), some (.int what), some (.null), none, none, none, none, none]) (st' := [.null]) (I' := I) (L' := L) (R' := zw_RC 4 14 la) rfl ?_
    refine zv_ifnonnullN (zs_at rfl) ?_
    refine zv_run 2 (pc' := 16) (lo' := [some (.ref 0), some (.int what), some (.null), none, none, none, none, none]) (st' := [.int 6, .int what]) (I' := I) (L' := L) (R' := zw_RC 4 14 la) rfl ?_
    refine zv_icmp_eq (tgt := 21) (zs_at rfl) (by decide) (fun c16 => ?_) (fun c16 => ?_)
    · exact absurd c16 h6
    · have _c := c16
      refine zv_run 1 (pc' := 20) (lo' := [some (.ref 0), some (.int what), some (.null), none, none, none, none, none]) (st' := [.int (-1)]) (I' := I) (L' := L) (R' := zw_RC 4 14 la) rfl ?_
      exact zv_iret (zs_at rfl) rfl ⟨Nat.le_refl _, Nat.le_refl _⟩ (zw_to rfl rfl rfl rfl)
  · refine zv_run 0 (pc' := 8) (lo' := [some (.ref 0), some (.int what), none, none, none, none, none, none]) (st' := [.ref w]) (I' := I) (L' := L) (R' := zw_RC 4 14 la) rfl ?_
    have hwf := fh_who_bt (Or.inl rfl) hw8
    refine zv_run 2 (pc' := 10) (lo' := [some (.ref 0), some (.int what), some (.ref w), none, none, none, none, none]) (st' := [.ref w]) (I' := I) (L' := L) (R' := zw_RC 4 14 la) rfl ?_
    refine zv_ifnonnull (tgt := 21) (zs_at rfl) (by decide) ?_
    exact absurd (hw8.symm.trans hno) (fun q => by cases q)
theorem ct_X9_looks_no_14 {d : Nat} {I : zx_I} {L : zx_L} {la : Option Nat} {what : Int32} (hno : fh_who I 14 what = none) (h6 : ¬ what = 6) : zx_M0 mm_X9_looks (d + 1) 0 0 [.ref 0, .int what] zw_SC I L (zw_RC 14 4 la) (zw_ret (some (.int (-1))) zw_SC I L (zw_RC 14 4 la)) := by
  refine zv_entry gd_X9_looks (Nat.le_of_ble_eq_true rfl) ?_
  refine zv_run 3 (pc' := 5) (lo' := [some (.ref 0), some (.int what), none, none, none, none, none, none]) (st' := [.int what, .ref 14]) (I' := I) (L' := L) (R' := zw_RC 14 4 la) rfl ?_
  refine zv_cV (M' := mm_X5_who) (ci := 5) (a := 14) (av := [.int what]) (st := []) (r := some (va_rf (fh_who I 14 what))) (I' := I) (L' := L) (R' := zw_RC 14 4 la) rfl zc_9_85 gd_X5_who rfl rfl rfl (Nat.le_of_ble_eq_true rfl) (ct_X5_who (d := _) (Or.inr rfl)) ⟨Nat.le_refl _, Nat.le_refl _⟩ ?_
  rcases hw8 : fh_who I 14 what with _ | w
  · refine zv_run 0 (pc' := 8) (lo' := [some (.ref 0), some (.int what), none, none, none, none, none, none]) (st' := [.null]) (I' := I) (L' := L) (R' := zw_RC 14 4 la) rfl ?_
    refine zv_run 2 (pc' := 10) (lo' := [some (.ref 0), some (.int what), some (.null), none, none, none, none, none]) (st' := [.null]) (I' := I) (L' := L) (R' := zw_RC 14 4 la) rfl ?_
    refine zv_ifnonnullN (zs_at rfl) ?_
    refine zv_run 2 (pc' := 16) (lo' := [some (.ref 0), some (.int what), some (.null), none, none, none, none, none]) (st' := [.int 6, .int what]) (I' := I) (L' := L) (R' := zw_RC 14 4 la) rfl ?_
    refine zv_icmp_eq (tgt := 21) (zs_at rfl) (by decide) (fun c16 => ?_) (fun c16 => ?_)
    · exact absurd c16 h6
    · have _c := c16
      refine zv_run 1 (pc' := 20) (lo' := [some (.ref 0), some (.int what), some (.null), none, none, none, none, none]) (st' := [.int (-1)]) (I' := I) (L' := L) (R' := zw_RC 14 4 la) rfl ?_
      exact zv_iret (zs_at rfl) rfl ⟨Nat.le_refl _, Nat.le_refl _⟩ (zw_to rfl rfl rfl rfl)
  · refine zv_run 0 (pc' := 8) (lo' := [some (.ref 0), some (.int what), none, none, none, none, none, none]) (st' := [.ref w]) (I' := I) (L' := L) (R' := zw_RC 14 4 la) rfl ?_
    have hwf := fh_who_bt (Or.inr rfl) hw8
    refine zv_run 2 (pc' := 10) (lo' := [some (.ref 0), some (.int what), some (.ref w), none, none, none, none, none]) (st' := [.ref w]) (I' := I) (L' := L) (R' := zw_RC 14 4 la) rfl ?_
    refine zv_ifnonnull (tgt := 21) (zs_at rfl) (by decide) ?_
    exact absurd (hw8.symm.trans hno) (fun q => by cases q)
theorem ct_X9_looks_no {d : Nat} {I : zx_I} {L : zx_L} {h sp : Nat} {la : Option Nat} {what : Int32} (hh : hsp h sp) (hno : fh_who I h what = none) (h6 : ¬ what = 6) : zx_M0 mm_X9_looks (d + 1) 0 0 [.ref 0, .int what] zw_SC I L (zw_RC h sp la) (zw_ret (some (.int (-1))) zw_SC I L (zw_RC h sp la)) := by
  rcases hh with ⟨rfl, rfl⟩ | ⟨rfl, rfl⟩
  · exact ct_X9_looks_no_4 hno h6
  · exact ct_X9_looks_no_14 hno h6
theorem ct_X9_looks_4 {d : Nat} {I : zx_I} {L : zx_L} {la : Option Nat} {what : Int32} {m : Nat} {K : zx_I → Prop} (hok : fh_who I 4 what ≠ none ∨ what = 6) (hK : kr K 4) (hw9 : ∀ j, j < 6 → ∀ J x, K J → K (zx_uI J (4 + 4 + j) 9 x)) (hmm : ∀ J, K J → J 4 13 = nI m) (hm6 : m ≤ 6) (h0 : K (q_ask I 4 1)) : zx_M0 mm_X9_looks (d + 6) 0 0 [.ref 0, .int what] zw_SC I L (zw_RC 4 14 la) (zw_any (some (.int (lk_v (q_ask I 4 1) m (q_L L) 4 (fh_who I 4 what)))) (lk_1 4 m (q_L L) 12 0 1 (q_ask I 4 1)).2.2 (q_L L) 4 14) := by
  refine zv_entry gd_X9_looks (Nat.le_of_ble_eq_true rfl) ?_
  refine zv_run 3 (pc' := 5) (lo' := [some (.ref 0), some (.int what), none, none, none, none, none, none]) (st' := [.int what, .ref 4]) (I' := I) (L' := L) (R' := zw_RC 4 14 la) rfl ?_
  refine zv_cV (M' := mm_X5_who) (ci := 5) (a := 4) (av := [.int what]) (st := []) (r := some (va_rf (fh_who I 4 what))) (I' := I) (L' := L) (R' := zw_RC 4 14 la) rfl zc_9_85 gd_X5_who rfl rfl rfl (Nat.le_of_ble_eq_true rfl) (ct_X5_who (d := _) (Or.inl rfl)) ⟨Nat.le_refl _, Nat.le_refl _⟩ ?_
  rcases hw8 : fh_who I 4 what with _ | w
  · refine zv_run 0 (pc' := 8) (lo' := [some (.ref 0), some (.int what), none, none, none, none, none, none]) (st' := [.null]) (I' := I) (L' := L) (R' := zw_RC 4 14 la) rfl ?_
    refine zv_run 2 (pc' := 10) (lo' := [some (.ref 0), some (.int what), some (.null), none, none, none, none, none]) (st' := [.null]) (I' := I) (L' := L) (R' := zw_RC 4 14 la) rfl ?_
    refine zv_ifnonnullN (zs_at rfl) ?_
    refine zv_run 2 (pc' := 16) (lo' := [some (.ref 0), some (.int what), some (.null), none, none, none, none, none]) (st' := [.int 6, .int what]) (I' := I) (L' := L) (R' := zw_RC 4 14 la) rfl ?_
    refine zv_icmp_eq (tgt := 21) (zs_at rfl) (by decide) (fun c16 => ?_) (fun c16 => ?_)
    · have _c := c16
      refine zv_run 2 (pc' := 23) (lo' := [some (.ref 0), some (.int what), some (.null), none, none, none, none, none]) (st' := [.int 1, .ref 0]) (I' := I) (L' := L) (R' := zw_RC 4 14 la) rfl ?_
      refine zv_cV (M' := mm_X9_ask) (ci := 9) (a := 0) (av := [.int 1]) (st := []) (r := none) (I' := (q_ask I 4 1)) (L' := (q_L L)) (R' := zw_RC 4 14 la) rfl zc_9_156 gd_X9_ask rfl rfl rfl (Nat.le_of_ble_eq_true rfl) (ct_X9_ask_4 (d := _)) ⟨Nat.le_refl _, Nat.le_refl _⟩ ?_
      refine zv_run 0 (pc' := 26) (lo' := [some (.ref 0), some (.int what), some (.null), none, none, none, none, none]) (st' := []) (I' := (q_ask I 4 1)) (L' := (q_L L)) (R' := zw_RC 4 14 la) rfl ?_
      refine zv_run 4 (pc' := 31) (lo' := [some (.ref 0), some (.int what), some (.null), some (.int 1), some (.int 0), none, none, none]) (st' := []) (I' := (q_ask I 4 1)) (L' := (q_L L)) (R' := zw_RC 4 14 la) rfl ?_
      refine lp1_X9_looks_4 (wl := none) hK hw9 hmm hm6 12 0 1 _ _ _ _ _ rfl h0 (fun la x5 x6 x7 hJ => ?_)
      refine zv_run 1 (pc' := 126) (lo' := [some (.ref 0), some (.int what), some (.null), some (.int ((lk_1 4 m (q_L L) 12 0 1 (q_ask I 4 1)).2.1)), some (.int (nI (lk_1 4 m (q_L L) 12 0 1 (q_ask I 4 1)).1)), x5, x6, x7]) (st' := [.int ((lk_1 4 m (q_L L) 12 0 1 (q_ask I 4 1)).2.1)]) (I' := (lk_1 4 m (q_L L) 12 0 1 (q_ask I 4 1)).2.2) (L' := (q_L L)) (R' := zw_RC 4 14 la) rfl ?_
      refine zv_if_eq (tgt := 132) (zs_at rfl) (by decide) (fun c126 => ?_) (fun c126 => ?_)
      · have _c := c126
        refine zv_run 1 (pc' := 133) (lo' := [some (.ref 0), some (.int what), some (.null), some (.int ((lk_1 4 m (q_L L) 12 0 1 (q_ask I 4 1)).2.1)), some (.int (nI (lk_1 4 m (q_L L) 12 0 1 (q_ask I 4 1)).1)), x5, x6, x7]) (st' := [.null]) (I' := (lk_1 4 m (q_L L) 12 0 1 (q_ask I 4 1)).2.2) (L' := (q_L L)) (R' := zw_RC 4 14 la) rfl ?_
        refine zv_ifnonnullN (zs_at rfl) ?_
        refine zv_run 2 (pc' := 150) (lo' := [some (.ref 0), some (.int what), some (.null), some (.int ((lk_1 4 m (q_L L) 12 0 1 (q_ask I 4 1)).2.1)), some (.int (nI (lk_1 4 m (q_L L) 12 0 1 (q_ask I 4 1)).1)), x5, x6, x7]) (st' := [.int (nI (lk_1 4 m (q_L L) 12 0 1 (q_ask I 4 1)).1)]) (I' := (lk_1 4 m (q_L L) 12 0 1 (q_ask I 4 1)).2.2) (L' := (q_L L)) (R' := zw_RC 4 14 la) rfl ?_
        exact zv_iret (zs_at rfl) rfl ⟨Nat.le_refl _, Nat.le_refl _⟩ (zw_toa (by unfold lk_v; rw [if_pos c126]) rfl rfl)
      · have _c := c126
        refine zv_run 1 (pc' := 131) (lo' := [some (.ref 0), some (.int what), some (.null), some (.int ((lk_1 4 m (q_L L) 12 0 1 (q_ask I 4 1)).2.1)), some (.int (nI (lk_1 4 m (q_L L) 12 0 1 (q_ask I 4 1)).1)), x5, x6, x7]) (st' := [.int (-4)]) (I' := (lk_1 4 m (q_L L) 12 0 1 (q_ask I 4 1)).2.2) (L' := (q_L L)) (R' := zw_RC 4 14 la) rfl ?_
        exact zv_iret (zs_at rfl) rfl ⟨Nat.le_refl _, Nat.le_refl _⟩ (zw_toa (by unfold lk_v; rw [if_neg c126]) rfl rfl)
    · have _c := c16
      refine zv_run 1 (pc' := 20) (lo' := [some (.ref 0), some (.int what), some (.null), none, none, none, none, none]) (st' := [.int (-1)]) (I' := I) (L' := L) (R' := zw_RC 4 14 la) rfl ?_
      exact zv_iret (zs_at rfl) rfl ⟨Nat.le_refl _, Nat.le_refl _⟩ (absurd hok (fun q => q.elim (fun q => q hw8) c16))
  · refine zv_run 0 (pc' := 8) (lo' := [some (.ref 0), some (.int what), none, none, none, none, none, none]) (st' := [.ref w]) (I' := I) (L' := L) (R' := zw_RC 4 14 la) rfl ?_
    have hwf := fh_who_bt (Or.inl rfl) hw8
    refine zv_run 2 (pc' := 10) (lo' := [some (.ref 0), some (.int what), some (.ref w), none, none, none, none, none]) (st' := [.ref w]) (I' := I) (L' := L) (R' := zw_RC 4 14 la) rfl ?_
    refine zv_ifnonnull (tgt := 21) (zs_at rfl) (by decide) ?_
    refine zv_run 2 (pc' := 23) (lo' := [some (.ref 0), some (.int what), some (.ref w), none, none, none, none, none]) (st' := [.int 1, .ref 0]) (I' := I) (L' := L) (R' := zw_RC 4 14 la) rfl ?_
    refine zv_cV (M' := mm_X9_ask) (ci := 9) (a := 0) (av := [.int 1]) (st := []) (r := none) (I' := (q_ask I 4 1)) (L' := (q_L L)) (R' := zw_RC 4 14 la) rfl zc_9_156 gd_X9_ask rfl rfl rfl (Nat.le_of_ble_eq_true rfl) (ct_X9_ask_4 (d := _)) ⟨Nat.le_refl _, Nat.le_refl _⟩ ?_
    refine zv_run 0 (pc' := 26) (lo' := [some (.ref 0), some (.int what), some (.ref w), none, none, none, none, none]) (st' := []) (I' := (q_ask I 4 1)) (L' := (q_L L)) (R' := zw_RC 4 14 la) rfl ?_
    refine zv_run 4 (pc' := 31) (lo' := [some (.ref 0), some (.int what), some (.ref w), some (.int 1), some (.int 0), none, none, none]) (st' := []) (I' := (q_ask I 4 1)) (L' := (q_L L)) (R' := zw_RC 4 14 la) rfl ?_
    refine lp1_X9_looks_4 (wl := some w) hK hw9 hmm hm6 12 0 1 _ _ _ _ _ rfl h0 (fun la x5 x6 x7 hJ => ?_)
    refine zv_run 1 (pc' := 126) (lo' := [some (.ref 0), some (.int what), some (.ref w), some (.int ((lk_1 4 m (q_L L) 12 0 1 (q_ask I 4 1)).2.1)), some (.int (nI (lk_1 4 m (q_L L) 12 0 1 (q_ask I 4 1)).1)), x5, x6, x7]) (st' := [.int ((lk_1 4 m (q_L L) 12 0 1 (q_ask I 4 1)).2.1)]) (I' := (lk_1 4 m (q_L L) 12 0 1 (q_ask I 4 1)).2.2) (L' := (q_L L)) (R' := zw_RC 4 14 la) rfl ?_
    refine zv_if_eq (tgt := 132) (zs_at rfl) (by decide) (fun c126 => ?_) (fun c126 => ?_)
    · have _c := c126
      refine zv_run 1 (pc' := 133) (lo' := [some (.ref 0), some (.int what), some (.ref w), some (.int ((lk_1 4 m (q_L L) 12 0 1 (q_ask I 4 1)).2.1)), some (.int (nI (lk_1 4 m (q_L L) 12 0 1 (q_ask I 4 1)).1)), x5, x6, x7]) (st' := [.ref w]) (I' := (lk_1 4 m (q_L L) 12 0 1 (q_ask I 4 1)).2.2) (L' := (q_L L)) (R' := zw_RC 4 14 la) rfl ?_
      refine zv_ifnonnull (tgt := 141) (zs_at rfl) (by decide) ?_
      refine zv_run 1 (pc' := 142) (lo' := [some (.ref 0), some (.int what), some (.ref w), some (.int ((lk_1 4 m (q_L L) 12 0 1 (q_ask I 4 1)).2.1)), some (.int (nI (lk_1 4 m (q_L L) 12 0 1 (q_ask I 4 1)).1)), x5, x6, x7]) (st' := [.ref w]) (I' := (lk_1 4 m (q_L L) 12 0 1 (q_ask I 4 1)).2.2) (L' := (q_L L)) (R' := zw_RC 4 14 la) rfl ?_
      refine zv_get (ci := 2) (k := 9) (t := 0) (zs_at rfl) (zf_ok rfl) (bt_S hwf.1) rfl ?_
      refine zv_run 0 (pc' := 145) (lo' := [some (.ref 0), some (.int what), some (.ref w), some (.int ((lk_1 4 m (q_L L) 12 0 1 (q_ask I 4 1)).2.1)), some (.int (nI (lk_1 4 m (q_L L) 12 0 1 (q_ask I 4 1)).1)), x5, x6, x7]) (st' := [.int ((lk_1 4 m (q_L L) 12 0 1 (q_ask I 4 1)).2.2 w 9)]) (I' := (lk_1 4 m (q_L L) 12 0 1 (q_ask I 4 1)).2.2) (L' := (q_L L)) (R' := zw_RC 4 14 la) rfl ?_
      refine zv_run 1 (pc' := 146) (lo' := [some (.ref 0), some (.int what), some (.ref w), some (.int ((lk_1 4 m (q_L L) 12 0 1 (q_ask I 4 1)).2.1)), some (.int (nI (lk_1 4 m (q_L L) 12 0 1 (q_ask I 4 1)).1)), x5, x6, x7]) (st' := [.ref w, .int ((lk_1 4 m (q_L L) 12 0 1 (q_ask I 4 1)).2.2 w 9)]) (I' := (lk_1 4 m (q_L L) 12 0 1 (q_ask I 4 1)).2.2) (L' := (q_L L)) (R' := zw_RC 4 14 la) rfl ?_
      refine zv_get (ci := 2) (k := 5) (t := 0) (zs_at rfl) (zf_ok rfl) (bt_S hwf.1) rfl ?_
      refine zv_run 0 (pc' := 149) (lo' := [some (.ref 0), some (.int what), some (.ref w), some (.int ((lk_1 4 m (q_L L) 12 0 1 (q_ask I 4 1)).2.1)), some (.int (nI (lk_1 4 m (q_L L) 12 0 1 (q_ask I 4 1)).1)), x5, x6, x7]) (st' := [.int ((lk_1 4 m (q_L L) 12 0 1 (q_ask I 4 1)).2.2 w 5), .int ((lk_1 4 m (q_L L) 12 0 1 (q_ask I 4 1)).2.2 w 9)]) (I' := (lk_1 4 m (q_L L) 12 0 1 (q_ask I 4 1)).2.2) (L' := (q_L L)) (R' := zw_RC 4 14 la) rfl ?_
      refine zv_run 1 (pc' := 150) (lo' := [some (.ref 0), some (.int what), some (.ref w), some (.int ((lk_1 4 m (q_L L) 12 0 1 (q_ask I 4 1)).2.1)), some (.int (nI (lk_1 4 m (q_L L) 12 0 1 (q_ask I 4 1)).1)), x5, x6, x7]) (st' := [.int (((lk_1 4 m (q_L L) 12 0 1 (q_ask I 4 1)).2.2 w 9) - ((lk_1 4 m (q_L L) 12 0 1 (q_ask I 4 1)).2.2 w 5))]) (I' := (lk_1 4 m (q_L L) 12 0 1 (q_ask I 4 1)).2.2) (L' := (q_L L)) (R' := zw_RC 4 14 la) rfl ?_
      exact zv_iret (zs_at rfl) rfl ⟨Nat.le_refl _, Nat.le_refl _⟩ (zw_toa (by unfold lk_v; rw [if_pos c126]) rfl rfl)
    · have _c := c126
      refine zv_run 1 (pc' := 131) (lo' := [some (.ref 0), some (.int what), some (.ref w), some (.int ((lk_1 4 m (q_L L) 12 0 1 (q_ask I 4 1)).2.1)), some (.int (nI (lk_1 4 m (q_L L) 12 0 1 (q_ask I 4 1)).1)), x5, x6, x7]) (st' := [.int (-4)]) (I' := (lk_1 4 m (q_L L) 12 0 1 (q_ask I 4 1)).2.2) (L' := (q_L L)) (R' := zw_RC 4 14 la) rfl ?_
      exact zv_iret (zs_at rfl) rfl ⟨Nat.le_refl _, Nat.le_refl _⟩ (zw_toa (by unfold lk_v; rw [if_neg c126]) rfl rfl)
theorem ct_X9_looks_14 {d : Nat} {I : zx_I} {L : zx_L} {la : Option Nat} {what : Int32} {m : Nat} {K : zx_I → Prop} (hok : fh_who I 14 what ≠ none ∨ what = 6) (hK : kr K 14) (hw9 : ∀ j, j < 6 → ∀ J x, K J → K (zx_uI J (14 + 4 + j) 9 x)) (hmm : ∀ J, K J → J 14 13 = nI m) (hm6 : m ≤ 6) (h0 : K (q_ask I 14 1)) : zx_M0 mm_X9_looks (d + 6) 0 0 [.ref 0, .int what] zw_SC I L (zw_RC 14 4 la) (zw_any (some (.int (lk_v (q_ask I 14 1) m (q_L L) 14 (fh_who I 14 what)))) (lk_1 14 m (q_L L) 12 0 1 (q_ask I 14 1)).2.2 (q_L L) 14 4) := by
  refine zv_entry gd_X9_looks (Nat.le_of_ble_eq_true rfl) ?_
  refine zv_run 3 (pc' := 5) (lo' := [some (.ref 0), some (.int what), none, none, none, none, none, none]) (st' := [.int what, .ref 14]) (I' := I) (L' := L) (R' := zw_RC 14 4 la) rfl ?_
  refine zv_cV (M' := mm_X5_who) (ci := 5) (a := 14) (av := [.int what]) (st := []) (r := some (va_rf (fh_who I 14 what))) (I' := I) (L' := L) (R' := zw_RC 14 4 la) rfl zc_9_85 gd_X5_who rfl rfl rfl (Nat.le_of_ble_eq_true rfl) (ct_X5_who (d := _) (Or.inr rfl)) ⟨Nat.le_refl _, Nat.le_refl _⟩ ?_
  rcases hw8 : fh_who I 14 what with _ | w
  · refine zv_run 0 (pc' := 8) (lo' := [some (.ref 0), some (.int what), none, none, none, none, none, none]) (st' := [.null]) (I' := I) (L' := L) (R' := zw_RC 14 4 la) rfl ?_
    refine zv_run 2 (pc' := 10) (lo' := [some (.ref 0), some (.int what), some (.null), none, none, none, none, none]) (st' := [.null]) (I' := I) (L' := L) (R' := zw_RC 14 4 la) rfl ?_
    refine zv_ifnonnullN (zs_at rfl) ?_
    refine zv_run 2 (pc' := 16) (lo' := [some (.ref 0), some (.int what), some (.null), none, none, none, none, none]) (st' := [.int 6, .int what]) (I' := I) (L' := L) (R' := zw_RC 14 4 la) rfl ?_
    refine zv_icmp_eq (tgt := 21) (zs_at rfl) (by decide) (fun c16 => ?_) (fun c16 => ?_)
    · have _c := c16
      refine zv_run 2 (pc' := 23) (lo' := [some (.ref 0), some (.int what), some (.null), none, none, none, none, none]) (st' := [.int 1, .ref 0]) (I' := I) (L' := L) (R' := zw_RC 14 4 la) rfl ?_
      refine zv_cV (M' := mm_X9_ask) (ci := 9) (a := 0) (av := [.int 1]) (st := []) (r := none) (I' := (q_ask I 14 1)) (L' := (q_L L)) (R' := zw_RC 14 4 la) rfl zc_9_156 gd_X9_ask rfl rfl rfl (Nat.le_of_ble_eq_true rfl) (ct_X9_ask_14 (d := _)) ⟨Nat.le_refl _, Nat.le_refl _⟩ ?_
      refine zv_run 0 (pc' := 26) (lo' := [some (.ref 0), some (.int what), some (.null), none, none, none, none, none]) (st' := []) (I' := (q_ask I 14 1)) (L' := (q_L L)) (R' := zw_RC 14 4 la) rfl ?_
      refine zv_run 4 (pc' := 31) (lo' := [some (.ref 0), some (.int what), some (.null), some (.int 1), some (.int 0), none, none, none]) (st' := []) (I' := (q_ask I 14 1)) (L' := (q_L L)) (R' := zw_RC 14 4 la) rfl ?_
      refine lp1_X9_looks_14 (wl := none) hK hw9 hmm hm6 12 0 1 _ _ _ _ _ rfl h0 (fun la x5 x6 x7 hJ => ?_)
      refine zv_run 1 (pc' := 126) (lo' := [some (.ref 0), some (.int what), some (.null), some (.int ((lk_1 14 m (q_L L) 12 0 1 (q_ask I 14 1)).2.1)), some (.int (nI (lk_1 14 m (q_L L) 12 0 1 (q_ask I 14 1)).1)), x5, x6, x7]) (st' := [.int ((lk_1 14 m (q_L L) 12 0 1 (q_ask I 14 1)).2.1)]) (I' := (lk_1 14 m (q_L L) 12 0 1 (q_ask I 14 1)).2.2) (L' := (q_L L)) (R' := zw_RC 14 4 la) rfl ?_
      refine zv_if_eq (tgt := 132) (zs_at rfl) (by decide) (fun c126 => ?_) (fun c126 => ?_)
      · have _c := c126
        refine zv_run 1 (pc' := 133) (lo' := [some (.ref 0), some (.int what), some (.null), some (.int ((lk_1 14 m (q_L L) 12 0 1 (q_ask I 14 1)).2.1)), some (.int (nI (lk_1 14 m (q_L L) 12 0 1 (q_ask I 14 1)).1)), x5, x6, x7]) (st' := [.null]) (I' := (lk_1 14 m (q_L L) 12 0 1 (q_ask I 14 1)).2.2) (L' := (q_L L)) (R' := zw_RC 14 4 la) rfl ?_
        refine zv_ifnonnullN (zs_at rfl) ?_
        refine zv_run 2 (pc' := 150) (lo' := [some (.ref 0), some (.int what), some (.null), some (.int ((lk_1 14 m (q_L L) 12 0 1 (q_ask I 14 1)).2.1)), some (.int (nI (lk_1 14 m (q_L L) 12 0 1 (q_ask I 14 1)).1)), x5, x6, x7]) (st' := [.int (nI (lk_1 14 m (q_L L) 12 0 1 (q_ask I 14 1)).1)]) (I' := (lk_1 14 m (q_L L) 12 0 1 (q_ask I 14 1)).2.2) (L' := (q_L L)) (R' := zw_RC 14 4 la) rfl ?_
        exact zv_iret (zs_at rfl) rfl ⟨Nat.le_refl _, Nat.le_refl _⟩ (zw_toa (by unfold lk_v; rw [if_pos c126]) rfl rfl)
      · have _c := c126
        refine zv_run 1 (pc' := 131) (lo' := [some (.ref 0), some (.int what), some (.null), some (.int ((lk_1 14 m (q_L L) 12 0 1 (q_ask I 14 1)).2.1)), some (.int (nI (lk_1 14 m (q_L L) 12 0 1 (q_ask I 14 1)).1)), x5, x6, x7]) (st' := [.int (-4)]) (I' := (lk_1 14 m (q_L L) 12 0 1 (q_ask I 14 1)).2.2) (L' := (q_L L)) (R' := zw_RC 14 4 la) rfl ?_
        exact zv_iret (zs_at rfl) rfl ⟨Nat.le_refl _, Nat.le_refl _⟩ (zw_toa (by unfold lk_v; rw [if_neg c126]) rfl rfl)
    · have _c := c16
      refine zv_run 1 (pc' := 20) (lo' := [some (.ref 0), some (.int what), some (.null), none, none, none, none, none]) (st' := [.int (-1)]) (I' := I) (L' := L) (R' := zw_RC 14 4 la) rfl ?_
      exact zv_iret (zs_at rfl) rfl ⟨Nat.le_refl _, Nat.le_refl _⟩ (absurd hok (fun q => q.elim (fun q => q hw8) c16))
  · refine zv_run 0 (pc' := 8) (lo' := [some (.ref 0), some (.int what), none, none, none, none, none, none]) (st' := [.ref w]) (I' := I) (L' := L) (R' := zw_RC 14 4 la) rfl ?_
    have hwf := fh_who_bt (Or.inr rfl) hw8
    refine zv_run 2 (pc' := 10) (lo' := [some (.ref 0), some (.int what), some (.ref w), none, none, none, none, none]) (st' := [.ref w]) (I' := I) (L' := L) (R' := zw_RC 14 4 la) rfl ?_
    refine zv_ifnonnull (tgt := 21) (zs_at rfl) (by decide) ?_
    refine zv_run 2 (pc' := 23) (lo' := [some (.ref 0), some (.int what), some (.ref w), none, none, none, none, none]) (st' := [.int 1, .ref 0]) (I' := I) (L' := L) (R' := zw_RC 14 4 la) rfl ?_
    refine zv_cV (M' := mm_X9_ask) (ci := 9) (a := 0) (av := [.int 1]) (st := []) (r := none) (I' := (q_ask I 14 1)) (L' := (q_L L)) (R' := zw_RC 14 4 la) rfl zc_9_156 gd_X9_ask rfl rfl rfl (Nat.le_of_ble_eq_true rfl) (ct_X9_ask_14 (d := _)) ⟨Nat.le_refl _, Nat.le_refl _⟩ ?_
    refine zv_run 0 (pc' := 26) (lo' := [some (.ref 0), some (.int what), some (.ref w), none, none, none, none, none]) (st' := []) (I' := (q_ask I 14 1)) (L' := (q_L L)) (R' := zw_RC 14 4 la) rfl ?_
    refine zv_run 4 (pc' := 31) (lo' := [some (.ref 0), some (.int what), some (.ref w), some (.int 1), some (.int 0), none, none, none]) (st' := []) (I' := (q_ask I 14 1)) (L' := (q_L L)) (R' := zw_RC 14 4 la) rfl ?_
    refine lp1_X9_looks_14 (wl := some w) hK hw9 hmm hm6 12 0 1 _ _ _ _ _ rfl h0 (fun la x5 x6 x7 hJ => ?_)
    refine zv_run 1 (pc' := 126) (lo' := [some (.ref 0), some (.int what), some (.ref w), some (.int ((lk_1 14 m (q_L L) 12 0 1 (q_ask I 14 1)).2.1)), some (.int (nI (lk_1 14 m (q_L L) 12 0 1 (q_ask I 14 1)).1)), x5, x6, x7]) (st' := [.int ((lk_1 14 m (q_L L) 12 0 1 (q_ask I 14 1)).2.1)]) (I' := (lk_1 14 m (q_L L) 12 0 1 (q_ask I 14 1)).2.2) (L' := (q_L L)) (R' := zw_RC 14 4 la) rfl ?_
    refine zv_if_eq (tgt := 132) (zs_at rfl) (by decide) (fun c126 => ?_) (fun c126 => ?_)
    · have _c := c126
      refine zv_run 1 (pc' := 133) (lo' := [some (.ref 0), some (.int what), some (.ref w), some (.int ((lk_1 14 m (q_L L) 12 0 1 (q_ask I 14 1)).2.1)), some (.int (nI (lk_1 14 m (q_L L) 12 0 1 (q_ask I 14 1)).1)), x5, x6, x7]) (st' := [.ref w]) (I' := (lk_1 14 m (q_L L) 12 0 1 (q_ask I 14 1)).2.2) (L' := (q_L L)) (R' := zw_RC 14 4 la) rfl ?_
      refine zv_ifnonnull (tgt := 141) (zs_at rfl) (by decide) ?_
      refine zv_run 1 (pc' := 142) (lo' := [some (.ref 0), some (.int what), some (.ref w), some (.int ((lk_1 14 m (q_L L) 12 0 1 (q_ask I 14 1)).2.1)), some (.int (nI (lk_1 14 m (q_L L) 12 0 1 (q_ask I 14 1)).1)), x5, x6, x7]) (st' := [.ref w]) (I' := (lk_1 14 m (q_L L) 12 0 1 (q_ask I 14 1)).2.2) (L' := (q_L L)) (R' := zw_RC 14 4 la) rfl ?_
      refine zv_get (ci := 2) (k := 9) (t := 0) (zs_at rfl) (zf_ok rfl) (bt_S hwf.1) rfl ?_
      refine zv_run 0 (pc' := 145) (lo' := [some (.ref 0), some (.int what), some (.ref w), some (.int ((lk_1 14 m (q_L L) 12 0 1 (q_ask I 14 1)).2.1)), some (.int (nI (lk_1 14 m (q_L L) 12 0 1 (q_ask I 14 1)).1)), x5, x6, x7]) (st' := [.int ((lk_1 14 m (q_L L) 12 0 1 (q_ask I 14 1)).2.2 w 9)]) (I' := (lk_1 14 m (q_L L) 12 0 1 (q_ask I 14 1)).2.2) (L' := (q_L L)) (R' := zw_RC 14 4 la) rfl ?_
      refine zv_run 1 (pc' := 146) (lo' := [some (.ref 0), some (.int what), some (.ref w), some (.int ((lk_1 14 m (q_L L) 12 0 1 (q_ask I 14 1)).2.1)), some (.int (nI (lk_1 14 m (q_L L) 12 0 1 (q_ask I 14 1)).1)), x5, x6, x7]) (st' := [.ref w, .int ((lk_1 14 m (q_L L) 12 0 1 (q_ask I 14 1)).2.2 w 9)]) (I' := (lk_1 14 m (q_L L) 12 0 1 (q_ask I 14 1)).2.2) (L' := (q_L L)) (R' := zw_RC 14 4 la) rfl ?_
      refine zv_get (ci := 2) (k := 5) (t := 0) (zs_at rfl) (zf_ok rfl) (bt_S hwf.1) rfl ?_
      refine zv_run 0 (pc' := 149) (lo' := [some (.ref 0), some (.int what), some (.ref w), some (.int ((lk_1 14 m (q_L L) 12 0 1 (q_ask I 14 1)).2.1)), some (.int (nI (lk_1 14 m (q_L L) 12 0 1 (q_ask I 14 1)).1)), x5, x6, x7]) (st' := [.int ((lk_1 14 m (q_L L) 12 0 1 (q_ask I 14 1)).2.2 w 5), .int ((lk_1 14 m (q_L L) 12 0 1 (q_ask I 14 1)).2.2 w 9)]) (I' := (lk_1 14 m (q_L L) 12 0 1 (q_ask I 14 1)).2.2) (L' := (q_L L)) (R' := zw_RC 14 4 la) rfl ?_
      refine zv_run 1 (pc' := 150) (lo' := [some (.ref 0), some (.int what), some (.ref w), some (.int ((lk_1 14 m (q_L L) 12 0 1 (q_ask I 14 1)).2.1)), some (.int (nI (lk_1 14 m (q_L L) 12 0 1 (q_ask I 14 1)).1)), x5, x6, x7]) (st' := [.int (((lk_1 14 m (q_L L) 12 0 1 (q_ask I 14 1)).2.2 w 9) - ((lk_1 14 m (q_L L) 12 0 1 (q_ask I 14 1)).2.2 w 5))]) (I' := (lk_1 14 m (q_L L) 12 0 1 (q_ask I 14 1)).2.2) (L' := (q_L L)) (R' := zw_RC 14 4 la) rfl ?_
      exact zv_iret (zs_at rfl) rfl ⟨Nat.le_refl _, Nat.le_refl _⟩ (zw_toa (by unfold lk_v; rw [if_pos c126]) rfl rfl)
    · have _c := c126
      refine zv_run 1 (pc' := 131) (lo' := [some (.ref 0), some (.int what), some (.ref w), some (.int ((lk_1 14 m (q_L L) 12 0 1 (q_ask I 14 1)).2.1)), some (.int (nI (lk_1 14 m (q_L L) 12 0 1 (q_ask I 14 1)).1)), x5, x6, x7]) (st' := [.int (-4)]) (I' := (lk_1 14 m (q_L L) 12 0 1 (q_ask I 14 1)).2.2) (L' := (q_L L)) (R' := zw_RC 14 4 la) rfl ?_
      exact zv_iret (zs_at rfl) rfl ⟨Nat.le_refl _, Nat.le_refl _⟩ (zw_toa (by unfold lk_v; rw [if_neg c126]) rfl rfl)
theorem ct_X9_looks {d : Nat} {I : zx_I} {L : zx_L} {h sp : Nat} {la : Option Nat} {what : Int32} {m : Nat} {K : zx_I → Prop} (hh : hsp h sp) (hok : fh_who I h what ≠ none ∨ what = 6) (hK : kr K h) (hw9 : ∀ j, j < 6 → ∀ J x, K J → K (zx_uI J (h + 4 + j) 9 x)) (hmm : ∀ J, K J → J h 13 = nI m) (hm6 : m ≤ 6) (h0 : K (q_ask I h 1)) : zx_M0 mm_X9_looks (d + 6) 0 0 [.ref 0, .int what] zw_SC I L (zw_RC h sp la) (zw_any (some (.int (lk_v (q_ask I h 1) m (q_L L) h (fh_who I h what)))) (lk_1 h m (q_L L) 12 0 1 (q_ask I h 1)).2.2 (q_L L) h sp) := by
  rcases hh with ⟨rfl, rfl⟩ | ⟨rfl, rfl⟩
  · exact ct_X9_looks_4 hok hK hw9 hmm hm6 h0
  · exact ct_X9_looks_14 hok hK hw9 hmm hm6 h0
