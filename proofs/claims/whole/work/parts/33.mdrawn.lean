/-! methods of the model, by program -/
def mf_drawn (n : Nat) (x1 : Int32) (x2 : Int32) (J : zx_I) : Option (Int32 × zx_I) := (if (mf_in x1 (0 : Int32) (999 : Int32)) = 0 then some ((-1 : Int32), J) else (if (mf_holds J) < x1 then some ((-1 : Int32), J) else (if (mf_in x2 (-1 : Int32) ((J 3 0) - 1)) = 0 then some ((-1 : Int32), J) else ((mf_fill n J).bind fun p38 => (if x2 = (-1 : Int32) then ((mf_unitsOf n (0 : Int32) x1 p38).bind fun p49 => some (p49, p38)) else ((mf_draw n x1 p38).bind fun p55 => (mo_g (mo_in x2 6) (some ((p55 10 x2.toNatClampNeg), p55)))))))))
theorem mt_drawn {d n : Nat} {x1 : Int32} {x2 : Int32} {J : zx_I} {L : zx_L} {p : Int32 × zx_I} (h : mf_drawn n x1 x2 J = some p) : zx_M0 mm_X10_drawn (d + 3) 0 0 [.ref 0, .int x1, .int x2] zw_SM J L zw_RM (zw_ret (some (.int p.1)) zw_SM p.2 L zw_RM) := by
  unfold mf_drawn at h
  refine zv_entry gd_X10_drawn (Nat.le_of_ble_eq_true rfl) ?_
  refine zv_run 3 (pc' := 5) (lo' := [some (.ref 0), some (.int x1), some (.int x2)]) (st' := [.int 999, .int 0, .int x1]) (I' := J) (L' := L) (R' := zw_RM) rfl ?_
  refine zv_cSz (M' := mm_X10_in) (av := [.int x1, .int 0, .int 999]) (st := []) (v := (mf_in x1 (0 : Int32) (999 : Int32))) (I' := J) (L' := L) (R' := zw_RM) rfl zc_10_86 gd_X10_in rfl (Nat.le_of_ble_eq_true rfl) (mt_in (d := _) rfl) ⟨Nat.le_refl _, Nat.le_refl _⟩ ?_
  intro b5
  refine zv_run 0 (pc' := 8) (lo' := [some (.ref 0), some (.int x1), some (.int x2)]) (st' := [.int (mf_in x1 (0 : Int32) (999 : Int32))]) (I' := J) (L' := L) (R' := zw_RM) rfl ?_
  refine zv_if_eq (tgt := 35) (zs_at rfl) (by decide) (fun c8 => ?_) (fun c8 => ?_)
  · have h := mo_t h c8
    refine zv_run 1 (pc' := 36) (lo' := [some (.ref 0), some (.int x1), some (.int x2)]) (st' := [.int (-1)]) (I' := J) (L' := L) (R' := zw_RM) rfl ?_
    obtain rfl := Option.some.inj h
    exact zv_iret (zs_at rfl) rfl ⟨Nat.le_refl _, Nat.le_refl _⟩ zw_here
  · have h := mo_f h c8
    refine zv_run 2 (pc' := 13) (lo' := [some (.ref 0), some (.int x1), some (.int x2)]) (st' := [.ref 0, .int x1]) (I' := J) (L' := L) (R' := zw_RM) rfl ?_
    refine zv_cV (M' := mm_X10_holds) (ci := 10) (a := 0) (av := []) (st := [.int x1]) (r := some (.int (mf_holds J))) (I' := J) (L' := L) (R' := zw_RM) rfl zc_10_143 gd_X10_holds rfl rfl rfl (Nat.le_of_ble_eq_true rfl) (mt_holds (d := _) rfl) ⟨Nat.le_refl _, Nat.le_refl _⟩ ?_
    refine zv_run 0 (pc' := 16) (lo' := [some (.ref 0), some (.int x1), some (.int x2)]) (st' := [.int (mf_holds J), .int x1]) (I' := J) (L' := L) (R' := zw_RM) rfl ?_
    refine zv_icmp_gt (tgt := 35) (zs_at rfl) (by decide) (fun c16 => ?_) (fun c16 => ?_)
    · have h := mo_t h c16
      refine zv_run 1 (pc' := 36) (lo' := [some (.ref 0), some (.int x1), some (.int x2)]) (st' := [.int (-1)]) (I' := J) (L' := L) (R' := zw_RM) rfl ?_
      obtain rfl := Option.some.inj h
      exact zv_iret (zs_at rfl) rfl ⟨Nat.le_refl _, Nat.le_refl _⟩ zw_here
    · have h := mo_f h c16
      refine zv_run 8 (pc' := 29) (lo' := [some (.ref 0), some (.int x1), some (.int x2)]) (st' := [.int ((J 3 0) - 1), .int (-1), .int x2]) (I' := J) (L' := L) (R' := zw_RM) rfl ?_
      refine zv_cSz (M' := mm_X10_in) (av := [.int x2, .int (-1), .int ((J 3 0) - 1)]) (st := []) (v := (mf_in x2 (-1 : Int32) ((J 3 0) - 1))) (I' := J) (L' := L) (R' := zw_RM) rfl zc_10_86 gd_X10_in rfl (Nat.le_of_ble_eq_true rfl) (mt_in (d := _) rfl) ⟨Nat.le_refl _, Nat.le_refl _⟩ ?_
      intro b29
      refine zv_run 0 (pc' := 32) (lo' := [some (.ref 0), some (.int x1), some (.int x2)]) (st' := [.int (mf_in x2 (-1 : Int32) ((J 3 0) - 1))]) (I' := J) (L' := L) (R' := zw_RM) rfl ?_
      refine zv_if_ne (tgt := 37) (zs_at rfl) (by decide) (fun c32 => ?_) (fun c32 => ?_)
      · have h := mo_f h c32
        refine zv_run 1 (pc' := 38) (lo' := [some (.ref 0), some (.int x1), some (.int x2)]) (st' := [.ref 0]) (I' := J) (L' := L) (R' := zw_RM) rfl ?_
        obtain ⟨p38, e38, h⟩ := mo_b h
        refine zv_cV (M' := mm_X10_fill) (ci := 10) (a := 0) (av := []) (st := []) (r := none) (I' := p38) (L' := L) (R' := zw_RM) rfl zc_10_149 gd_X10_fill rfl rfl rfl (Nat.le_of_ble_eq_true rfl) (mt_fill (d := _) e38) ⟨Nat.le_refl _, Nat.le_refl _⟩ ?_
        refine zv_run 0 (pc' := 41) (lo' := [some (.ref 0), some (.int x1), some (.int x2)]) (st' := []) (I' := p38) (L' := L) (R' := zw_RM) rfl ?_
        refine zv_run 2 (pc' := 43) (lo' := [some (.ref 0), some (.int x1), some (.int x2)]) (st' := [.int (-1), .int x2]) (I' := p38) (L' := L) (R' := zw_RM) rfl ?_
        refine zv_icmp_ne (tgt := 53) (zs_at rfl) (by decide) (fun c43 => ?_) (fun c43 => ?_)
        · have h := mo_f h c43
          refine zv_run 2 (pc' := 55) (lo' := [some (.ref 0), some (.int x1), some (.int x2)]) (st' := [.int x1, .ref 0]) (I' := p38) (L' := L) (R' := zw_RM) rfl ?_
          obtain ⟨p55, e55, h⟩ := mo_b h
          refine zv_cV (M' := mm_X10_draw) (ci := 10) (a := 0) (av := [.int x1]) (st := []) (r := none) (I' := p55) (L' := L) (R' := zw_RM) rfl zc_10_152 gd_X10_draw rfl rfl rfl (Nat.le_of_ble_eq_true rfl) (mt_draw (d := _) e55) ⟨Nat.le_refl _, Nat.le_refl _⟩ ?_
          refine zv_run 0 (pc' := 58) (lo' := [some (.ref 0), some (.int x1), some (.int x2)]) (st' := []) (I' := p55) (L' := L) (R' := zw_RM) rfl ?_
          refine zv_run 3 (pc' := 63) (lo' := [some (.ref 0), some (.int x1), some (.int x2)]) (st' := [.int x2, .ref 10]) (I' := p55) (L' := L) (R' := zw_RM) rfl ?_
          obtain ⟨g63, h⟩ := mo_gs h
          refine zv_iald (zs_at rfl) rfl (mo_in_vp g63) ?_
          refine zv_run 0 (pc' := 64) (lo' := [some (.ref 0), some (.int x1), some (.int x2)]) (st' := [.int (p55 10 x2.toNatClampNeg)]) (I' := p55) (L' := L) (R' := zw_RM) rfl ?_
          obtain rfl := Option.some.inj h
          exact zv_iret (zs_at rfl) rfl ⟨Nat.le_refl _, Nat.le_refl _⟩ zw_here
        · have h := mo_t h c43
          refine zv_run 3 (pc' := 49) (lo' := [some (.ref 0), some (.int x1), some (.int x2)]) (st' := [.int x1, .int 0, .ref 0]) (I' := p38) (L' := L) (R' := zw_RM) rfl ?_
          obtain ⟨p49, e49, h⟩ := mo_b h
          refine zv_cV (M' := mm_X10_unitsOf) (ci := 10) (a := 0) (av := [.int 0, .int x1]) (st := []) (r := some (.int p49)) (I' := p38) (L' := L) (R' := zw_RM) rfl zc_10_146 gd_X10_unitsOf rfl rfl rfl (Nat.le_of_ble_eq_true rfl) (mt_unitsOf (d := _) e49) ⟨Nat.le_refl _, Nat.le_refl _⟩ ?_
          refine zv_run 0 (pc' := 52) (lo' := [some (.ref 0), some (.int x1), some (.int x2)]) (st' := [.int p49]) (I' := p38) (L' := L) (R' := zw_RM) rfl ?_
          obtain rfl := Option.some.inj h
          exact zv_iret (zs_at rfl) rfl ⟨Nat.le_refl _, Nat.le_refl _⟩ zw_here
      · have h := mo_t h c32
        refine zv_run 1 (pc' := 36) (lo' := [some (.ref 0), some (.int x1), some (.int x2)]) (st' := [.int (-1)]) (I' := J) (L' := L) (R' := zw_RM) rfl ?_
        obtain rfl := Option.some.inj h
        exact zv_iret (zs_at rfl) rfl ⟨Nat.le_refl _, Nat.le_refl _⟩ zw_here
def mf_hasBath_62_b (n : Nat) (x1 : Int32) (x3 : Int32) (x4 : Int32) (x5 : Int32) (J : zx_I) (K : Option (Int32 × zx_I)) (Z : Int32 → Option (Int32 × zx_I)) (x6 : Int32) : Option (Int32 × zx_I) := (if x5 < x6 then K else ((mf_unitsOf n (0 : Int32) x6 J).bind fun p73 => (mo_g (mo_nz x3) ((mf_of x1 (1 : Int32) J).bind fun p106 => (if (((p73 + (100 * x4)) + ((J 3 2) * ((x3 - x4) - x6))) / x3) < p106 then Z (x6 + 1) else ((mf_of x1 (2 : Int32) (zx_uI (zx_uI J 0 31 x6) 0 32 (((p73 + (100 * x4)) + ((J 3 2) * ((x3 - x4) - x6))) / x3))).bind fun p129 => (if p129 < (((p73 + (100 * x4)) + ((J 3 2) * ((x3 - x4) - x6))) / x3) then some ((0 : Int32), (zx_uI (zx_uI J 0 31 x6) 0 32 (((p73 + (100 * x4)) + ((J 3 2) * ((x3 - x4) - x6))) / x3))) else some ((1 : Int32), (zx_uI (zx_uI J 0 31 x6) 0 32 (((p73 + (100 * x4)) + ((J 3 2) * ((x3 - x4) - x6))) / x3))))))))))
def mf_hasBath_62 (n : Nat) (x1 : Int32) (x3 : Int32) (x4 : Int32) (x5 : Int32) (J : zx_I) (K : Option (Int32 × zx_I)) : Nat → Int32 → Option (Int32 × zx_I)
  | 0 => fun _ => none
  | k + 1 => mf_hasBath_62_b n x1 x3 x4 x5 J K (mf_hasBath_62 n x1 x3 x4 x5 J K k)
def mf_hasBath (n : Nat) (x1 : Int32) (x2 : Int32) (J : zx_I) : Option (Int32 × zx_I) := ((mf_of x1 (0 : Int32) J).bind fun p3 => (((if x2 = 0 then some ((0 : Int32)) else (if p3 < (J 3 13) then some ((0 : Int32)) else some ((J 3 13)))) : Option (Int32)).bind fun v8 => (((if (mf_holds J) ≤ (p3 - v8) then some ((mf_holds J)) else some ((p3 - v8))) : Option (Int32)).bind fun v43 => (mf_hasBath_62 n x1 p3 v8 v43 J (some ((0 : Int32), J)) n (0 : Int32)))))
theorem ml_hasBath_62 {n d : Nat} {x1 : Int32} {x3 : Int32} {x4 : Int32} {x5 : Int32} {J : zx_I} {L : zx_L} {K : Option (Int32 × zx_I)} (hK : ∀ (p : Int32 × zx_I), K = some p → zx_V mm_X10_hasBath (d + 2) z0 (zw_rz p.1 zw_SM p.2 L zw_RM) zw_SM 147 [some (.ref 0), some (.int x1), none, some (.int x3), some (.int x4), some (.int x5), none, none] [] J L zw_RM) : ∀ (k : Nat) (x6 : Int32) (p : Int32 × zx_I), mf_hasBath_62 n x1 x3 x4 x5 J K k x6 = some p → zx_V mm_X10_hasBath (d + 2) z0 (zw_rz p.1 zw_SM p.2 L zw_RM) zw_SM 62 [some (.ref 0), some (.int x1), none, some (.int x3), some (.int x4), some (.int x5), some (.int x6), none] [] J L zw_RM := by
  intro k
  induction k with
  | zero =>
    intro x6 p h
    exact absurd (show (none : Option (Int32 × zx_I)) = some p from h) (by intro q; cases q)
  | succ k ih =>
    intro x6 p h
    have h : mf_hasBath_62_b n x1 x3 x4 x5 J K (mf_hasBath_62 n x1 x3 x4 x5 J K k) x6 = some p := h
    unfold mf_hasBath_62_b at h
    refine zv_run 2 (pc' := 66) (lo' := [some (.ref 0), some (.int x1), none, some (.int x3), some (.int x4), some (.int x5), some (.int x6), none]) (st' := [.int x5, .int x6]) (I' := J) (L' := L) (R' := zw_RM) rfl ?_
    refine zv_icmp_gt (tgt := 147) (zs_at rfl) (by decide) (fun c66 => ?_) (fun c66 => ?_)
    · have h := mo_t h c66
      refine zv_fg (lo' := [some (.ref 0), some (.int x1), none, some (.int x3), some (.int x4), some (.int x5), none, none]) (And.intro rfl (And.intro rfl (And.intro trivial (And.intro rfl (And.intro rfl (And.intro rfl (And.intro trivial (And.intro trivial rfl)))))))) ?_
      exact hK  p h
    · have h := mo_f h c66
      refine zv_run 3 (pc' := 73) (lo' := [some (.ref 0), some (.int x1), none, some (.int x3), some (.int x4), some (.int x5), some (.int x6), none]) (st' := [.int x6, .int 0, .ref 0]) (I' := J) (L' := L) (R' := zw_RM) rfl ?_
      obtain ⟨p73, e73, h⟩ := mo_b h
      refine zv_cV (M' := mm_X10_unitsOf) (ci := 10) (a := 0) (av := [.int 0, .int x6]) (st := []) (r := some (.int p73)) (I' := J) (L' := L) (R' := zw_RM) rfl zc_10_146 gd_X10_unitsOf rfl rfl rfl (Nat.le_of_ble_eq_true rfl) (mt_unitsOf (d := _) e73) ⟨Nat.le_refl _, Nat.le_refl _⟩ ?_
      refine zv_run 0 (pc' := 76) (lo' := [some (.ref 0), some (.int x1), none, some (.int x3), some (.int x4), some (.int x5), some (.int x6), none]) (st' := [.int p73]) (I' := J) (L' := L) (R' := zw_RM) rfl ?_
      refine zv_run 16 (pc' := 98) (lo' := [some (.ref 0), some (.int x1), none, some (.int x3), some (.int x4), some (.int x5), some (.int x6), none]) (st' := [.int x3, .int ((p73 + (100 * x4)) + ((J 3 2) * ((x3 - x4) - x6)))]) (I' := J) (L' := L) (R' := zw_RM) rfl ?_
      obtain ⟨g98, h⟩ := mo_gs h
      refine zv_idiv (zs_at rfl) (mo_nz_ne g98) ?_
      refine zv_run 5 (pc' := 106) (lo' := [some (.ref 0), some (.int x1), none, some (.int x3), some (.int x4), some (.int x5), some (.int x6), some (.int (((p73 + (100 * x4)) + ((J 3 2) * ((x3 - x4) - x6))) / x3))]) (st' := [.int 1, .int x1, .ref 0, .int (((p73 + (100 * x4)) + ((J 3 2) * ((x3 - x4) - x6))) / x3)]) (I' := J) (L' := L) (R' := zw_RM) rfl ?_
      obtain ⟨p106, e106, h⟩ := mo_b h
      refine zv_cV (M' := mm_X10_of) (ci := 10) (a := 0) (av := [.int x1, .int 1]) (st := [.int (((p73 + (100 * x4)) + ((J 3 2) * ((x3 - x4) - x6))) / x3)]) (r := some (.int p106)) (I' := J) (L' := L) (R' := zw_RM) rfl zc_10_139 gd_X10_of rfl rfl rfl (Nat.le_of_ble_eq_true rfl) (mt_of (d := _) e106) ⟨Nat.le_refl _, Nat.le_refl _⟩ ?_
      refine zv_run 0 (pc' := 109) (lo' := [some (.ref 0), some (.int x1), none, some (.int x3), some (.int x4), some (.int x5), some (.int x6), some (.int (((p73 + (100 * x4)) + ((J 3 2) * ((x3 - x4) - x6))) / x3))]) (st' := [.int p106, .int (((p73 + (100 * x4)) + ((J 3 2) * ((x3 - x4) - x6))) / x3)]) (I' := J) (L' := L) (R' := zw_RM) rfl ?_
      refine zv_icmp_lt (tgt := 141) (zs_at rfl) (by decide) (fun c109 => ?_) (fun c109 => ?_)
      · have h := mo_t h c109
        refine zv_run 2 (pc' := 62) (lo' := [some (.ref 0), some (.int x1), none, some (.int x3), some (.int x4), some (.int x5), some (.int (x6 + 1)), some (.int (((p73 + (100 * x4)) + ((J 3 2) * ((x3 - x4) - x6))) / x3))]) (st' := []) (I' := J) (L' := L) (R' := zw_RM) rfl ?_
        refine zv_fg (lo' := [some (.ref 0), some (.int x1), none, some (.int x3), some (.int x4), some (.int x5), some (.int (x6 + 1)), none]) (And.intro rfl (And.intro rfl (And.intro trivial (And.intro rfl (And.intro rfl (And.intro rfl (And.intro rfl (And.intro trivial rfl)))))))) ?_
        exact ih _ p h
      · have h := mo_f h c109
        refine zv_run 10 (pc' := 129) (lo' := [some (.ref 0), some (.int x1), none, some (.int x3), some (.int x4), some (.int x5), some (.int x6), some (.int (((p73 + (100 * x4)) + ((J 3 2) * ((x3 - x4) - x6))) / x3))]) (st' := [.int 2, .int x1, .ref 0, .int (((p73 + (100 * x4)) + ((J 3 2) * ((x3 - x4) - x6))) / x3)]) (I' := (zx_uI (zx_uI J 0 31 x6) 0 32 (((p73 + (100 * x4)) + ((J 3 2) * ((x3 - x4) - x6))) / x3))) (L' := L) (R' := zw_RM) rfl ?_
        obtain ⟨p129, e129, h⟩ := mo_b h
        refine zv_cV (M' := mm_X10_of) (ci := 10) (a := 0) (av := [.int x1, .int 2]) (st := [.int (((p73 + (100 * x4)) + ((J 3 2) * ((x3 - x4) - x6))) / x3)]) (r := some (.int p129)) (I' := (zx_uI (zx_uI J 0 31 x6) 0 32 (((p73 + (100 * x4)) + ((J 3 2) * ((x3 - x4) - x6))) / x3))) (L' := L) (R' := zw_RM) rfl zc_10_139 gd_X10_of rfl rfl rfl (Nat.le_of_ble_eq_true rfl) (mt_of (d := _) e129) ⟨Nat.le_refl _, Nat.le_refl _⟩ ?_
        refine zv_run 0 (pc' := 132) (lo' := [some (.ref 0), some (.int x1), none, some (.int x3), some (.int x4), some (.int x5), some (.int x6), some (.int (((p73 + (100 * x4)) + ((J 3 2) * ((x3 - x4) - x6))) / x3))]) (st' := [.int p129, .int (((p73 + (100 * x4)) + ((J 3 2) * ((x3 - x4) - x6))) / x3)]) (I' := (zx_uI (zx_uI J 0 31 x6) 0 32 (((p73 + (100 * x4)) + ((J 3 2) * ((x3 - x4) - x6))) / x3))) (L' := L) (R' := zw_RM) rfl ?_
        refine zv_icmp_gt (tgt := 139) (zs_at rfl) (by decide) (fun c132 => ?_) (fun c132 => ?_)
        · have h := mo_t h c132
          refine zv_run 1 (pc' := 140) (lo' := [some (.ref 0), some (.int x1), none, some (.int x3), some (.int x4), some (.int x5), some (.int x6), some (.int (((p73 + (100 * x4)) + ((J 3 2) * ((x3 - x4) - x6))) / x3))]) (st' := [.int 0]) (I' := (zx_uI (zx_uI J 0 31 x6) 0 32 (((p73 + (100 * x4)) + ((J 3 2) * ((x3 - x4) - x6))) / x3))) (L' := L) (R' := zw_RM) rfl ?_
          obtain rfl := Option.some.inj h
          exact zv_zret (zs_at rfl) rfl (Or.inl rfl) ⟨Nat.le_refl _, Nat.le_refl _⟩ ⟨zw_here, (Or.inl rfl)⟩
        · have h := mo_f h c132
          refine zv_run 2 (pc' := 140) (lo' := [some (.ref 0), some (.int x1), none, some (.int x3), some (.int x4), some (.int x5), some (.int x6), some (.int (((p73 + (100 * x4)) + ((J 3 2) * ((x3 - x4) - x6))) / x3))]) (st' := [.int 1]) (I' := (zx_uI (zx_uI J 0 31 x6) 0 32 (((p73 + (100 * x4)) + ((J 3 2) * ((x3 - x4) - x6))) / x3))) (L' := L) (R' := zw_RM) rfl ?_
          obtain rfl := Option.some.inj h
          exact zv_zret (zs_at rfl) rfl (Or.inr rfl) ⟨Nat.le_refl _, Nat.le_refl _⟩ ⟨zw_here, (Or.inr rfl)⟩
theorem mt_hasBath {d n : Nat} {x1 : Int32} {x2 : Int32} {J : zx_I} {L : zx_L} {p : Int32 × zx_I} (h : mf_hasBath n x1 x2 J = some p) : zx_M0 mm_X10_hasBath (d + 2) 0 0 [.ref 0, .int x1, .int x2] zw_SM J L zw_RM (zw_rz p.1 zw_SM p.2 L zw_RM) := by
  unfold mf_hasBath at h
  refine zv_entry gd_X10_hasBath (Nat.le_of_ble_eq_true rfl) ?_
  refine zv_run 3 (pc' := 3) (lo' := [some (.ref 0), some (.int x1), some (.int x2), none, none, none, none, none]) (st' := [.int 0, .int x1, .ref 0]) (I' := J) (L' := L) (R' := zw_RM) rfl ?_
  obtain ⟨p3, e3, h⟩ := mo_b h
  refine zv_cV (M' := mm_X10_of) (ci := 10) (a := 0) (av := [.int x1, .int 0]) (st := []) (r := some (.int p3)) (I' := J) (L' := L) (R' := zw_RM) rfl zc_10_139 gd_X10_of rfl rfl rfl (Nat.le_of_ble_eq_true rfl) (mt_of (d := _) e3) ⟨Nat.le_refl _, Nat.le_refl _⟩ ?_
  refine zv_run 0 (pc' := 6) (lo' := [some (.ref 0), some (.int x1), some (.int x2), none, none, none, none, none]) (st' := [.int p3]) (I' := J) (L' := L) (R' := zw_RM) rfl ?_
  refine zv_run 2 (pc' := 8) (lo' := [some (.ref 0), some (.int x1), some (.int x2), some (.int p3), none, none, none, none]) (st' := [.int x2]) (I' := J) (L' := L) (R' := zw_RM) rfl ?_
  obtain ⟨v8, e8, h⟩ := mo_b h
  have k8 : zx_V mm_X10_hasBath (d + 2) z0 (zw_rz p.1 zw_SM p.2 L zw_RM) zw_SM 33 [some (.ref 0), some (.int x1), none, some (.int p3), none, none, none, none] [.int v8] J L zw_RM := by
    clear e8
    refine zv_run 5 (pc' := 40) (lo' := [some (.ref 0), some (.int x1), none, some (.int p3), some (.int v8), none, none, none]) (st' := [.ref 0, .int (p3 - v8)]) (I' := J) (L' := L) (R' := zw_RM) rfl ?_
    refine zv_cV (M' := mm_X10_holds) (ci := 10) (a := 0) (av := []) (st := [.int (p3 - v8)]) (r := some (.int (mf_holds J))) (I' := J) (L' := L) (R' := zw_RM) rfl zc_10_143 gd_X10_holds rfl rfl rfl (Nat.le_of_ble_eq_true rfl) (mt_holds (d := _) rfl) ⟨Nat.le_refl _, Nat.le_refl _⟩ ?_
    refine zv_run 0 (pc' := 43) (lo' := [some (.ref 0), some (.int x1), none, some (.int p3), some (.int v8), none, none, none]) (st' := [.int (mf_holds J), .int (p3 - v8)]) (I' := J) (L' := L) (R' := zw_RM) rfl ?_
    obtain ⟨v43, e43, h⟩ := mo_b h
    have k43 : zx_V mm_X10_hasBath (d + 2) z0 (zw_rz p.1 zw_SM p.2 L zw_RM) zw_SM 57 [some (.ref 0), some (.int x1), none, some (.int p3), some (.int v8), none, none, none] [.int v43] J L zw_RM := by
      clear e43
      refine zv_run 3 (pc' := 62) (lo' := [some (.ref 0), some (.int x1), none, some (.int p3), some (.int v8), some (.int v43), some (.int 0), none]) (st' := []) (I' := J) (L' := L) (R' := zw_RM) rfl ?_
      refine ml_hasBath_62 (fun  p h => ?_) n _ p h
      refine zv_run 1 (pc' := 148) (lo' := [some (.ref 0), some (.int x1), none, some (.int p3), some (.int v8), some (.int v43), none, none]) (st' := [.int 0]) (I' := J) (L' := L) (R' := zw_RM) rfl ?_
      obtain rfl := Option.some.inj h
      exact zv_zret (zs_at rfl) rfl (Or.inl rfl) ⟨Nat.le_refl _, Nat.le_refl _⟩ ⟨zw_here, (Or.inl rfl)⟩
    have h := e43
    refine zv_icmp_ge (tgt := 53) (zs_at rfl) (by decide) (fun c43 => ?_) (fun c43 => ?_)
    · have h := mo_t h c43
      refine zv_run 1 (pc' := 54) (lo' := [some (.ref 0), some (.int x1), none, some (.int p3), some (.int v8), none, none, none]) (st' := [.ref 0]) (I' := J) (L' := L) (R' := zw_RM) rfl ?_
      refine zv_cV (M' := mm_X10_holds) (ci := 10) (a := 0) (av := []) (st := []) (r := some (.int (mf_holds J))) (I' := J) (L' := L) (R' := zw_RM) rfl zc_10_143 gd_X10_holds rfl rfl rfl (Nat.le_of_ble_eq_true rfl) (mt_holds (d := _) rfl) ⟨Nat.le_refl _, Nat.le_refl _⟩ ?_
      refine zv_run 0 (pc' := 57) (lo' := [some (.ref 0), some (.int x1), none, some (.int p3), some (.int v8), none, none, none]) (st' := [.int (mf_holds J)]) (I' := J) (L' := L) (R' := zw_RM) rfl ?_
      obtain rfl := Option.some.inj h
      exact k43
    · have h := mo_f h c43
      refine zv_run 4 (pc' := 57) (lo' := [some (.ref 0), some (.int x1), none, some (.int p3), some (.int v8), none, none, none]) (st' := [.int (p3 - v8)]) (I' := J) (L' := L) (R' := zw_RM) rfl ?_
      obtain rfl := Option.some.inj h
      exact k43
  have h := e8
  refine zv_if_eq (tgt := 32) (zs_at rfl) (by decide) (fun c8 => ?_) (fun c8 => ?_)
  · have h := mo_t h c8
    refine zv_run 1 (pc' := 33) (lo' := [some (.ref 0), some (.int x1), some (.int x2), some (.int p3), none, none, none, none]) (st' := [.int 0]) (I' := J) (L' := L) (R' := zw_RM) rfl ?_
    obtain rfl := Option.some.inj h
    refine zv_fg (lo' := [some (.ref 0), some (.int x1), none, some (.int p3), none, none, none, none]) (And.intro rfl (And.intro rfl (And.intro trivial (And.intro rfl (And.intro trivial (And.intro trivial (And.intro trivial (And.intro trivial rfl)))))))) ?_
    exact k8
  · have h := mo_f h c8
    refine zv_run 5 (pc' := 19) (lo' := [some (.ref 0), some (.int x1), some (.int x2), some (.int p3), none, none, none, none]) (st' := [.int p3, .int (J 3 13)]) (I' := J) (L' := L) (R' := zw_RM) rfl ?_
    refine zv_icmp_gt (tgt := 32) (zs_at rfl) (by decide) (fun c19 => ?_) (fun c19 => ?_)
    · have h := mo_t h c19
      refine zv_run 1 (pc' := 33) (lo' := [some (.ref 0), some (.int x1), some (.int x2), some (.int p3), none, none, none, none]) (st' := [.int 0]) (I' := J) (L' := L) (R' := zw_RM) rfl ?_
      obtain rfl := Option.some.inj h
      refine zv_fg (lo' := [some (.ref 0), some (.int x1), none, some (.int p3), none, none, none, none]) (And.intro rfl (And.intro rfl (And.intro trivial (And.intro rfl (And.intro trivial (And.intro trivial (And.intro trivial (And.intro trivial rfl)))))))) ?_
      exact k8
    · have h := mo_f h c19
      refine zv_run 5 (pc' := 33) (lo' := [some (.ref 0), some (.int x1), some (.int x2), some (.int p3), none, none, none, none]) (st' := [.int (J 3 13)]) (I' := J) (L' := L) (R' := zw_RM) rfl ?_
      obtain rfl := Option.some.inj h
      refine zv_fg (lo' := [some (.ref 0), some (.int x1), none, some (.int p3), none, none, none, none]) (And.intro rfl (And.intro rfl (And.intro trivial (And.intro rfl (And.intro trivial (And.intro trivial (And.intro trivial (And.intro trivial rfl)))))))) ?_
      exact k8
def mf_bath (n : Nat) (x1 : Int32) (x2 : Int32) (x3 : Int32) (J : zx_I) : Option (Int32 × zx_I) := (if (mf_isBatherOf x1 J) = 0 then some ((-1 : Int32), J) else (if (mf_in x3 (0 : Int32) (1 : Int32)) = 0 then some ((-1 : Int32), J) else ((mf_fill n J).bind fun p20 => ((mf_hasBath n x1 x2 p20).bind fun p26 => (if p26.1 = 0 then some ((-2 : Int32), p26.2) else (if x3 = 0 then some ((p26.2 0 31), p26.2) else some ((p26.2 0 32), p26.2)))))))
theorem mt_bath {d n : Nat} {x1 : Int32} {x2 : Int32} {x3 : Int32} {J : zx_I} {L : zx_L} {p : Int32 × zx_I} (h : mf_bath n x1 x2 x3 J = some p) : zx_M0 mm_X10_bath (d + 3) 0 0 [.ref 0, .int x1, .int x2, .int x3] zw_SM J L zw_RM (zw_ret (some (.int p.1)) zw_SM p.2 L zw_RM) := by
  unfold mf_bath at h
  refine zv_entry gd_X10_bath (Nat.le_of_ble_eq_true rfl) ?_
  refine zv_run 2 (pc' := 2) (lo' := [some (.ref 0), some (.int x1), some (.int x2), some (.int x3)]) (st' := [.int x1, .ref 0]) (I' := J) (L' := L) (R' := zw_RM) rfl ?_
  refine zv_cVz (M' := mm_X10_isBatherOf) (ci := 10) (a := 0) (av := [.int x1]) (st := []) (v := (mf_isBatherOf x1 J)) (I' := J) (L' := L) (R' := zw_RM) rfl zc_10_136 gd_X10_isBatherOf rfl rfl rfl (Nat.le_of_ble_eq_true rfl) (mt_isBatherOf (d := _) rfl) ⟨Nat.le_refl _, Nat.le_refl _⟩ ?_
  intro b2
  refine zv_run 0 (pc' := 5) (lo' := [some (.ref 0), some (.int x1), some (.int x2), some (.int x3)]) (st' := [.int (mf_isBatherOf x1 J)]) (I' := J) (L' := L) (R' := zw_RM) rfl ?_
  refine zv_if_eq (tgt := 17) (zs_at rfl) (by decide) (fun c5 => ?_) (fun c5 => ?_)
  · have h := mo_t h c5
    refine zv_run 1 (pc' := 18) (lo' := [some (.ref 0), some (.int x1), some (.int x2), some (.int x3)]) (st' := [.int (-1)]) (I' := J) (L' := L) (R' := zw_RM) rfl ?_
    obtain rfl := Option.some.inj h
    exact zv_iret (zs_at rfl) rfl ⟨Nat.le_refl _, Nat.le_refl _⟩ zw_here
  · have h := mo_f h c5
    refine zv_run 3 (pc' := 11) (lo' := [some (.ref 0), some (.int x1), some (.int x2), some (.int x3)]) (st' := [.int 1, .int 0, .int x3]) (I' := J) (L' := L) (R' := zw_RM) rfl ?_
    refine zv_cSz (M' := mm_X10_in) (av := [.int x3, .int 0, .int 1]) (st := []) (v := (mf_in x3 (0 : Int32) (1 : Int32))) (I' := J) (L' := L) (R' := zw_RM) rfl zc_10_86 gd_X10_in rfl (Nat.le_of_ble_eq_true rfl) (mt_in (d := _) rfl) ⟨Nat.le_refl _, Nat.le_refl _⟩ ?_
    intro b11
    refine zv_run 0 (pc' := 14) (lo' := [some (.ref 0), some (.int x1), some (.int x2), some (.int x3)]) (st' := [.int (mf_in x3 (0 : Int32) (1 : Int32))]) (I' := J) (L' := L) (R' := zw_RM) rfl ?_
    refine zv_if_ne (tgt := 19) (zs_at rfl) (by decide) (fun c14 => ?_) (fun c14 => ?_)
    · have h := mo_f h c14
      refine zv_run 1 (pc' := 20) (lo' := [some (.ref 0), some (.int x1), some (.int x2), some (.int x3)]) (st' := [.ref 0]) (I' := J) (L' := L) (R' := zw_RM) rfl ?_
      obtain ⟨p20, e20, h⟩ := mo_b h
      refine zv_cV (M' := mm_X10_fill) (ci := 10) (a := 0) (av := []) (st := []) (r := none) (I' := p20) (L' := L) (R' := zw_RM) rfl zc_10_149 gd_X10_fill rfl rfl rfl (Nat.le_of_ble_eq_true rfl) (mt_fill (d := _) e20) ⟨Nat.le_refl _, Nat.le_refl _⟩ ?_
      refine zv_run 0 (pc' := 23) (lo' := [some (.ref 0), some (.int x1), some (.int x2), some (.int x3)]) (st' := []) (I' := p20) (L' := L) (R' := zw_RM) rfl ?_
      refine zv_run 3 (pc' := 26) (lo' := [some (.ref 0), some (.int x1), some (.int x2), some (.int x3)]) (st' := [.int x2, .int x1, .ref 0]) (I' := p20) (L' := L) (R' := zw_RM) rfl ?_
      obtain ⟨p26, e26, h⟩ := mo_b h
      refine zv_cVz (M' := mm_X10_hasBath) (ci := 10) (a := 0) (av := [.int x1, .int x2]) (st := []) (v := p26.1) (I' := p26.2) (L' := L) (R' := zw_RM) rfl zc_10_162 gd_X10_hasBath rfl rfl rfl (Nat.le_of_ble_eq_true rfl) (mt_hasBath (d := _) e26) ⟨Nat.le_refl _, Nat.le_refl _⟩ ?_
      intro b26
      refine zv_run 0 (pc' := 29) (lo' := [some (.ref 0), some (.int x1), some (.int x2), some (.int x3)]) (st' := [.int p26.1]) (I' := p26.2) (L' := L) (R' := zw_RM) rfl ?_
      refine zv_if_ne (tgt := 37) (zs_at rfl) (by decide) (fun c29 => ?_) (fun c29 => ?_)
      · have h := mo_f h c29
        refine zv_run 1 (pc' := 38) (lo' := [some (.ref 0), some (.int x1), some (.int x2), some (.int x3)]) (st' := [.int x3]) (I' := p26.2) (L' := L) (R' := zw_RM) rfl ?_
        refine zv_if_ne (tgt := 48) (zs_at rfl) (by decide) (fun c38 => ?_) (fun c38 => ?_)
        · have h := mo_f h c38
          refine zv_run 2 (pc' := 52) (lo' := [some (.ref 0), some (.int x1), some (.int x2), some (.int x3)]) (st' := [.int (p26.2 0 32)]) (I' := p26.2) (L' := L) (R' := zw_RM) rfl ?_
          obtain rfl := Option.some.inj h
          exact zv_iret (zs_at rfl) rfl ⟨Nat.le_refl _, Nat.le_refl _⟩ zw_here
        · have h := mo_t h c38
          refine zv_run 3 (pc' := 52) (lo' := [some (.ref 0), some (.int x1), some (.int x2), some (.int x3)]) (st' := [.int (p26.2 0 31)]) (I' := p26.2) (L' := L) (R' := zw_RM) rfl ?_
          obtain rfl := Option.some.inj h
          exact zv_iret (zs_at rfl) rfl ⟨Nat.le_refl _, Nat.le_refl _⟩ zw_here
      · have h := mo_t h c29
        refine zv_run 2 (pc' := 52) (lo' := [some (.ref 0), some (.int x1), some (.int x2), some (.int x3)]) (st' := [.int (-2)]) (I' := p26.2) (L' := L) (R' := zw_RM) rfl ?_
        obtain rfl := Option.some.inj h
        exact zv_iret (zs_at rfl) rfl ⟨Nat.le_refl _, Nat.le_refl _⟩ zw_here
    · have h := mo_t h c14
      refine zv_run 1 (pc' := 18) (lo' := [some (.ref 0), some (.int x1), some (.int x2), some (.int x3)]) (st' := [.int (-1)]) (I' := J) (L' := L) (R' := zw_RM) rfl ?_
      obtain rfl := Option.some.inj h
      exact zv_iret (zs_at rfl) rfl ⟨Nat.le_refl _, Nat.le_refl _⟩ zw_here
def mf_row_28_b (n : Nat) (x1 : Int32) (x2 : Int32) (x3 : Int32) (K : zx_I → Option (Int32 × zx_I)) (Z : Int32 → zx_I → Option (Int32 × zx_I)) (x4 : Int32) (J : zx_I) : Option (Int32 × zx_I) := (if (mf_many J) ≤ x4 then K J else (mo_g (mo_in x4 6) (((if (J 4 x4.toNatClampNeg) = x2 then some (x3) else (mo_g (mo_in x4 6) (some ((J 4 x4.toNatClampNeg))))) : Option (Int32)).bind fun v51 => (mo_g (mo_in x4 6) (Z (x4 + 1) (zx_uI J 4 x4.toNatClampNeg v51))))))
def mf_row_28 (n : Nat) (x1 : Int32) (x2 : Int32) (x3 : Int32) (K : zx_I → Option (Int32 × zx_I)) : Nat → Int32 → zx_I → Option (Int32 × zx_I)
  | 0 => fun _ _ => none
  | k + 1 => mf_row_28_b n x1 x2 x3 K (mf_row_28 n x1 x2 x3 K k)
def mf_row (n : Nat) (x1 : Int32) (x2 : Int32) (J : zx_I) : Option (Int32 × zx_I) := (if (mf_isBatherOf x1 J) = 0 then some ((-1 : Int32), J) else (if (mf_isBatherOf x2 J) = 0 then some ((-1 : Int32), J) else (mo_g (mo_in x1 6) (mf_row_28 n x1 x2 (J 4 x1.toNatClampNeg) (fun J_28 => (mo_g (mo_in x1 6) (some ((J 4 x1.toNatClampNeg), (zx_uI J_28 4 x1.toNatClampNeg x2))))) n (0 : Int32) J))))
theorem ml_row_28 {n d : Nat} {x1 : Int32} {x2 : Int32} {x3 : Int32} {L : zx_L} {K : zx_I → Option (Int32 × zx_I)} (hK : ∀ (J : zx_I) (p : Int32 × zx_I), K J = some p → zx_V mm_X10_row (d + 2) z0 (zw_ret (some (.int p.1)) zw_SM p.2 L zw_RM) zw_SM 72 [some (.ref 0), some (.int x1), some (.int x2), some (.int x3), none] [] J L zw_RM) : ∀ (k : Nat) (x4 : Int32) (J : zx_I) (p : Int32 × zx_I), mf_row_28 n x1 x2 x3 K k x4 J = some p → zx_V mm_X10_row (d + 2) z0 (zw_ret (some (.int p.1)) zw_SM p.2 L zw_RM) zw_SM 28 [some (.ref 0), some (.int x1), some (.int x2), some (.int x3), some (.int x4)] [] J L zw_RM := by
  intro k
  induction k with
  | zero =>
    intro x4 J p h
    exact absurd (show (none : Option (Int32 × zx_I)) = some p from h) (by intro q; cases q)
  | succ k ih =>
    intro x4 J p h
    have h : mf_row_28_b n x1 x2 x3 K (mf_row_28 n x1 x2 x3 K k) x4 J = some p := h
    unfold mf_row_28_b at h
    refine zv_run 2 (pc' := 31) (lo' := [some (.ref 0), some (.int x1), some (.int x2), some (.int x3), some (.int x4)]) (st' := [.ref 0, .int x4]) (I' := J) (L' := L) (R' := zw_RM) rfl ?_
    refine zv_cV (M' := mm_X10_many) (ci := 10) (a := 0) (av := []) (st := [.int x4]) (r := some (.int (mf_many J))) (I' := J) (L' := L) (R' := zw_RM) rfl zc_10_133 gd_X10_many rfl rfl rfl (Nat.le_of_ble_eq_true rfl) (mt_many (d := _) rfl) ⟨Nat.le_refl _, Nat.le_refl _⟩ ?_
    refine zv_run 0 (pc' := 34) (lo' := [some (.ref 0), some (.int x1), some (.int x2), some (.int x3), some (.int x4)]) (st' := [.int (mf_many J), .int x4]) (I' := J) (L' := L) (R' := zw_RM) rfl ?_
    refine zv_icmp_ge (tgt := 72) (zs_at rfl) (by decide) (fun c34 => ?_) (fun c34 => ?_)
    · have h := mo_t h c34
      refine zv_fg (lo' := [some (.ref 0), some (.int x1), some (.int x2), some (.int x3), none]) (And.intro rfl (And.intro rfl (And.intro rfl (And.intro rfl (And.intro trivial rfl))))) ?_
      exact hK _ p h
    · have h := mo_f h c34
      refine zv_run 6 (pc' := 49) (lo' := [some (.ref 0), some (.int x1), some (.int x2), some (.int x3), some (.int x4)]) (st' := [.int x4, .ref 4, .int x4, .ref 4]) (I' := J) (L' := L) (R' := zw_RM) rfl ?_
      obtain ⟨g49, h⟩ := mo_gs h
      refine zv_iald (zs_at rfl) rfl (mo_in_vp g49) ?_
      refine zv_run 0 (pc' := 50) (lo' := [some (.ref 0), some (.int x1), some (.int x2), some (.int x3), some (.int x4)]) (st' := [.int (J 4 x4.toNatClampNeg), .int x4, .ref 4]) (I' := J) (L' := L) (R' := zw_RM) rfl ?_
      refine zv_run 1 (pc' := 51) (lo' := [some (.ref 0), some (.int x1), some (.int x2), some (.int x3), some (.int x4)]) (st' := [.int x2, .int (J 4 x4.toNatClampNeg), .int x4, .ref 4]) (I' := J) (L' := L) (R' := zw_RM) rfl ?_
      obtain ⟨v51, e51, h⟩ := mo_b h
      have k51 : zx_V mm_X10_row (d + 2) z0 (zw_ret (some (.int p.1)) zw_SM p.2 L zw_RM) zw_SM 65 [some (.ref 0), some (.int x1), some (.int x2), some (.int x3), some (.int x4)] [.int v51, .int x4, .ref 4] J L zw_RM := by
        clear e51
        obtain ⟨g65, h⟩ := mo_gs h
        refine zv_iast (zs_at rfl) rfl (mo_in_vp g65) ?_
        refine zv_run 2 (pc' := 28) (lo' := [some (.ref 0), some (.int x1), some (.int x2), some (.int x3), some (.int (x4 + 1))]) (st' := []) (I' := (zx_uI J 4 x4.toNatClampNeg v51)) (L' := L) (R' := zw_RM) rfl ?_
        exact ih _ _ p h
      have h := e51
      refine zv_icmp_ne (tgt := 58) (zs_at rfl) (by decide) (fun c51 => ?_) (fun c51 => ?_)
      · have h := mo_f h c51
        refine zv_run 3 (pc' := 64) (lo' := [some (.ref 0), some (.int x1), some (.int x2), some (.int x3), some (.int x4)]) (st' := [.int x4, .ref 4, .int x4, .ref 4]) (I' := J) (L' := L) (R' := zw_RM) rfl ?_
        obtain ⟨g64, h⟩ := mo_gs h
        refine zv_iald (zs_at rfl) rfl (mo_in_vp g64) ?_
        refine zv_run 0 (pc' := 65) (lo' := [some (.ref 0), some (.int x1), some (.int x2), some (.int x3), some (.int x4)]) (st' := [.int (J 4 x4.toNatClampNeg), .int x4, .ref 4]) (I' := J) (L' := L) (R' := zw_RM) rfl ?_
        obtain rfl := Option.some.inj h
        exact k51
      · have h := mo_t h c51
        refine zv_run 2 (pc' := 65) (lo' := [some (.ref 0), some (.int x1), some (.int x2), some (.int x3), some (.int x4)]) (st' := [.int x3, .int x4, .ref 4]) (I' := J) (L' := L) (R' := zw_RM) rfl ?_
        obtain rfl := Option.some.inj h
        exact k51
theorem mt_row {d n : Nat} {x1 : Int32} {x2 : Int32} {J : zx_I} {L : zx_L} {p : Int32 × zx_I} (h : mf_row n x1 x2 J = some p) : zx_M0 mm_X10_row (d + 2) 0 0 [.ref 0, .int x1, .int x2] zw_SM J L zw_RM (zw_ret (some (.int p.1)) zw_SM p.2 L zw_RM) := by
  unfold mf_row at h
  refine zv_entry gd_X10_row (Nat.le_of_ble_eq_true rfl) ?_
  refine zv_run 2 (pc' := 2) (lo' := [some (.ref 0), some (.int x1), some (.int x2), none, none]) (st' := [.int x1, .ref 0]) (I' := J) (L' := L) (R' := zw_RM) rfl ?_
  refine zv_cVz (M' := mm_X10_isBatherOf) (ci := 10) (a := 0) (av := [.int x1]) (st := []) (v := (mf_isBatherOf x1 J)) (I' := J) (L' := L) (R' := zw_RM) rfl zc_10_136 gd_X10_isBatherOf rfl rfl rfl (Nat.le_of_ble_eq_true rfl) (mt_isBatherOf (d := _) rfl) ⟨Nat.le_refl _, Nat.le_refl _⟩ ?_
  intro b2
  refine zv_run 0 (pc' := 5) (lo' := [some (.ref 0), some (.int x1), some (.int x2), none, none]) (st' := [.int (mf_isBatherOf x1 J)]) (I' := J) (L' := L) (R' := zw_RM) rfl ?_
  refine zv_if_eq (tgt := 16) (zs_at rfl) (by decide) (fun c5 => ?_) (fun c5 => ?_)
  · have h := mo_t h c5
    refine zv_run 1 (pc' := 17) (lo' := [some (.ref 0), some (.int x1), some (.int x2), none, none]) (st' := [.int (-1)]) (I' := J) (L' := L) (R' := zw_RM) rfl ?_
    obtain rfl := Option.some.inj h
    exact zv_iret (zs_at rfl) rfl ⟨Nat.le_refl _, Nat.le_refl _⟩ zw_here
  · have h := mo_f h c5
    refine zv_run 2 (pc' := 10) (lo' := [some (.ref 0), some (.int x1), some (.int x2), none, none]) (st' := [.int x2, .ref 0]) (I' := J) (L' := L) (R' := zw_RM) rfl ?_
    refine zv_cVz (M' := mm_X10_isBatherOf) (ci := 10) (a := 0) (av := [.int x2]) (st := []) (v := (mf_isBatherOf x2 J)) (I' := J) (L' := L) (R' := zw_RM) rfl zc_10_136 gd_X10_isBatherOf rfl rfl rfl (Nat.le_of_ble_eq_true rfl) (mt_isBatherOf (d := _) rfl) ⟨Nat.le_refl _, Nat.le_refl _⟩ ?_
    intro b10
    refine zv_run 0 (pc' := 13) (lo' := [some (.ref 0), some (.int x1), some (.int x2), none, none]) (st' := [.int (mf_isBatherOf x2 J)]) (I' := J) (L' := L) (R' := zw_RM) rfl ?_
    refine zv_if_ne (tgt := 18) (zs_at rfl) (by decide) (fun c13 => ?_) (fun c13 => ?_)
    · have h := mo_f h c13
      refine zv_run 3 (pc' := 23) (lo' := [some (.ref 0), some (.int x1), some (.int x2), none, none]) (st' := [.int x1, .ref 4]) (I' := J) (L' := L) (R' := zw_RM) rfl ?_
      obtain ⟨g23, h⟩ := mo_gs h
      refine zv_iald (zs_at rfl) rfl (mo_in_vp g23) ?_
      refine zv_run 0 (pc' := 24) (lo' := [some (.ref 0), some (.int x1), some (.int x2), none, none]) (st' := [.int (J 4 x1.toNatClampNeg)]) (I' := J) (L' := L) (R' := zw_RM) rfl ?_
      refine zv_run 3 (pc' := 28) (lo' := [some (.ref 0), some (.int x1), some (.int x2), some (.int (J 4 x1.toNatClampNeg)), some (.int 0)]) (st' := []) (I' := J) (L' := L) (R' := zw_RM) rfl ?_
      refine ml_row_28 (fun J_28 p h => ?_) n _ _ p h
      refine zv_run 4 (pc' := 78) (lo' := [some (.ref 0), some (.int x1), some (.int x2), some (.int (J 4 x1.toNatClampNeg)), none]) (st' := [.int x2, .int x1, .ref 4]) (I' := J_28) (L' := L) (R' := zw_RM) rfl ?_
      obtain ⟨g78, h⟩ := mo_gs h
      refine zv_iast (zs_at rfl) rfl (mo_in_vp g78) ?_
      refine zv_run 1 (pc' := 80) (lo' := [some (.ref 0), some (.int x1), some (.int x2), some (.int (J 4 x1.toNatClampNeg)), none]) (st' := [.int (J 4 x1.toNatClampNeg)]) (I' := (zx_uI J_28 4 x1.toNatClampNeg x2)) (L' := L) (R' := zw_RM) rfl ?_
      obtain rfl := Option.some.inj h
      exact zv_iret (zs_at rfl) rfl ⟨Nat.le_refl _, Nat.le_refl _⟩ zw_here
    · have h := mo_t h c13
      refine zv_run 1 (pc' := 17) (lo' := [some (.ref 0), some (.int x1), some (.int x2), none, none]) (st' := [.int (-1)]) (I' := J) (L' := L) (R' := zw_RM) rfl ?_
      obtain rfl := Option.some.inj h
      exact zv_iret (zs_at rfl) rfl ⟨Nat.le_refl _, Nat.le_refl _⟩ zw_here
def mf_hot (x1 : Int32) (J : zx_I) : Option (Int32 × zx_I) := (if (mf_in x1 (0 : Int32) (99 : Int32)) = 0 then some ((-1 : Int32), J) else some ((J 0 8), (zx_uI J 0 8 x1)))
theorem mt_hot {d : Nat} {x1 : Int32} {J : zx_I} {L : zx_L} {p : Int32 × zx_I} (h : mf_hot x1 J = some p) : zx_M0 mm_X10_hot (d + 1) 0 0 [.ref 0, .int x1] zw_SM J L zw_RM (zw_ret (some (.int p.1)) zw_SM p.2 L zw_RM) := by
  unfold mf_hot at h
  refine zv_entry gd_X10_hot (Nat.le_of_ble_eq_true rfl) ?_
  refine zv_run 3 (pc' := 4) (lo' := [some (.ref 0), some (.int x1), none]) (st' := [.int 99, .int 0, .int x1]) (I' := J) (L' := L) (R' := zw_RM) rfl ?_
  refine zv_cSz (M' := mm_X10_in) (av := [.int x1, .int 0, .int 99]) (st := []) (v := (mf_in x1 (0 : Int32) (99 : Int32))) (I' := J) (L' := L) (R' := zw_RM) rfl zc_10_86 gd_X10_in rfl (Nat.le_of_ble_eq_true rfl) (mt_in (d := _) rfl) ⟨Nat.le_refl _, Nat.le_refl _⟩ ?_
  intro b4
  refine zv_run 0 (pc' := 7) (lo' := [some (.ref 0), some (.int x1), none]) (st' := [.int (mf_in x1 (0 : Int32) (99 : Int32))]) (I' := J) (L' := L) (R' := zw_RM) rfl ?_
  refine zv_if_ne (tgt := 12) (zs_at rfl) (by decide) (fun c7 => ?_) (fun c7 => ?_)
  · have h := mo_f h c7
    refine zv_run 7 (pc' := 23) (lo' := [some (.ref 0), some (.int x1), some (.int (J 0 8))]) (st' := [.int (J 0 8)]) (I' := (zx_uI J 0 8 x1)) (L' := L) (R' := zw_RM) rfl ?_
    obtain rfl := Option.some.inj h
    exact zv_iret (zs_at rfl) rfl ⟨Nat.le_refl _, Nat.le_refl _⟩ zw_here
  · have h := mo_t h c7
    refine zv_run 1 (pc' := 11) (lo' := [some (.ref 0), some (.int x1), none]) (st' := [.int (-1)]) (I' := J) (L' := L) (R' := zw_RM) rfl ?_
    obtain rfl := Option.some.inj h
    exact zv_iret (zs_at rfl) rfl ⟨Nat.le_refl _, Nat.le_refl _⟩ zw_here
def mf_plan (x1 : Int32) (x2 : Int32) (J : zx_I) (L : zx_L) : Option (Int32 × zx_L) := (if (mf_in x1 (0 : Int32) (59 : Int32)) = 0 then some ((-1 : Int32), L) else (((if x2 = 0 then some (((L 0 9) &&& (((1 : Int64) <<< (x1.toInt64 &&& 63)) ^^^ (-1 : Int64)))) else some (((L 0 9) ||| ((1 : Int64) <<< (x1.toInt64 &&& 63))))) : Option (Int64)).bind fun v24 => some (((((L 0 9) >>> (x1.toInt64 &&& 63)) &&& (1 : Int64)).toInt32), (zx_uL L 0 9 v24))))
theorem mt_plan {d : Nat} {x1 : Int32} {x2 : Int32} {J : zx_I} {L : zx_L} {p : Int32 × zx_L} (h : mf_plan x1 x2 J L = some p) : zx_M0 mm_X10_plan (d + 1) 0 0 [.ref 0, .int x1, .int x2] zw_SM J L zw_RM (zw_ret (some (.int p.1)) zw_SM J p.2 zw_RM) := by
  unfold mf_plan at h
  refine zv_entry gd_X10_plan (Nat.le_of_ble_eq_true rfl) ?_
  refine zv_run 3 (pc' := 4) (lo' := [some (.ref 0), some (.int x1), some (.int x2), none]) (st' := [.int 59, .int 0, .int x1]) (I' := J) (L' := L) (R' := zw_RM) rfl ?_
  refine zv_cSz (M' := mm_X10_in) (av := [.int x1, .int 0, .int 59]) (st := []) (v := (mf_in x1 (0 : Int32) (59 : Int32))) (I' := J) (L' := L) (R' := zw_RM) rfl zc_10_86 gd_X10_in rfl (Nat.le_of_ble_eq_true rfl) (mt_in (d := _) rfl) ⟨Nat.le_refl _, Nat.le_refl _⟩ ?_
  intro b4
  refine zv_run 0 (pc' := 7) (lo' := [some (.ref 0), some (.int x1), some (.int x2), none]) (st' := [.int (mf_in x1 (0 : Int32) (59 : Int32))]) (I' := J) (L' := L) (R' := zw_RM) rfl ?_
  refine zv_if_ne (tgt := 12) (zs_at rfl) (by decide) (fun c7 => ?_) (fun c7 => ?_)
  · have h := mo_f h c7
    refine zv_run 10 (pc' := 24) (lo' := [some (.ref 0), some (.int x1), some (.int x2), some (.int ((((L 0 9) >>> (x1.toInt64 &&& 63)) &&& (1 : Int64)).toInt32))]) (st' := [.int x2, .ref 0]) (I' := J) (L' := L) (R' := zw_RM) rfl ?_
    obtain ⟨v24, e24, h⟩ := mo_b h
    have k24 : zx_V mm_X10_plan (d + 1) z0 (zw_ret (some (.int p.1)) zw_SM J p.2 zw_RM) zw_SM 50 [some (.ref 0), none, none, some (.int ((((L 0 9) >>> (x1.toInt64 &&& 63)) &&& (1 : Int64)).toInt32))] [.long v24, .ref 0] J L zw_RM := by
      clear e24
      refine zv_run 2 (pc' := 54) (lo' := [some (.ref 0), none, none, some (.int ((((L 0 9) >>> (x1.toInt64 &&& 63)) &&& (1 : Int64)).toInt32))]) (st' := [.int ((((L 0 9) >>> (x1.toInt64 &&& 63)) &&& (1 : Int64)).toInt32)]) (I' := J) (L' := (zx_uL L 0 9 v24)) (R' := zw_RM) rfl ?_
      obtain rfl := Option.some.inj h
      exact zv_iret (zs_at rfl) rfl ⟨Nat.le_refl _, Nat.le_refl _⟩ zw_here
    have h := e24
    refine zv_if_eq (tgt := 38) (zs_at rfl) (by decide) (fun c24 => ?_) (fun c24 => ?_)
    · have h := mo_t h c24
      refine zv_run 8 (pc' := 50) (lo' := [some (.ref 0), some (.int x1), some (.int x2), some (.int ((((L 0 9) >>> (x1.toInt64 &&& 63)) &&& (1 : Int64)).toInt32))]) (st' := [.long ((L 0 9) &&& (((1 : Int64) <<< (x1.toInt64 &&& 63)) ^^^ (-1 : Int64))), .ref 0]) (I' := J) (L' := L) (R' := zw_RM) rfl ?_
      obtain rfl := Option.some.inj h
      refine zv_fg (lo' := [some (.ref 0), none, none, some (.int ((((L 0 9) >>> (x1.toInt64 &&& 63)) &&& (1 : Int64)).toInt32))]) (And.intro rfl (And.intro trivial (And.intro trivial (And.intro rfl rfl)))) ?_
      exact k24
    · have h := mo_f h c24
      refine zv_run 7 (pc' := 50) (lo' := [some (.ref 0), some (.int x1), some (.int x2), some (.int ((((L 0 9) >>> (x1.toInt64 &&& 63)) &&& (1 : Int64)).toInt32))]) (st' := [.long ((L 0 9) ||| ((1 : Int64) <<< (x1.toInt64 &&& 63))), .ref 0]) (I' := J) (L' := L) (R' := zw_RM) rfl ?_
      obtain rfl := Option.some.inj h
      refine zv_fg (lo' := [some (.ref 0), none, none, some (.int ((((L 0 9) >>> (x1.toInt64 &&& 63)) &&& (1 : Int64)).toInt32))]) (And.intro rfl (And.intro trivial (And.intro trivial (And.intro rfl rfl)))) ?_
      exact k24
  · have h := mo_t h c7
    refine zv_run 1 (pc' := 11) (lo' := [some (.ref 0), some (.int x1), some (.int x2), none]) (st' := [.int (-1)]) (I' := J) (L' := L) (R' := zw_RM) rfl ?_
    obtain rfl := Option.some.inj h
    exact zv_iret (zs_at rfl) rfl ⟨Nat.le_refl _, Nat.le_refl _⟩ zw_here
def mf_isRule (x0 : Int32) : Int32 := (mf_in x0 (0 : Int32) (3 : Int32))
theorem mt_isRule {d : Nat} {x0 : Int32} {J : zx_I} {L : zx_L} {p : Int32} (h : mf_isRule x0 = p) : zx_M0 mm_X10_isRule (d + 1) 0 0 [.int x0] zw_SM J L zw_RM (zw_rz p zw_SM J L zw_RM) := by
  unfold mf_isRule at h
  refine zv_entry gd_X10_isRule (Nat.le_of_ble_eq_true rfl) ?_
  refine zv_run 3 (pc' := 3) (lo' := [some (.int x0)]) (st' := [.int 3, .int 0, .int x0]) (I' := J) (L' := L) (R' := zw_RM) rfl ?_
  refine zv_cSz (M' := mm_X10_in) (av := [.int x0, .int 0, .int 3]) (st := []) (v := (mf_in x0 (0 : Int32) (3 : Int32))) (I' := J) (L' := L) (R' := zw_RM) rfl zc_10_86 gd_X10_in rfl (Nat.le_of_ble_eq_true rfl) (mt_in (d := _) rfl) ⟨Nat.le_refl _, Nat.le_refl _⟩ ?_
  intro b3
  refine zv_run 0 (pc' := 6) (lo' := [some (.int x0)]) (st' := [.int (mf_in x0 (0 : Int32) (3 : Int32))]) (I' := J) (L' := L) (R' := zw_RM) rfl ?_
  obtain rfl := h
  exact zv_zret (zs_at rfl) rfl b3 ⟨Nat.le_refl _, Nat.le_refl _⟩ ⟨zw_here, b3⟩
def mf_canGo_26_b (n : Nat) (x1 : Int32) (x2 : Int32) (x3 : Int32) (J : zx_I) (K : Option (Int32 × zx_I)) (Z : Int32 → Option (Int32 × zx_I)) (x4 : Int32) : Option (Int32 × zx_I) := (if (mf_many J) ≤ x4 then K else ((mf_of x1 (6 : Int32) J).bind fun p39 => (if ((p39 >>> (x4 &&& 31)) &&& 1) = (1 : Int32) then (mo_g (mo_in x4 6) (if (J 14 x4.toNatClampNeg) = (-4 : Int32) then some ((0 : Int32), J) else (mo_g (mo_in x4 6) (if (J 14 x4.toNatClampNeg) ≤ x2 then Z (x4 + 1) else some ((0 : Int32), J))))) else Z (x4 + 1))))
def mf_canGo_26 (n : Nat) (x1 : Int32) (x2 : Int32) (x3 : Int32) (J : zx_I) (K : Option (Int32 × zx_I)) : Nat → Int32 → Option (Int32 × zx_I)
  | 0 => fun _ => none
  | k + 1 => mf_canGo_26_b n x1 x2 x3 J K (mf_canGo_26 n x1 x2 x3 J K k)
def mf_canGo (n : Nat) (x1 : Int32) (x2 : Int32) (x3 : Int32) (J : zx_I) : Option (Int32 × zx_I) := (mo_g (mo_in x1 6) (if x2 < (J 12 x1.toNatClampNeg) then some ((0 : Int32), J) else (mo_g (mo_in x1 6) (if (J 13 x1.toNatClampNeg) = (-4 : Int32) then (mf_canGo_26 n x1 x2 x3 J ((if x3 = (-4 : Int32) then (((if (x2 - (J 0 27)) < (J 3 14) then some ((0 : Int32)) else some ((1 : Int32))) : Option (Int32)).bind fun v194 => ((mf_hasBath n x1 v194 (zx_uI J 0 33 0)).bind fun p202 => some (p202.1, p202.2))) else (mo_g (mo_in x3 6) (if (J 14 x3.toNatClampNeg) = x2 then ((mf_of x1 (7 : Int32) (zx_uI J 0 33 0)).bind fun p107 => (if ((p107 >>> (x3 &&& 31)) &&& 1) = (1 : Int32) then (mo_g (mo_in x3 6) ((mf_of x3 (3 : Int32) (zx_uI J 0 33 0)).bind fun p134 => ((mf_of x1 (1 : Int32) (zx_uI J 0 33 0)).bind fun p146 => ((mf_of x1 (2 : Int32) (zx_uI J 0 33 0)).bind fun p152 => (if (mf_in ((J 15 x3.toNatClampNeg) - ((J 3 12) * p134)) p146 p152) = 0 then (((if (x2 - (J 0 27)) < (J 3 14) then some ((0 : Int32)) else some ((1 : Int32))) : Option (Int32)).bind fun v194 => ((mf_hasBath n x1 v194 (zx_uI J 0 33 0)).bind fun p202 => some (p202.1, p202.2))) else some ((1 : Int32), (zx_uI (zx_uI (zx_uI (zx_uI J 0 33 0) 0 33 1) 0 32 ((J 15 x3.toNatClampNeg) - ((J 3 12) * p134))) 0 31 0))))))) else (((if (x2 - (J 0 27)) < (J 3 14) then some ((0 : Int32)) else some ((1 : Int32))) : Option (Int32)).bind fun v194 => ((mf_hasBath n x1 v194 (zx_uI J 0 33 0)).bind fun p202 => some (p202.1, p202.2))))) else (((if (x2 - (J 0 27)) < (J 3 14) then some ((0 : Int32)) else some ((1 : Int32))) : Option (Int32)).bind fun v194 => ((mf_hasBath n x1 v194 (zx_uI J 0 33 0)).bind fun p202 => some (p202.1, p202.2))))))) n (0 : Int32)) else some ((0 : Int32), J)))))
theorem ml_canGo_26 {n d : Nat} {x1 : Int32} {x2 : Int32} {x3 : Int32} {J : zx_I} {L : zx_L} {K : Option (Int32 × zx_I)} (hK : ∀ (p : Int32 × zx_I), K = some p → zx_V mm_X10_canGo (d + 3) z0 (zw_rz p.1 zw_SM p.2 L zw_RM) zw_SM 82 [some (.ref 0), some (.int x1), some (.int x2), some (.int x3), none] [] J L zw_RM) : ∀ (k : Nat) (x4 : Int32) (p : Int32 × zx_I), mf_canGo_26 n x1 x2 x3 J K k x4 = some p → zx_V mm_X10_canGo (d + 3) z0 (zw_rz p.1 zw_SM p.2 L zw_RM) zw_SM 26 [some (.ref 0), some (.int x1), some (.int x2), some (.int x3), some (.int x4)] [] J L zw_RM := by
  intro k
  induction k with
  | zero =>
    intro x4 p h
    exact absurd (show (none : Option (Int32 × zx_I)) = some p from h) (by intro q; cases q)
  | succ k ih =>
    intro x4 p h
    have h : mf_canGo_26_b n x1 x2 x3 J K (mf_canGo_26 n x1 x2 x3 J K k) x4 = some p := h
    unfold mf_canGo_26_b at h
    refine zv_run 2 (pc' := 29) (lo' := [some (.ref 0), some (.int x1), some (.int x2), some (.int x3), some (.int x4)]) (st' := [.ref 0, .int x4]) (I' := J) (L' := L) (R' := zw_RM) rfl ?_
    refine zv_cV (M' := mm_X10_many) (ci := 10) (a := 0) (av := []) (st := [.int x4]) (r := some (.int (mf_many J))) (I' := J) (L' := L) (R' := zw_RM) rfl zc_10_133 gd_X10_many rfl rfl rfl (Nat.le_of_ble_eq_true rfl) (mt_many (d := _) rfl) ⟨Nat.le_refl _, Nat.le_refl _⟩ ?_
    refine zv_run 0 (pc' := 32) (lo' := [some (.ref 0), some (.int x1), some (.int x2), some (.int x3), some (.int x4)]) (st' := [.int (mf_many J), .int x4]) (I' := J) (L' := L) (R' := zw_RM) rfl ?_
    refine zv_icmp_ge (tgt := 82) (zs_at rfl) (by decide) (fun c32 => ?_) (fun c32 => ?_)
    · have h := mo_t h c32
      refine zv_fg (lo' := [some (.ref 0), some (.int x1), some (.int x2), some (.int x3), none]) (And.intro rfl (And.intro rfl (And.intro rfl (And.intro rfl (And.intro trivial rfl))))) ?_
      exact hK  p h
    · have h := mo_f h c32
      refine zv_run 3 (pc' := 39) (lo' := [some (.ref 0), some (.int x1), some (.int x2), some (.int x3), some (.int x4)]) (st' := [.int 6, .int x1, .ref 0]) (I' := J) (L' := L) (R' := zw_RM) rfl ?_
      obtain ⟨p39, e39, h⟩ := mo_b h
      refine zv_cV (M' := mm_X10_of) (ci := 10) (a := 0) (av := [.int x1, .int 6]) (st := []) (r := some (.int p39)) (I' := J) (L' := L) (R' := zw_RM) rfl zc_10_139 gd_X10_of rfl rfl rfl (Nat.le_of_ble_eq_true rfl) (mt_of (d := _) e39) ⟨Nat.le_refl _, Nat.le_refl _⟩ ?_
      refine zv_run 0 (pc' := 42) (lo' := [some (.ref 0), some (.int x1), some (.int x2), some (.int x3), some (.int x4)]) (st' := [.int p39]) (I' := J) (L' := L) (R' := zw_RM) rfl ?_
      refine zv_run 5 (pc' := 48) (lo' := [some (.ref 0), some (.int x1), some (.int x2), some (.int x3), some (.int x4)]) (st' := [.int 1, .int ((p39 >>> (x4 &&& 31)) &&& 1)]) (I' := J) (L' := L) (R' := zw_RM) rfl ?_
      refine zv_icmp_ne (tgt := 76) (zs_at rfl) (by decide) (fun c48 => ?_) (fun c48 => ?_)
      · have h := mo_f h c48
        refine zv_run 2 (pc' := 26) (lo' := [some (.ref 0), some (.int x1), some (.int x2), some (.int x3), some (.int (x4 + 1))]) (st' := []) (I' := J) (L' := L) (R' := zw_RM) rfl ?_
        exact ih _ p h
      · have h := mo_t h c48
        refine zv_run 3 (pc' := 57) (lo' := [some (.ref 0), some (.int x1), some (.int x2), some (.int x3), some (.int x4)]) (st' := [.int x4, .ref 14]) (I' := J) (L' := L) (R' := zw_RM) rfl ?_
        obtain ⟨g57, h⟩ := mo_gs h
        refine zv_iald (zs_at rfl) rfl (mo_in_vp g57) ?_
        refine zv_run 0 (pc' := 58) (lo' := [some (.ref 0), some (.int x1), some (.int x2), some (.int x3), some (.int x4)]) (st' := [.int (J 14 x4.toNatClampNeg)]) (I' := J) (L' := L) (R' := zw_RM) rfl ?_
        refine zv_run 1 (pc' := 60) (lo' := [some (.ref 0), some (.int x1), some (.int x2), some (.int x3), some (.int x4)]) (st' := [.int (-4), .int (J 14 x4.toNatClampNeg)]) (I' := J) (L' := L) (R' := zw_RM) rfl ?_
        refine zv_icmp_eq (tgt := 74) (zs_at rfl) (by decide) (fun c60 => ?_) (fun c60 => ?_)
        · have h := mo_t h c60
          refine zv_run 1 (pc' := 75) (lo' := [some (.ref 0), some (.int x1), some (.int x2), some (.int x3), some (.int x4)]) (st' := [.int 0]) (I' := J) (L' := L) (R' := zw_RM) rfl ?_
          obtain rfl := Option.some.inj h
          exact zv_zret (zs_at rfl) rfl (Or.inl rfl) ⟨Nat.le_refl _, Nat.le_refl _⟩ ⟨zw_here, (Or.inl rfl)⟩
        · have h := mo_f h c60
          refine zv_run 3 (pc' := 69) (lo' := [some (.ref 0), some (.int x1), some (.int x2), some (.int x3), some (.int x4)]) (st' := [.int x4, .ref 14]) (I' := J) (L' := L) (R' := zw_RM) rfl ?_
          obtain ⟨g69, h⟩ := mo_gs h
          refine zv_iald (zs_at rfl) rfl (mo_in_vp g69) ?_
          refine zv_run 0 (pc' := 70) (lo' := [some (.ref 0), some (.int x1), some (.int x2), some (.int x3), some (.int x4)]) (st' := [.int (J 14 x4.toNatClampNeg)]) (I' := J) (L' := L) (R' := zw_RM) rfl ?_
          refine zv_run 1 (pc' := 71) (lo' := [some (.ref 0), some (.int x1), some (.int x2), some (.int x3), some (.int x4)]) (st' := [.int x2, .int (J 14 x4.toNatClampNeg)]) (I' := J) (L' := L) (R' := zw_RM) rfl ?_
          refine zv_icmp_le (tgt := 76) (zs_at rfl) (by decide) (fun c71 => ?_) (fun c71 => ?_)
          · have h := mo_t h c71
            refine zv_run 2 (pc' := 26) (lo' := [some (.ref 0), some (.int x1), some (.int x2), some (.int x3), some (.int (x4 + 1))]) (st' := []) (I' := J) (L' := L) (R' := zw_RM) rfl ?_
            exact ih _ p h
          · have h := mo_f h c71
            refine zv_run 1 (pc' := 75) (lo' := [some (.ref 0), some (.int x1), some (.int x2), some (.int x3), some (.int x4)]) (st' := [.int 0]) (I' := J) (L' := L) (R' := zw_RM) rfl ?_
            obtain rfl := Option.some.inj h
            exact zv_zret (zs_at rfl) rfl (Or.inl rfl) ⟨Nat.le_refl _, Nat.le_refl _⟩ ⟨zw_here, (Or.inl rfl)⟩
theorem mt_canGo {d n : Nat} {x1 : Int32} {x2 : Int32} {x3 : Int32} {J : zx_I} {L : zx_L} {p : Int32 × zx_I} (h : mf_canGo n x1 x2 x3 J = some p) : zx_M0 mm_X10_canGo (d + 3) 0 0 [.ref 0, .int x1, .int x2, .int x3] zw_SM J L zw_RM (zw_rz p.1 zw_SM p.2 L zw_RM) := by
  unfold mf_canGo at h
  refine zv_entry gd_X10_canGo (Nat.le_of_ble_eq_true rfl) ?_
  refine zv_run 3 (pc' := 5) (lo' := [some (.ref 0), some (.int x1), some (.int x2), some (.int x3), none]) (st' := [.int x1, .ref 12]) (I' := J) (L' := L) (R' := zw_RM) rfl ?_
  obtain ⟨g5, h⟩ := mo_gs h
  refine zv_iald (zs_at rfl) rfl (mo_in_vp g5) ?_
  refine zv_run 0 (pc' := 6) (lo' := [some (.ref 0), some (.int x1), some (.int x2), some (.int x3), none]) (st' := [.int (J 12 x1.toNatClampNeg)]) (I' := J) (L' := L) (R' := zw_RM) rfl ?_
  refine zv_run 1 (pc' := 7) (lo' := [some (.ref 0), some (.int x1), some (.int x2), some (.int x3), none]) (st' := [.int x2, .int (J 12 x1.toNatClampNeg)]) (I' := J) (L' := L) (R' := zw_RM) rfl ?_
  refine zv_icmp_gt (tgt := 21) (zs_at rfl) (by decide) (fun c7 => ?_) (fun c7 => ?_)
  · have h := mo_t h c7
    refine zv_run 1 (pc' := 22) (lo' := [some (.ref 0), some (.int x1), some (.int x2), some (.int x3), none]) (st' := [.int 0]) (I' := J) (L' := L) (R' := zw_RM) rfl ?_
    obtain rfl := Option.some.inj h
    exact zv_zret (zs_at rfl) rfl (Or.inl rfl) ⟨Nat.le_refl _, Nat.le_refl _⟩ ⟨zw_here, (Or.inl rfl)⟩
  · have h := mo_f h c7
    refine zv_run 3 (pc' := 15) (lo' := [some (.ref 0), some (.int x1), some (.int x2), some (.int x3), none]) (st' := [.int x1, .ref 13]) (I' := J) (L' := L) (R' := zw_RM) rfl ?_
    obtain ⟨g15, h⟩ := mo_gs h
    refine zv_iald (zs_at rfl) rfl (mo_in_vp g15) ?_
    refine zv_run 0 (pc' := 16) (lo' := [some (.ref 0), some (.int x1), some (.int x2), some (.int x3), none]) (st' := [.int (J 13 x1.toNatClampNeg)]) (I' := J) (L' := L) (R' := zw_RM) rfl ?_
    refine zv_run 1 (pc' := 18) (lo' := [some (.ref 0), some (.int x1), some (.int x2), some (.int x3), none]) (st' := [.int (-4), .int (J 13 x1.toNatClampNeg)]) (I' := J) (L' := L) (R' := zw_RM) rfl ?_
    refine zv_icmp_eq (tgt := 23) (zs_at rfl) (by decide) (fun c18 => ?_) (fun c18 => ?_)
    · have h := mo_t h c18
      refine zv_run 2 (pc' := 26) (lo' := [some (.ref 0), some (.int x1), some (.int x2), some (.int x3), some (.int 0)]) (st' := []) (I' := J) (L' := L) (R' := zw_RM) rfl ?_
      refine ml_canGo_26 (fun  p h => ?_) n _ p h
      refine zv_run 5 (pc' := 90) (lo' := [some (.ref 0), some (.int x1), some (.int x2), some (.int x3), none]) (st' := [.int (-4), .int x3]) (I' := (zx_uI J 0 33 0)) (L' := L) (R' := zw_RM) rfl ?_
      refine zv_icmp_eq (tgt := 179) (zs_at rfl) (by decide) (fun c90 => ?_) (fun c90 => ?_)
      · have h := mo_t h c90
        refine zv_run 10 (pc' := 194) (lo' := [some (.ref 0), some (.int x1), some (.int x2), some (.int x3), none]) (st' := [.int (J 3 14), .int (x2 - (J 0 27)), .int x1, .ref 0]) (I' := (zx_uI J 0 33 0)) (L' := L) (R' := zw_RM) rfl ?_
        obtain ⟨v194, e194, h⟩ := mo_b h
        have k194 : (v194 = 0 ∨ v194 = 1) → zx_V mm_X10_canGo (d + 3) z0 (zw_rz p.1 zw_SM p.2 L zw_RM) zw_SM 202 [some (.ref 0), none, none, none, none] [.int v194, .int x1, .ref 0] (zx_uI J 0 33 0) L zw_RM := by
          intro b194_0
          clear e194
          obtain ⟨p202, e202, h⟩ := mo_b h
          refine zv_cVz (M' := mm_X10_hasBath) (ci := 10) (a := 0) (av := [.int x1, .int v194]) (st := []) (v := p202.1) (I' := p202.2) (L' := L) (R' := zw_RM) rfl zc_10_162 gd_X10_hasBath rfl rfl rfl (Nat.le_of_ble_eq_true rfl) (mt_hasBath (d := _) e202) ⟨Nat.le_refl _, Nat.le_refl _⟩ ?_
          intro b202
          refine zv_run 0 (pc' := 205) (lo' := [some (.ref 0), none, none, none, none]) (st' := [.int p202.1]) (I' := p202.2) (L' := L) (R' := zw_RM) rfl ?_
          obtain rfl := Option.some.inj h
          exact zv_zret (zs_at rfl) rfl b202 ⟨Nat.le_refl _, Nat.le_refl _⟩ ⟨zw_here, b202⟩
        have h := e194
        refine zv_icmp_lt (tgt := 201) (zs_at rfl) (by decide) (fun c194 => ?_) (fun c194 => ?_)
        · have h := mo_t h c194
          refine zv_run 1 (pc' := 202) (lo' := [some (.ref 0), some (.int x1), some (.int x2), some (.int x3), none]) (st' := [.int 0, .int x1, .ref 0]) (I' := (zx_uI J 0 33 0)) (L' := L) (R' := zw_RM) rfl ?_
          obtain rfl := Option.some.inj h
          refine zv_fg (lo' := [some (.ref 0), none, none, none, none]) (And.intro rfl (And.intro trivial (And.intro trivial (And.intro trivial (And.intro trivial rfl))))) ?_
          exact k194 (Or.inl rfl)
        · have h := mo_f h c194
          refine zv_run 2 (pc' := 202) (lo' := [some (.ref 0), some (.int x1), some (.int x2), some (.int x3), none]) (st' := [.int 1, .int x1, .ref 0]) (I' := (zx_uI J 0 33 0)) (L' := L) (R' := zw_RM) rfl ?_
          obtain rfl := Option.some.inj h
          refine zv_fg (lo' := [some (.ref 0), none, none, none, none]) (And.intro rfl (And.intro trivial (And.intro trivial (And.intro trivial (And.intro trivial rfl))))) ?_
          exact k194 (Or.inr rfl)
      · have h := mo_f h c90
        refine zv_run 3 (pc' := 98) (lo' := [some (.ref 0), some (.int x1), some (.int x2), some (.int x3), none]) (st' := [.int x3, .ref 14]) (I' := (zx_uI J 0 33 0)) (L' := L) (R' := zw_RM) rfl ?_
        obtain ⟨g98, h⟩ := mo_gs h
        refine zv_iald (zs_at rfl) rfl (mo_in_vp g98) ?_
        refine zv_run 0 (pc' := 99) (lo' := [some (.ref 0), some (.int x1), some (.int x2), some (.int x3), none]) (st' := [.int (J 14 x3.toNatClampNeg)]) (I' := (zx_uI J 0 33 0)) (L' := L) (R' := zw_RM) rfl ?_
        refine zv_run 1 (pc' := 100) (lo' := [some (.ref 0), some (.int x1), some (.int x2), some (.int x3), none]) (st' := [.int x2, .int (J 14 x3.toNatClampNeg)]) (I' := (zx_uI J 0 33 0)) (L' := L) (R' := zw_RM) rfl ?_
        refine zv_icmp_ne (tgt := 179) (zs_at rfl) (by decide) (fun c100 => ?_) (fun c100 => ?_)
        · have h := mo_f h c100
          refine zv_run 10 (pc' := 194) (lo' := [some (.ref 0), some (.int x1), some (.int x2), some (.int x3), none]) (st' := [.int (J 3 14), .int (x2 - (J 0 27)), .int x1, .ref 0]) (I' := (zx_uI J 0 33 0)) (L' := L) (R' := zw_RM) rfl ?_
          obtain ⟨v194, e194, h⟩ := mo_b h
          have k194 : (v194 = 0 ∨ v194 = 1) → zx_V mm_X10_canGo (d + 3) z0 (zw_rz p.1 zw_SM p.2 L zw_RM) zw_SM 202 [some (.ref 0), none, none, none, none] [.int v194, .int x1, .ref 0] (zx_uI J 0 33 0) L zw_RM := by
            intro b194_0
            clear e194
            obtain ⟨p202, e202, h⟩ := mo_b h
            refine zv_cVz (M' := mm_X10_hasBath) (ci := 10) (a := 0) (av := [.int x1, .int v194]) (st := []) (v := p202.1) (I' := p202.2) (L' := L) (R' := zw_RM) rfl zc_10_162 gd_X10_hasBath rfl rfl rfl (Nat.le_of_ble_eq_true rfl) (mt_hasBath (d := _) e202) ⟨Nat.le_refl _, Nat.le_refl _⟩ ?_
            intro b202
            refine zv_run 0 (pc' := 205) (lo' := [some (.ref 0), none, none, none, none]) (st' := [.int p202.1]) (I' := p202.2) (L' := L) (R' := zw_RM) rfl ?_
            obtain rfl := Option.some.inj h
            exact zv_zret (zs_at rfl) rfl b202 ⟨Nat.le_refl _, Nat.le_refl _⟩ ⟨zw_here, b202⟩
          have h := e194
          refine zv_icmp_lt (tgt := 201) (zs_at rfl) (by decide) (fun c194 => ?_) (fun c194 => ?_)
          · have h := mo_t h c194
            refine zv_run 1 (pc' := 202) (lo' := [some (.ref 0), some (.int x1), some (.int x2), some (.int x3), none]) (st' := [.int 0, .int x1, .ref 0]) (I' := (zx_uI J 0 33 0)) (L' := L) (R' := zw_RM) rfl ?_
            obtain rfl := Option.some.inj h
            refine zv_fg (lo' := [some (.ref 0), none, none, none, none]) (And.intro rfl (And.intro trivial (And.intro trivial (And.intro trivial (And.intro trivial rfl))))) ?_
            exact k194 (Or.inl rfl)
          · have h := mo_f h c194
            refine zv_run 2 (pc' := 202) (lo' := [some (.ref 0), some (.int x1), some (.int x2), some (.int x3), none]) (st' := [.int 1, .int x1, .ref 0]) (I' := (zx_uI J 0 33 0)) (L' := L) (R' := zw_RM) rfl ?_
            obtain rfl := Option.some.inj h
            refine zv_fg (lo' := [some (.ref 0), none, none, none, none]) (And.intro rfl (And.intro trivial (And.intro trivial (And.intro trivial (And.intro trivial rfl))))) ?_
            exact k194 (Or.inr rfl)
        · have h := mo_t h c100
          refine zv_run 3 (pc' := 107) (lo' := [some (.ref 0), some (.int x1), some (.int x2), some (.int x3), none]) (st' := [.int 7, .int x1, .ref 0]) (I' := (zx_uI J 0 33 0)) (L' := L) (R' := zw_RM) rfl ?_
          obtain ⟨p107, e107, h⟩ := mo_b h
          refine zv_cV (M' := mm_X10_of) (ci := 10) (a := 0) (av := [.int x1, .int 7]) (st := []) (r := some (.int p107)) (I' := (zx_uI J 0 33 0)) (L' := L) (R' := zw_RM) rfl zc_10_139 gd_X10_of rfl rfl rfl (Nat.le_of_ble_eq_true rfl) (mt_of (d := _) e107) ⟨Nat.le_refl _, Nat.le_refl _⟩ ?_
          refine zv_run 0 (pc' := 110) (lo' := [some (.ref 0), some (.int x1), some (.int x2), some (.int x3), none]) (st' := [.int p107]) (I' := (zx_uI J 0 33 0)) (L' := L) (R' := zw_RM) rfl ?_
          refine zv_run 5 (pc' := 115) (lo' := [some (.ref 0), some (.int x1), some (.int x2), some (.int x3), none]) (st' := [.int 1, .int ((p107 >>> (x3 &&& 31)) &&& 1)]) (I' := (zx_uI J 0 33 0)) (L' := L) (R' := zw_RM) rfl ?_
          refine zv_icmp_ne (tgt := 179) (zs_at rfl) (by decide) (fun c115 => ?_) (fun c115 => ?_)
          · have h := mo_f h c115
            refine zv_run 10 (pc' := 194) (lo' := [some (.ref 0), some (.int x1), some (.int x2), some (.int x3), none]) (st' := [.int (J 3 14), .int (x2 - (J 0 27)), .int x1, .ref 0]) (I' := (zx_uI J 0 33 0)) (L' := L) (R' := zw_RM) rfl ?_
            obtain ⟨v194, e194, h⟩ := mo_b h
            have k194 : (v194 = 0 ∨ v194 = 1) → zx_V mm_X10_canGo (d + 3) z0 (zw_rz p.1 zw_SM p.2 L zw_RM) zw_SM 202 [some (.ref 0), none, none, none, none] [.int v194, .int x1, .ref 0] (zx_uI J 0 33 0) L zw_RM := by
              intro b194_0
              clear e194
              obtain ⟨p202, e202, h⟩ := mo_b h
              refine zv_cVz (M' := mm_X10_hasBath) (ci := 10) (a := 0) (av := [.int x1, .int v194]) (st := []) (v := p202.1) (I' := p202.2) (L' := L) (R' := zw_RM) rfl zc_10_162 gd_X10_hasBath rfl rfl rfl (Nat.le_of_ble_eq_true rfl) (mt_hasBath (d := _) e202) ⟨Nat.le_refl _, Nat.le_refl _⟩ ?_
              intro b202
              refine zv_run 0 (pc' := 205) (lo' := [some (.ref 0), none, none, none, none]) (st' := [.int p202.1]) (I' := p202.2) (L' := L) (R' := zw_RM) rfl ?_
              obtain rfl := Option.some.inj h
              exact zv_zret (zs_at rfl) rfl b202 ⟨Nat.le_refl _, Nat.le_refl _⟩ ⟨zw_here, b202⟩
            have h := e194
            refine zv_icmp_lt (tgt := 201) (zs_at rfl) (by decide) (fun c194 => ?_) (fun c194 => ?_)
            · have h := mo_t h c194
              refine zv_run 1 (pc' := 202) (lo' := [some (.ref 0), some (.int x1), some (.int x2), some (.int x3), none]) (st' := [.int 0, .int x1, .ref 0]) (I' := (zx_uI J 0 33 0)) (L' := L) (R' := zw_RM) rfl ?_
              obtain rfl := Option.some.inj h
              refine zv_fg (lo' := [some (.ref 0), none, none, none, none]) (And.intro rfl (And.intro trivial (And.intro trivial (And.intro trivial (And.intro trivial rfl))))) ?_
              exact k194 (Or.inl rfl)
            · have h := mo_f h c194
              refine zv_run 2 (pc' := 202) (lo' := [some (.ref 0), some (.int x1), some (.int x2), some (.int x3), none]) (st' := [.int 1, .int x1, .ref 0]) (I' := (zx_uI J 0 33 0)) (L' := L) (R' := zw_RM) rfl ?_
              obtain rfl := Option.some.inj h
              refine zv_fg (lo' := [some (.ref 0), none, none, none, none]) (And.intro rfl (And.intro trivial (And.intro trivial (And.intro trivial (And.intro trivial rfl))))) ?_
              exact k194 (Or.inr rfl)
          · have h := mo_t h c115
            refine zv_run 3 (pc' := 123) (lo' := [some (.ref 0), some (.int x1), some (.int x2), some (.int x3), none]) (st' := [.int x3, .ref 15]) (I' := (zx_uI J 0 33 0)) (L' := L) (R' := zw_RM) rfl ?_
            obtain ⟨g123, h⟩ := mo_gs h
            refine zv_iald (zs_at rfl) rfl (mo_in_vp g123) ?_
            refine zv_run 0 (pc' := 124) (lo' := [some (.ref 0), some (.int x1), some (.int x2), some (.int x3), none]) (st' := [.int (J 15 x3.toNatClampNeg)]) (I' := (zx_uI J 0 33 0)) (L' := L) (R' := zw_RM) rfl ?_
            refine zv_run 7 (pc' := 134) (lo' := [some (.ref 0), some (.int x1), some (.int x2), some (.int x3), none]) (st' := [.int 3, .int x3, .ref 0, .int (J 3 12), .int (J 15 x3.toNatClampNeg)]) (I' := (zx_uI J 0 33 0)) (L' := L) (R' := zw_RM) rfl ?_
            obtain ⟨p134, e134, h⟩ := mo_b h
            refine zv_cV (M' := mm_X10_of) (ci := 10) (a := 0) (av := [.int x3, .int 3]) (st := [.int (J 3 12), .int (J 15 x3.toNatClampNeg)]) (r := some (.int p134)) (I' := (zx_uI J 0 33 0)) (L' := L) (R' := zw_RM) rfl zc_10_139 gd_X10_of rfl rfl rfl (Nat.le_of_ble_eq_true rfl) (mt_of (d := _) e134) ⟨Nat.le_refl _, Nat.le_refl _⟩ ?_
            refine zv_run 0 (pc' := 137) (lo' := [some (.ref 0), some (.int x1), some (.int x2), some (.int x3), none]) (st' := [.int p134, .int (J 3 12), .int (J 15 x3.toNatClampNeg)]) (I' := (zx_uI J 0 33 0)) (L' := L) (R' := zw_RM) rfl ?_
            refine zv_run 7 (pc' := 146) (lo' := [some (.ref 0), some (.int x1), some (.int x2), some (.int x3), some (.int ((J 15 x3.toNatClampNeg) - ((J 3 12) * p134)))]) (st' := [.int 1, .int x1, .ref 0, .int ((J 15 x3.toNatClampNeg) - ((J 3 12) * p134))]) (I' := (zx_uI J 0 33 0)) (L' := L) (R' := zw_RM) rfl ?_
            obtain ⟨p146, e146, h⟩ := mo_b h
            refine zv_cV (M' := mm_X10_of) (ci := 10) (a := 0) (av := [.int x1, .int 1]) (st := [.int ((J 15 x3.toNatClampNeg) - ((J 3 12) * p134))]) (r := some (.int p146)) (I' := (zx_uI J 0 33 0)) (L' := L) (R' := zw_RM) rfl zc_10_139 gd_X10_of rfl rfl rfl (Nat.le_of_ble_eq_true rfl) (mt_of (d := _) e146) ⟨Nat.le_refl _, Nat.le_refl _⟩ ?_
            refine zv_run 0 (pc' := 149) (lo' := [some (.ref 0), some (.int x1), some (.int x2), some (.int x3), some (.int ((J 15 x3.toNatClampNeg) - ((J 3 12) * p134)))]) (st' := [.int p146, .int ((J 15 x3.toNatClampNeg) - ((J 3 12) * p134))]) (I' := (zx_uI J 0 33 0)) (L' := L) (R' := zw_RM) rfl ?_
            refine zv_run 3 (pc' := 152) (lo' := [some (.ref 0), some (.int x1), some (.int x2), some (.int x3), some (.int ((J 15 x3.toNatClampNeg) - ((J 3 12) * p134)))]) (st' := [.int 2, .int x1, .ref 0, .int p146, .int ((J 15 x3.toNatClampNeg) - ((J 3 12) * p134))]) (I' := (zx_uI J 0 33 0)) (L' := L) (R' := zw_RM) rfl ?_
            obtain ⟨p152, e152, h⟩ := mo_b h
            refine zv_cV (M' := mm_X10_of) (ci := 10) (a := 0) (av := [.int x1, .int 2]) (st := [.int p146, .int ((J 15 x3.toNatClampNeg) - ((J 3 12) * p134))]) (r := some (.int p152)) (I' := (zx_uI J 0 33 0)) (L' := L) (R' := zw_RM) rfl zc_10_139 gd_X10_of rfl rfl rfl (Nat.le_of_ble_eq_true rfl) (mt_of (d := _) e152) ⟨Nat.le_refl _, Nat.le_refl _⟩ ?_
            refine zv_run 0 (pc' := 155) (lo' := [some (.ref 0), some (.int x1), some (.int x2), some (.int x3), some (.int ((J 15 x3.toNatClampNeg) - ((J 3 12) * p134)))]) (st' := [.int p152, .int p146, .int ((J 15 x3.toNatClampNeg) - ((J 3 12) * p134))]) (I' := (zx_uI J 0 33 0)) (L' := L) (R' := zw_RM) rfl ?_
            refine zv_cSz (M' := mm_X10_in) (av := [.int ((J 15 x3.toNatClampNeg) - ((J 3 12) * p134)), .int p146, .int p152]) (st := []) (v := (mf_in ((J 15 x3.toNatClampNeg) - ((J 3 12) * p134)) p146 p152)) (I' := (zx_uI J 0 33 0)) (L' := L) (R' := zw_RM) rfl zc_10_86 gd_X10_in rfl (Nat.le_of_ble_eq_true rfl) (mt_in (d := _) rfl) ⟨Nat.le_refl _, Nat.le_refl _⟩ ?_
            intro b155
            refine zv_run 0 (pc' := 158) (lo' := [some (.ref 0), some (.int x1), some (.int x2), some (.int x3), some (.int ((J 15 x3.toNatClampNeg) - ((J 3 12) * p134)))]) (st' := [.int (mf_in ((J 15 x3.toNatClampNeg) - ((J 3 12) * p134)) p146 p152)]) (I' := (zx_uI J 0 33 0)) (L' := L) (R' := zw_RM) rfl ?_
            refine zv_if_eq (tgt := 179) (zs_at rfl) (by decide) (fun c158 => ?_) (fun c158 => ?_)
            · have h := mo_t h c158
              refine zv_run 10 (pc' := 194) (lo' := [some (.ref 0), some (.int x1), some (.int x2), some (.int x3), some (.int ((J 15 x3.toNatClampNeg) - ((J 3 12) * p134)))]) (st' := [.int (J 3 14), .int (x2 - (J 0 27)), .int x1, .ref 0]) (I' := (zx_uI J 0 33 0)) (L' := L) (R' := zw_RM) rfl ?_
              obtain ⟨v194, e194, h⟩ := mo_b h
              have k194 : (v194 = 0 ∨ v194 = 1) → zx_V mm_X10_canGo (d + 3) z0 (zw_rz p.1 zw_SM p.2 L zw_RM) zw_SM 202 [some (.ref 0), none, none, none, none] [.int v194, .int x1, .ref 0] (zx_uI J 0 33 0) L zw_RM := by
                intro b194_0
                clear e194
                obtain ⟨p202, e202, h⟩ := mo_b h
                refine zv_cVz (M' := mm_X10_hasBath) (ci := 10) (a := 0) (av := [.int x1, .int v194]) (st := []) (v := p202.1) (I' := p202.2) (L' := L) (R' := zw_RM) rfl zc_10_162 gd_X10_hasBath rfl rfl rfl (Nat.le_of_ble_eq_true rfl) (mt_hasBath (d := _) e202) ⟨Nat.le_refl _, Nat.le_refl _⟩ ?_
                intro b202
                refine zv_run 0 (pc' := 205) (lo' := [some (.ref 0), none, none, none, none]) (st' := [.int p202.1]) (I' := p202.2) (L' := L) (R' := zw_RM) rfl ?_
                obtain rfl := Option.some.inj h
                exact zv_zret (zs_at rfl) rfl b202 ⟨Nat.le_refl _, Nat.le_refl _⟩ ⟨zw_here, b202⟩
              have h := e194
              refine zv_icmp_lt (tgt := 201) (zs_at rfl) (by decide) (fun c194 => ?_) (fun c194 => ?_)
              · have h := mo_t h c194
                refine zv_run 1 (pc' := 202) (lo' := [some (.ref 0), some (.int x1), some (.int x2), some (.int x3), some (.int ((J 15 x3.toNatClampNeg) - ((J 3 12) * p134)))]) (st' := [.int 0, .int x1, .ref 0]) (I' := (zx_uI J 0 33 0)) (L' := L) (R' := zw_RM) rfl ?_
                obtain rfl := Option.some.inj h
                refine zv_fg (lo' := [some (.ref 0), none, none, none, none]) (And.intro rfl (And.intro trivial (And.intro trivial (And.intro trivial (And.intro trivial rfl))))) ?_
                exact k194 (Or.inl rfl)
              · have h := mo_f h c194
                refine zv_run 2 (pc' := 202) (lo' := [some (.ref 0), some (.int x1), some (.int x2), some (.int x3), some (.int ((J 15 x3.toNatClampNeg) - ((J 3 12) * p134)))]) (st' := [.int 1, .int x1, .ref 0]) (I' := (zx_uI J 0 33 0)) (L' := L) (R' := zw_RM) rfl ?_
                obtain rfl := Option.some.inj h
                refine zv_fg (lo' := [some (.ref 0), none, none, none, none]) (And.intro rfl (And.intro trivial (And.intro trivial (And.intro trivial (And.intro trivial rfl))))) ?_
                exact k194 (Or.inr rfl)
            · have h := mo_f h c158
              refine zv_run 10 (pc' := 178) (lo' := [some (.ref 0), some (.int x1), some (.int x2), some (.int x3), some (.int ((J 15 x3.toNatClampNeg) - ((J 3 12) * p134)))]) (st' := [.int 1]) (I' := (zx_uI (zx_uI (zx_uI (zx_uI J 0 33 0) 0 33 1) 0 32 ((J 15 x3.toNatClampNeg) - ((J 3 12) * p134))) 0 31 0)) (L' := L) (R' := zw_RM) rfl ?_
              obtain rfl := Option.some.inj h
              exact zv_zret (zs_at rfl) rfl (Or.inr rfl) ⟨Nat.le_refl _, Nat.le_refl _⟩ ⟨zw_here, (Or.inr rfl)⟩
    · have h := mo_f h c18
      refine zv_run 1 (pc' := 22) (lo' := [some (.ref 0), some (.int x1), some (.int x2), some (.int x3), none]) (st' := [.int 0]) (I' := J) (L' := L) (R' := zw_RM) rfl ?_
      obtain rfl := Option.some.inj h
      exact zv_zret (zs_at rfl) rfl (Or.inl rfl) ⟨Nat.le_refl _, Nat.le_refl _⟩ ⟨zw_here, (Or.inl rfl)⟩
def mf_chosen_49_b (n : Nat) (x1 : Int32) (x2 : Int32) (x3 : Int32) (K : Int32 → zx_I → Option (Int32 × zx_I)) (Z : Int32 → Int32 → zx_I → Option (Int32 × zx_I)) (x5 : Int32) (x6 : Int32) (J : zx_I) : Option (Int32 × zx_I) := (if (mf_many J) ≤ x6 then K x5 J else ((mf_canGo n x6 x2 x3 J).bind fun p63 => (if p63.1 = 0 then Z x5 (x6 + 1) p63.2 else (if x1 = (2 : Int32) then (if (p63.2 0 33) = 0 then (mo_g (mo_nz (p63.2 3 1)) (if ((p63.2 10 0) / (p63.2 3 1)) < (p63.2 0 8) then Z x5 (x6 + 1) p63.2 else (((if x5 = (-4 : Int32) then some ((-1 : Int32)) else (if x1 = (3 : Int32) then ((mf_of x6 (0 : Int32) p63.2).bind fun p121 => ((mf_of x5 (0 : Int32) p63.2).bind fun p128 => some ((p121 - p128)))) else (mo_g (mo_in x6 6) (mo_g (mo_in x5 6) (some (((p63.2 12 x6.toNatClampNeg) - (p63.2 12 x5.toNatClampNeg)))))))) : Option (Int32)).bind fun v105 => (if 0 ≤ v105 then Z x5 (x6 + 1) p63.2 else Z x6 (x6 + 1) p63.2)))) else (((if x5 = (-4 : Int32) then some ((-1 : Int32)) else (if x1 = (3 : Int32) then ((mf_of x6 (0 : Int32) p63.2).bind fun p121 => ((mf_of x5 (0 : Int32) p63.2).bind fun p128 => some ((p121 - p128)))) else (mo_g (mo_in x6 6) (mo_g (mo_in x5 6) (some (((p63.2 12 x6.toNatClampNeg) - (p63.2 12 x5.toNatClampNeg)))))))) : Option (Int32)).bind fun v105 => (if 0 ≤ v105 then Z x5 (x6 + 1) p63.2 else Z x6 (x6 + 1) p63.2))) else (((if x5 = (-4 : Int32) then some ((-1 : Int32)) else (if x1 = (3 : Int32) then ((mf_of x6 (0 : Int32) p63.2).bind fun p121 => ((mf_of x5 (0 : Int32) p63.2).bind fun p128 => some ((p121 - p128)))) else (mo_g (mo_in x6 6) (mo_g (mo_in x5 6) (some (((p63.2 12 x6.toNatClampNeg) - (p63.2 12 x5.toNatClampNeg)))))))) : Option (Int32)).bind fun v105 => (if 0 ≤ v105 then Z x5 (x6 + 1) p63.2 else Z x6 (x6 + 1) p63.2))))))
def mf_chosen_49 (n : Nat) (x1 : Int32) (x2 : Int32) (x3 : Int32) (K : Int32 → zx_I → Option (Int32 × zx_I)) : Nat → Int32 → Int32 → zx_I → Option (Int32 × zx_I)
  | 0 => fun _ _ _ => none
  | k + 1 => mf_chosen_49_b n x1 x2 x3 K (mf_chosen_49 n x1 x2 x3 K k)
def mf_chosen (n : Nat) (x1 : Int32) (x2 : Int32) (x3 : Int32) (x4 : Int32) (J : zx_I) : Option (Int32 × zx_I) := (if x1 = 0 then (if (mf_many J) ≤ x4 then some ((-4 : Int32), J) else (mo_g (mo_in x4 6) ((mf_canGo n (J 17 x4.toNatClampNeg) x2 x3 J).bind fun p23 => (if p23.1 = 0 then some ((-4 : Int32), p23.2) else (mo_g (mo_in x4 6) (some ((p23.2 17 x4.toNatClampNeg), p23.2))))))) else (mf_chosen_49 n x1 x2 x3 (fun x5_49 J_49 => some (x5_49, J_49)) n (-4 : Int32) (0 : Int32) J))
theorem ml_chosen_49 {n d : Nat} {x1 : Int32} {x2 : Int32} {x3 : Int32} {L : zx_L} {K : Int32 → zx_I → Option (Int32 × zx_I)} (hK : ∀ (x5 : Int32) (J : zx_I) (p : Int32 × zx_I), K x5 J = some p → zx_V mm_X10_chosen (d + 4) z0 (zw_ret (some (.int p.1)) zw_SM p.2 L zw_RM) zw_SM 172 [some (.ref 0), some (.int x1), some (.int x2), some (.int x3), none, some (.int x5), none, none] [] J L zw_RM) : ∀ (k : Nat) (x5 : Int32) (x6 : Int32) (J : zx_I) (p : Int32 × zx_I), mf_chosen_49 n x1 x2 x3 K k x5 x6 J = some p → zx_V mm_X10_chosen (d + 4) z0 (zw_ret (some (.int p.1)) zw_SM p.2 L zw_RM) zw_SM 49 [some (.ref 0), some (.int x1), some (.int x2), some (.int x3), none, some (.int x5), some (.int x6), none] [] J L zw_RM := by
  intro k
  induction k with
  | zero =>
    intro x5 x6 J p h
    exact absurd (show (none : Option (Int32 × zx_I)) = some p from h) (by intro q; cases q)
  | succ k ih =>
    intro x5 x6 J p h
    have h : mf_chosen_49_b n x1 x2 x3 K (mf_chosen_49 n x1 x2 x3 K k) x5 x6 J = some p := h
    unfold mf_chosen_49_b at h
    refine zv_run 2 (pc' := 52) (lo' := [some (.ref 0), some (.int x1), some (.int x2), some (.int x3), none, some (.int x5), some (.int x6), none]) (st' := [.ref 0, .int x6]) (I' := J) (L' := L) (R' := zw_RM) rfl ?_
    refine zv_cV (M' := mm_X10_many) (ci := 10) (a := 0) (av := []) (st := [.int x6]) (r := some (.int (mf_many J))) (I' := J) (L' := L) (R' := zw_RM) rfl zc_10_133 gd_X10_many rfl rfl rfl (Nat.le_of_ble_eq_true rfl) (mt_many (d := _) rfl) ⟨Nat.le_refl _, Nat.le_refl _⟩ ?_
    refine zv_run 0 (pc' := 55) (lo' := [some (.ref 0), some (.int x1), some (.int x2), some (.int x3), none, some (.int x5), some (.int x6), none]) (st' := [.int (mf_many J), .int x6]) (I' := J) (L' := L) (R' := zw_RM) rfl ?_
    refine zv_icmp_ge (tgt := 172) (zs_at rfl) (by decide) (fun c55 => ?_) (fun c55 => ?_)
    · have h := mo_t h c55
      refine zv_fg (lo' := [some (.ref 0), some (.int x1), some (.int x2), some (.int x3), none, some (.int x5), none, none]) (And.intro rfl (And.intro rfl (And.intro rfl (And.intro rfl (And.intro trivial (And.intro rfl (And.intro trivial (And.intro trivial rfl)))))))) ?_
      exact hK _ _ p h
    · have h := mo_f h c55
      refine zv_run 4 (pc' := 63) (lo' := [some (.ref 0), some (.int x1), some (.int x2), some (.int x3), none, some (.int x5), some (.int x6), none]) (st' := [.int x3, .int x2, .int x6, .ref 0]) (I' := J) (L' := L) (R' := zw_RM) rfl ?_
      obtain ⟨p63, e63, h⟩ := mo_b h
      refine zv_cVz (M' := mm_X10_canGo) (ci := 10) (a := 0) (av := [.int x6, .int x2, .int x3]) (st := []) (v := p63.1) (I' := p63.2) (L' := L) (R' := zw_RM) rfl zc_10_175 gd_X10_canGo rfl rfl rfl (Nat.le_of_ble_eq_true rfl) (mt_canGo (d := _) e63) ⟨Nat.le_refl _, Nat.le_refl _⟩ ?_
      intro b63
      refine zv_run 0 (pc' := 66) (lo' := [some (.ref 0), some (.int x1), some (.int x2), some (.int x3), none, some (.int x5), some (.int x6), none]) (st' := [.int p63.1]) (I' := p63.2) (L' := L) (R' := zw_RM) rfl ?_
      refine zv_if_eq (tgt := 166) (zs_at rfl) (by decide) (fun c66 => ?_) (fun c66 => ?_)
      · have h := mo_t h c66
        refine zv_run 2 (pc' := 49) (lo' := [some (.ref 0), some (.int x1), some (.int x2), some (.int x3), none, some (.int x5), some (.int (x6 + 1)), none]) (st' := []) (I' := p63.2) (L' := L) (R' := zw_RM) rfl ?_
        exact ih _ _ _ p h
      · have h := mo_f h c66
        refine zv_run 2 (pc' := 71) (lo' := [some (.ref 0), some (.int x1), some (.int x2), some (.int x3), none, some (.int x5), some (.int x6), none]) (st' := [.int 2, .int x1]) (I' := p63.2) (L' := L) (R' := zw_RM) rfl ?_
        refine zv_icmp_ne (tgt := 101) (zs_at rfl) (by decide) (fun c71 => ?_) (fun c71 => ?_)
        · have h := mo_f h c71
          refine zv_run 2 (pc' := 105) (lo' := [some (.ref 0), some (.int x1), some (.int x2), some (.int x3), none, some (.int x5), some (.int x6), none]) (st' := [.int (-4), .int x5]) (I' := p63.2) (L' := L) (R' := zw_RM) rfl ?_
          obtain ⟨v105, e105, h⟩ := mo_b h
          have k105 : zx_V mm_X10_chosen (d + 4) z0 (zw_ret (some (.int p.1)) zw_SM p.2 L zw_RM) zw_SM 150 [some (.ref 0), some (.int x1), some (.int x2), some (.int x3), none, some (.int x5), some (.int x6), none] [.int v105] p63.2 L zw_RM := by
            clear e105
            refine zv_run 2 (pc' := 154) (lo' := [some (.ref 0), some (.int x1), some (.int x2), some (.int x3), none, some (.int x5), some (.int x6), some (.int v105)]) (st' := [.int v105]) (I' := p63.2) (L' := L) (R' := zw_RM) rfl ?_
            refine zv_if_ge (tgt := 162) (zs_at rfl) (by decide) (fun c154 => ?_) (fun c154 => ?_)
            · have h := mo_t h c154
              refine zv_run 4 (pc' := 49) (lo' := [some (.ref 0), some (.int x1), some (.int x2), some (.int x3), none, some (.int x5), some (.int (x6 + 1)), some (.int v105)]) (st' := []) (I' := p63.2) (L' := L) (R' := zw_RM) rfl ?_
              refine zv_fg (lo' := [some (.ref 0), some (.int x1), some (.int x2), some (.int x3), none, some (.int x5), some (.int (x6 + 1)), none]) (And.intro rfl (And.intro rfl (And.intro rfl (And.intro rfl (And.intro trivial (And.intro rfl (And.intro rfl (And.intro trivial rfl)))))))) ?_
              exact ih _ _ _ p h
            · have h := mo_f h c154
              refine zv_run 2 (pc' := 164) (lo' := [some (.ref 0), some (.int x1), some (.int x2), some (.int x3), none, some (.int x5), some (.int x6), some (.int v105)]) (st' := [.int x6]) (I' := p63.2) (L' := L) (R' := zw_RM) rfl ?_
              refine zv_run 3 (pc' := 49) (lo' := [some (.ref 0), some (.int x1), some (.int x2), some (.int x3), none, some (.int x6), some (.int (x6 + 1)), some (.int v105)]) (st' := []) (I' := p63.2) (L' := L) (R' := zw_RM) rfl ?_
              refine zv_fg (lo' := [some (.ref 0), some (.int x1), some (.int x2), some (.int x3), none, some (.int x6), some (.int (x6 + 1)), none]) (And.intro rfl (And.intro rfl (And.intro rfl (And.intro rfl (And.intro trivial (And.intro rfl (And.intro rfl (And.intro trivial rfl)))))))) ?_
              exact ih _ _ _ p h
          have h := e105
          refine zv_icmp_ne (tgt := 112) (zs_at rfl) (by decide) (fun c105 => ?_) (fun c105 => ?_)
          · have h := mo_f h c105
            refine zv_run 2 (pc' := 114) (lo' := [some (.ref 0), some (.int x1), some (.int x2), some (.int x3), none, some (.int x5), some (.int x6), none]) (st' := [.int 3, .int x1]) (I' := p63.2) (L' := L) (R' := zw_RM) rfl ?_
            refine zv_icmp_ne (tgt := 135) (zs_at rfl) (by decide) (fun c114 => ?_) (fun c114 => ?_)
            · have h := mo_f h c114
              refine zv_run 3 (pc' := 141) (lo' := [some (.ref 0), some (.int x1), some (.int x2), some (.int x3), none, some (.int x5), some (.int x6), none]) (st' := [.int x6, .ref 12]) (I' := p63.2) (L' := L) (R' := zw_RM) rfl ?_
              obtain ⟨g141, h⟩ := mo_gs h
              refine zv_iald (zs_at rfl) rfl (mo_in_vp g141) ?_
              refine zv_run 0 (pc' := 142) (lo' := [some (.ref 0), some (.int x1), some (.int x2), some (.int x3), none, some (.int x5), some (.int x6), none]) (st' := [.int (p63.2 12 x6.toNatClampNeg)]) (I' := p63.2) (L' := L) (R' := zw_RM) rfl ?_
              refine zv_run 3 (pc' := 148) (lo' := [some (.ref 0), some (.int x1), some (.int x2), some (.int x3), none, some (.int x5), some (.int x6), none]) (st' := [.int x5, .ref 12, .int (p63.2 12 x6.toNatClampNeg)]) (I' := p63.2) (L' := L) (R' := zw_RM) rfl ?_
              obtain ⟨g148, h⟩ := mo_gs h
              refine zv_iald (zs_at rfl) rfl (mo_in_vp g148) ?_
              refine zv_run 0 (pc' := 149) (lo' := [some (.ref 0), some (.int x1), some (.int x2), some (.int x3), none, some (.int x5), some (.int x6), none]) (st' := [.int (p63.2 12 x5.toNatClampNeg), .int (p63.2 12 x6.toNatClampNeg)]) (I' := p63.2) (L' := L) (R' := zw_RM) rfl ?_
              refine zv_run 1 (pc' := 150) (lo' := [some (.ref 0), some (.int x1), some (.int x2), some (.int x3), none, some (.int x5), some (.int x6), none]) (st' := [.int ((p63.2 12 x6.toNatClampNeg) - (p63.2 12 x5.toNatClampNeg))]) (I' := p63.2) (L' := L) (R' := zw_RM) rfl ?_
              obtain rfl := Option.some.inj h
              exact k105
            · have h := mo_t h c114
              refine zv_run 3 (pc' := 121) (lo' := [some (.ref 0), some (.int x1), some (.int x2), some (.int x3), none, some (.int x5), some (.int x6), none]) (st' := [.int 0, .int x6, .ref 0]) (I' := p63.2) (L' := L) (R' := zw_RM) rfl ?_
              obtain ⟨p121, e121, h⟩ := mo_b h
              refine zv_cV (M' := mm_X10_of) (ci := 10) (a := 0) (av := [.int x6, .int 0]) (st := []) (r := some (.int p121)) (I' := p63.2) (L' := L) (R' := zw_RM) rfl zc_10_139 gd_X10_of rfl rfl rfl (Nat.le_of_ble_eq_true rfl) (mt_of (d := _) e121) ⟨Nat.le_refl _, Nat.le_refl _⟩ ?_
              refine zv_run 0 (pc' := 124) (lo' := [some (.ref 0), some (.int x1), some (.int x2), some (.int x3), none, some (.int x5), some (.int x6), none]) (st' := [.int p121]) (I' := p63.2) (L' := L) (R' := zw_RM) rfl ?_
              refine zv_run 3 (pc' := 128) (lo' := [some (.ref 0), some (.int x1), some (.int x2), some (.int x3), none, some (.int x5), some (.int x6), none]) (st' := [.int 0, .int x5, .ref 0, .int p121]) (I' := p63.2) (L' := L) (R' := zw_RM) rfl ?_
              obtain ⟨p128, e128, h⟩ := mo_b h
              refine zv_cV (M' := mm_X10_of) (ci := 10) (a := 0) (av := [.int x5, .int 0]) (st := [.int p121]) (r := some (.int p128)) (I' := p63.2) (L' := L) (R' := zw_RM) rfl zc_10_139 gd_X10_of rfl rfl rfl (Nat.le_of_ble_eq_true rfl) (mt_of (d := _) e128) ⟨Nat.le_refl _, Nat.le_refl _⟩ ?_
              refine zv_run 0 (pc' := 131) (lo' := [some (.ref 0), some (.int x1), some (.int x2), some (.int x3), none, some (.int x5), some (.int x6), none]) (st' := [.int p128, .int p121]) (I' := p63.2) (L' := L) (R' := zw_RM) rfl ?_
              refine zv_run 2 (pc' := 150) (lo' := [some (.ref 0), some (.int x1), some (.int x2), some (.int x3), none, some (.int x5), some (.int x6), none]) (st' := [.int (p121 - p128)]) (I' := p63.2) (L' := L) (R' := zw_RM) rfl ?_
              obtain rfl := Option.some.inj h
              exact k105
          · have h := mo_t h c105
            refine zv_run 2 (pc' := 150) (lo' := [some (.ref 0), some (.int x1), some (.int x2), some (.int x3), none, some (.int x5), some (.int x6), none]) (st' := [.int (-1)]) (I' := p63.2) (L' := L) (R' := zw_RM) rfl ?_
            obtain rfl := Option.some.inj h
            exact k105
        · have h := mo_t h c71
          refine zv_run 2 (pc' := 78) (lo' := [some (.ref 0), some (.int x1), some (.int x2), some (.int x3), none, some (.int x5), some (.int x6), none]) (st' := [.int (p63.2 0 33)]) (I' := p63.2) (L' := L) (R' := zw_RM) rfl ?_
          refine zv_if_ne (tgt := 101) (zs_at rfl) (by decide) (fun c78 => ?_) (fun c78 => ?_)
          · have h := mo_f h c78
            refine zv_run 2 (pc' := 105) (lo' := [some (.ref 0), some (.int x1), some (.int x2), some (.int x3), none, some (.int x5), some (.int x6), none]) (st' := [.int (-4), .int x5]) (I' := p63.2) (L' := L) (R' := zw_RM) rfl ?_
            obtain ⟨v105, e105, h⟩ := mo_b h
            have k105 : zx_V mm_X10_chosen (d + 4) z0 (zw_ret (some (.int p.1)) zw_SM p.2 L zw_RM) zw_SM 150 [some (.ref 0), some (.int x1), some (.int x2), some (.int x3), none, some (.int x5), some (.int x6), none] [.int v105] p63.2 L zw_RM := by
              clear e105
              refine zv_run 2 (pc' := 154) (lo' := [some (.ref 0), some (.int x1), some (.int x2), some (.int x3), none, some (.int x5), some (.int x6), some (.int v105)]) (st' := [.int v105]) (I' := p63.2) (L' := L) (R' := zw_RM) rfl ?_
              refine zv_if_ge (tgt := 162) (zs_at rfl) (by decide) (fun c154 => ?_) (fun c154 => ?_)
              · have h := mo_t h c154
                refine zv_run 4 (pc' := 49) (lo' := [some (.ref 0), some (.int x1), some (.int x2), some (.int x3), none, some (.int x5), some (.int (x6 + 1)), some (.int v105)]) (st' := []) (I' := p63.2) (L' := L) (R' := zw_RM) rfl ?_
                refine zv_fg (lo' := [some (.ref 0), some (.int x1), some (.int x2), some (.int x3), none, some (.int x5), some (.int (x6 + 1)), none]) (And.intro rfl (And.intro rfl (And.intro rfl (And.intro rfl (And.intro trivial (And.intro rfl (And.intro rfl (And.intro trivial rfl)))))))) ?_
                exact ih _ _ _ p h
              · have h := mo_f h c154
                refine zv_run 2 (pc' := 164) (lo' := [some (.ref 0), some (.int x1), some (.int x2), some (.int x3), none, some (.int x5), some (.int x6), some (.int v105)]) (st' := [.int x6]) (I' := p63.2) (L' := L) (R' := zw_RM) rfl ?_
                refine zv_run 3 (pc' := 49) (lo' := [some (.ref 0), some (.int x1), some (.int x2), some (.int x3), none, some (.int x6), some (.int (x6 + 1)), some (.int v105)]) (st' := []) (I' := p63.2) (L' := L) (R' := zw_RM) rfl ?_
                refine zv_fg (lo' := [some (.ref 0), some (.int x1), some (.int x2), some (.int x3), none, some (.int x6), some (.int (x6 + 1)), none]) (And.intro rfl (And.intro rfl (And.intro rfl (And.intro rfl (And.intro trivial (And.intro rfl (And.intro rfl (And.intro trivial rfl)))))))) ?_
                exact ih _ _ _ p h
            have h := e105
            refine zv_icmp_ne (tgt := 112) (zs_at rfl) (by decide) (fun c105 => ?_) (fun c105 => ?_)
            · have h := mo_f h c105
              refine zv_run 2 (pc' := 114) (lo' := [some (.ref 0), some (.int x1), some (.int x2), some (.int x3), none, some (.int x5), some (.int x6), none]) (st' := [.int 3, .int x1]) (I' := p63.2) (L' := L) (R' := zw_RM) rfl ?_
              refine zv_icmp_ne (tgt := 135) (zs_at rfl) (by decide) (fun c114 => ?_) (fun c114 => ?_)
              · have h := mo_f h c114
                refine zv_run 3 (pc' := 141) (lo' := [some (.ref 0), some (.int x1), some (.int x2), some (.int x3), none, some (.int x5), some (.int x6), none]) (st' := [.int x6, .ref 12]) (I' := p63.2) (L' := L) (R' := zw_RM) rfl ?_
                obtain ⟨g141, h⟩ := mo_gs h
                refine zv_iald (zs_at rfl) rfl (mo_in_vp g141) ?_
                refine zv_run 0 (pc' := 142) (lo' := [some (.ref 0), some (.int x1), some (.int x2), some (.int x3), none, some (.int x5), some (.int x6), none]) (st' := [.int (p63.2 12 x6.toNatClampNeg)]) (I' := p63.2) (L' := L) (R' := zw_RM) rfl ?_
                refine zv_run 3 (pc' := 148) (lo' := [some (.ref 0), some (.int x1), some (.int x2), some (.int x3), none, some (.int x5), some (.int x6), none]) (st' := [.int x5, .ref 12, .int (p63.2 12 x6.toNatClampNeg)]) (I' := p63.2) (L' := L) (R' := zw_RM) rfl ?_
                obtain ⟨g148, h⟩ := mo_gs h
                refine zv_iald (zs_at rfl) rfl (mo_in_vp g148) ?_
                refine zv_run 0 (pc' := 149) (lo' := [some (.ref 0), some (.int x1), some (.int x2), some (.int x3), none, some (.int x5), some (.int x6), none]) (st' := [.int (p63.2 12 x5.toNatClampNeg), .int (p63.2 12 x6.toNatClampNeg)]) (I' := p63.2) (L' := L) (R' := zw_RM) rfl ?_
                refine zv_run 1 (pc' := 150) (lo' := [some (.ref 0), some (.int x1), some (.int x2), some (.int x3), none, some (.int x5), some (.int x6), none]) (st' := [.int ((p63.2 12 x6.toNatClampNeg) - (p63.2 12 x5.toNatClampNeg))]) (I' := p63.2) (L' := L) (R' := zw_RM) rfl ?_
                obtain rfl := Option.some.inj h
                exact k105
              · have h := mo_t h c114
                refine zv_run 3 (pc' := 121) (lo' := [some (.ref 0), some (.int x1), some (.int x2), some (.int x3), none, some (.int x5), some (.int x6), none]) (st' := [.int 0, .int x6, .ref 0]) (I' := p63.2) (L' := L) (R' := zw_RM) rfl ?_
                obtain ⟨p121, e121, h⟩ := mo_b h
                refine zv_cV (M' := mm_X10_of) (ci := 10) (a := 0) (av := [.int x6, .int 0]) (st := []) (r := some (.int p121)) (I' := p63.2) (L' := L) (R' := zw_RM) rfl zc_10_139 gd_X10_of rfl rfl rfl (Nat.le_of_ble_eq_true rfl) (mt_of (d := _) e121) ⟨Nat.le_refl _, Nat.le_refl _⟩ ?_
                refine zv_run 0 (pc' := 124) (lo' := [some (.ref 0), some (.int x1), some (.int x2), some (.int x3), none, some (.int x5), some (.int x6), none]) (st' := [.int p121]) (I' := p63.2) (L' := L) (R' := zw_RM) rfl ?_
                refine zv_run 3 (pc' := 128) (lo' := [some (.ref 0), some (.int x1), some (.int x2), some (.int x3), none, some (.int x5), some (.int x6), none]) (st' := [.int 0, .int x5, .ref 0, .int p121]) (I' := p63.2) (L' := L) (R' := zw_RM) rfl ?_
                obtain ⟨p128, e128, h⟩ := mo_b h
                refine zv_cV (M' := mm_X10_of) (ci := 10) (a := 0) (av := [.int x5, .int 0]) (st := [.int p121]) (r := some (.int p128)) (I' := p63.2) (L' := L) (R' := zw_RM) rfl zc_10_139 gd_X10_of rfl rfl rfl (Nat.le_of_ble_eq_true rfl) (mt_of (d := _) e128) ⟨Nat.le_refl _, Nat.le_refl _⟩ ?_
                refine zv_run 0 (pc' := 131) (lo' := [some (.ref 0), some (.int x1), some (.int x2), some (.int x3), none, some (.int x5), some (.int x6), none]) (st' := [.int p128, .int p121]) (I' := p63.2) (L' := L) (R' := zw_RM) rfl ?_
                refine zv_run 2 (pc' := 150) (lo' := [some (.ref 0), some (.int x1), some (.int x2), some (.int x3), none, some (.int x5), some (.int x6), none]) (st' := [.int (p121 - p128)]) (I' := p63.2) (L' := L) (R' := zw_RM) rfl ?_
                obtain rfl := Option.some.inj h
                exact k105
            · have h := mo_t h c105
              refine zv_run 2 (pc' := 150) (lo' := [some (.ref 0), some (.int x1), some (.int x2), some (.int x3), none, some (.int x5), some (.int x6), none]) (st' := [.int (-1)]) (I' := p63.2) (L' := L) (R' := zw_RM) rfl ?_
              obtain rfl := Option.some.inj h
              exact k105
          · have h := mo_t h c78
            refine zv_run 8 (pc' := 93) (lo' := [some (.ref 0), some (.int x1), some (.int x2), some (.int x3), none, some (.int x5), some (.int x6), none]) (st' := [.int (p63.2 3 1), .int (p63.2 10 0)]) (I' := p63.2) (L' := L) (R' := zw_RM) rfl ?_
            obtain ⟨g93, h⟩ := mo_gs h
            refine zv_idiv (zs_at rfl) (mo_nz_ne g93) ?_
            refine zv_run 2 (pc' := 98) (lo' := [some (.ref 0), some (.int x1), some (.int x2), some (.int x3), none, some (.int x5), some (.int x6), none]) (st' := [.int (p63.2 0 8), .int ((p63.2 10 0) / (p63.2 3 1))]) (I' := p63.2) (L' := L) (R' := zw_RM) rfl ?_
            refine zv_icmp_lt (tgt := 166) (zs_at rfl) (by decide) (fun c98 => ?_) (fun c98 => ?_)
            · have h := mo_t h c98
              refine zv_run 2 (pc' := 49) (lo' := [some (.ref 0), some (.int x1), some (.int x2), some (.int x3), none, some (.int x5), some (.int (x6 + 1)), none]) (st' := []) (I' := p63.2) (L' := L) (R' := zw_RM) rfl ?_
              exact ih _ _ _ p h
            · have h := mo_f h c98
              refine zv_run 2 (pc' := 105) (lo' := [some (.ref 0), some (.int x1), some (.int x2), some (.int x3), none, some (.int x5), some (.int x6), none]) (st' := [.int (-4), .int x5]) (I' := p63.2) (L' := L) (R' := zw_RM) rfl ?_
              obtain ⟨v105, e105, h⟩ := mo_b h
              have k105 : zx_V mm_X10_chosen (d + 4) z0 (zw_ret (some (.int p.1)) zw_SM p.2 L zw_RM) zw_SM 150 [some (.ref 0), some (.int x1), some (.int x2), some (.int x3), none, some (.int x5), some (.int x6), none] [.int v105] p63.2 L zw_RM := by
                clear e105
                refine zv_run 2 (pc' := 154) (lo' := [some (.ref 0), some (.int x1), some (.int x2), some (.int x3), none, some (.int x5), some (.int x6), some (.int v105)]) (st' := [.int v105]) (I' := p63.2) (L' := L) (R' := zw_RM) rfl ?_
                refine zv_if_ge (tgt := 162) (zs_at rfl) (by decide) (fun c154 => ?_) (fun c154 => ?_)
                · have h := mo_t h c154
                  refine zv_run 4 (pc' := 49) (lo' := [some (.ref 0), some (.int x1), some (.int x2), some (.int x3), none, some (.int x5), some (.int (x6 + 1)), some (.int v105)]) (st' := []) (I' := p63.2) (L' := L) (R' := zw_RM) rfl ?_
                  refine zv_fg (lo' := [some (.ref 0), some (.int x1), some (.int x2), some (.int x3), none, some (.int x5), some (.int (x6 + 1)), none]) (And.intro rfl (And.intro rfl (And.intro rfl (And.intro rfl (And.intro trivial (And.intro rfl (And.intro rfl (And.intro trivial rfl)))))))) ?_
                  exact ih _ _ _ p h
                · have h := mo_f h c154
                  refine zv_run 2 (pc' := 164) (lo' := [some (.ref 0), some (.int x1), some (.int x2), some (.int x3), none, some (.int x5), some (.int x6), some (.int v105)]) (st' := [.int x6]) (I' := p63.2) (L' := L) (R' := zw_RM) rfl ?_
                  refine zv_run 3 (pc' := 49) (lo' := [some (.ref 0), some (.int x1), some (.int x2), some (.int x3), none, some (.int x6), some (.int (x6 + 1)), some (.int v105)]) (st' := []) (I' := p63.2) (L' := L) (R' := zw_RM) rfl ?_
                  refine zv_fg (lo' := [some (.ref 0), some (.int x1), some (.int x2), some (.int x3), none, some (.int x6), some (.int (x6 + 1)), none]) (And.intro rfl (And.intro rfl (And.intro rfl (And.intro rfl (And.intro trivial (And.intro rfl (And.intro rfl (And.intro trivial rfl)))))))) ?_
                  exact ih _ _ _ p h
              have h := e105
              refine zv_icmp_ne (tgt := 112) (zs_at rfl) (by decide) (fun c105 => ?_) (fun c105 => ?_)
              · have h := mo_f h c105
                refine zv_run 2 (pc' := 114) (lo' := [some (.ref 0), some (.int x1), some (.int x2), some (.int x3), none, some (.int x5), some (.int x6), none]) (st' := [.int 3, .int x1]) (I' := p63.2) (L' := L) (R' := zw_RM) rfl ?_
                refine zv_icmp_ne (tgt := 135) (zs_at rfl) (by decide) (fun c114 => ?_) (fun c114 => ?_)
                · have h := mo_f h c114
                  refine zv_run 3 (pc' := 141) (lo' := [some (.ref 0), some (.int x1), some (.int x2), some (.int x3), none, some (.int x5), some (.int x6), none]) (st' := [.int x6, .ref 12]) (I' := p63.2) (L' := L) (R' := zw_RM) rfl ?_
                  obtain ⟨g141, h⟩ := mo_gs h
                  refine zv_iald (zs_at rfl) rfl (mo_in_vp g141) ?_
                  refine zv_run 0 (pc' := 142) (lo' := [some (.ref 0), some (.int x1), some (.int x2), some (.int x3), none, some (.int x5), some (.int x6), none]) (st' := [.int (p63.2 12 x6.toNatClampNeg)]) (I' := p63.2) (L' := L) (R' := zw_RM) rfl ?_
                  refine zv_run 3 (pc' := 148) (lo' := [some (.ref 0), some (.int x1), some (.int x2), some (.int x3), none, some (.int x5), some (.int x6), none]) (st' := [.int x5, .ref 12, .int (p63.2 12 x6.toNatClampNeg)]) (I' := p63.2) (L' := L) (R' := zw_RM) rfl ?_
                  obtain ⟨g148, h⟩ := mo_gs h
                  refine zv_iald (zs_at rfl) rfl (mo_in_vp g148) ?_
                  refine zv_run 0 (pc' := 149) (lo' := [some (.ref 0), some (.int x1), some (.int x2), some (.int x3), none, some (.int x5), some (.int x6), none]) (st' := [.int (p63.2 12 x5.toNatClampNeg), .int (p63.2 12 x6.toNatClampNeg)]) (I' := p63.2) (L' := L) (R' := zw_RM) rfl ?_
                  refine zv_run 1 (pc' := 150) (lo' := [some (.ref 0), some (.int x1), some (.int x2), some (.int x3), none, some (.int x5), some (.int x6), none]) (st' := [.int ((p63.2 12 x6.toNatClampNeg) - (p63.2 12 x5.toNatClampNeg))]) (I' := p63.2) (L' := L) (R' := zw_RM) rfl ?_
                  obtain rfl := Option.some.inj h
                  exact k105
                · have h := mo_t h c114
                  refine zv_run 3 (pc' := 121) (lo' := [some (.ref 0), some (.int x1), some (.int x2), some (.int x3), none, some (.int x5), some (.int x6), none]) (st' := [.int 0, .int x6, .ref 0]) (I' := p63.2) (L' := L) (R' := zw_RM) rfl ?_
                  obtain ⟨p121, e121, h⟩ := mo_b h
                  refine zv_cV (M' := mm_X10_of) (ci := 10) (a := 0) (av := [.int x6, .int 0]) (st := []) (r := some (.int p121)) (I' := p63.2) (L' := L) (R' := zw_RM) rfl zc_10_139 gd_X10_of rfl rfl rfl (Nat.le_of_ble_eq_true rfl) (mt_of (d := _) e121) ⟨Nat.le_refl _, Nat.le_refl _⟩ ?_
                  refine zv_run 0 (pc' := 124) (lo' := [some (.ref 0), some (.int x1), some (.int x2), some (.int x3), none, some (.int x5), some (.int x6), none]) (st' := [.int p121]) (I' := p63.2) (L' := L) (R' := zw_RM) rfl ?_
                  refine zv_run 3 (pc' := 128) (lo' := [some (.ref 0), some (.int x1), some (.int x2), some (.int x3), none, some (.int x5), some (.int x6), none]) (st' := [.int 0, .int x5, .ref 0, .int p121]) (I' := p63.2) (L' := L) (R' := zw_RM) rfl ?_
                  obtain ⟨p128, e128, h⟩ := mo_b h
                  refine zv_cV (M' := mm_X10_of) (ci := 10) (a := 0) (av := [.int x5, .int 0]) (st := [.int p121]) (r := some (.int p128)) (I' := p63.2) (L' := L) (R' := zw_RM) rfl zc_10_139 gd_X10_of rfl rfl rfl (Nat.le_of_ble_eq_true rfl) (mt_of (d := _) e128) ⟨Nat.le_refl _, Nat.le_refl _⟩ ?_
                  refine zv_run 0 (pc' := 131) (lo' := [some (.ref 0), some (.int x1), some (.int x2), some (.int x3), none, some (.int x5), some (.int x6), none]) (st' := [.int p128, .int p121]) (I' := p63.2) (L' := L) (R' := zw_RM) rfl ?_
                  refine zv_run 2 (pc' := 150) (lo' := [some (.ref 0), some (.int x1), some (.int x2), some (.int x3), none, some (.int x5), some (.int x6), none]) (st' := [.int (p121 - p128)]) (I' := p63.2) (L' := L) (R' := zw_RM) rfl ?_
                  obtain rfl := Option.some.inj h
                  exact k105
              · have h := mo_t h c105
                refine zv_run 2 (pc' := 150) (lo' := [some (.ref 0), some (.int x1), some (.int x2), some (.int x3), none, some (.int x5), some (.int x6), none]) (st' := [.int (-1)]) (I' := p63.2) (L' := L) (R' := zw_RM) rfl ?_
                obtain rfl := Option.some.inj h
                exact k105
theorem mt_chosen {d n : Nat} {x1 : Int32} {x2 : Int32} {x3 : Int32} {x4 : Int32} {J : zx_I} {L : zx_L} {p : Int32 × zx_I} (h : mf_chosen n x1 x2 x3 x4 J = some p) : zx_M0 mm_X10_chosen (d + 4) 0 0 [.ref 0, .int x1, .int x2, .int x3, .int x4] zw_SM J L zw_RM (zw_ret (some (.int p.1)) zw_SM p.2 L zw_RM) := by
  unfold mf_chosen at h
  refine zv_entry gd_X10_chosen (Nat.le_of_ble_eq_true rfl) ?_
  refine zv_run 1 (pc' := 1) (lo' := [some (.ref 0), some (.int x1), some (.int x2), some (.int x3), some (.int x4), none, none, none]) (st' := [.int x1]) (I' := J) (L' := L) (R' := zw_RM) rfl ?_
  refine zv_if_ne (tgt := 42) (zs_at rfl) (by decide) (fun c1 => ?_) (fun c1 => ?_)
  · have h := mo_f h c1
    refine zv_run 4 (pc' := 49) (lo' := [some (.ref 0), some (.int x1), some (.int x2), some (.int x3), some (.int x4), some (.int (-4)), some (.int 0), none]) (st' := []) (I' := J) (L' := L) (R' := zw_RM) rfl ?_
    refine zv_fg (lo' := [some (.ref 0), some (.int x1), some (.int x2), some (.int x3), none, some (.int (-4)), some (.int 0), none]) (And.intro rfl (And.intro rfl (And.intro rfl (And.intro rfl (And.intro trivial (And.intro rfl (And.intro rfl (And.intro trivial rfl)))))))) ?_
    refine ml_chosen_49 (fun x5_49 J_49 p h => ?_) n _ _ _ p h
    refine zv_run 1 (pc' := 174) (lo' := [some (.ref 0), some (.int x1), some (.int x2), some (.int x3), none, some (.int x5_49), none, none]) (st' := [.int x5_49]) (I' := J_49) (L' := L) (R' := zw_RM) rfl ?_
    obtain rfl := Option.some.inj h
    exact zv_iret (zs_at rfl) rfl ⟨Nat.le_refl _, Nat.le_refl _⟩ zw_here
  · have h := mo_t h c1
    refine zv_run 2 (pc' := 7) (lo' := [some (.ref 0), some (.int x1), some (.int x2), some (.int x3), some (.int x4), none, none, none]) (st' := [.ref 0, .int x4]) (I' := J) (L' := L) (R' := zw_RM) rfl ?_
    refine zv_cV (M' := mm_X10_many) (ci := 10) (a := 0) (av := []) (st := [.int x4]) (r := some (.int (mf_many J))) (I' := J) (L' := L) (R' := zw_RM) rfl zc_10_133 gd_X10_many rfl rfl rfl (Nat.le_of_ble_eq_true rfl) (mt_many (d := _) rfl) ⟨Nat.le_refl _, Nat.le_refl _⟩ ?_
    refine zv_run 0 (pc' := 10) (lo' := [some (.ref 0), some (.int x1), some (.int x2), some (.int x3), some (.int x4), none, none, none]) (st' := [.int (mf_many J), .int x4]) (I' := J) (L' := L) (R' := zw_RM) rfl ?_
    refine zv_icmp_ge (tgt := 39) (zs_at rfl) (by decide) (fun c10 => ?_) (fun c10 => ?_)
    · have h := mo_t h c10
      refine zv_run 1 (pc' := 41) (lo' := [some (.ref 0), some (.int x1), some (.int x2), some (.int x3), some (.int x4), none, none, none]) (st' := [.int (-4)]) (I' := J) (L' := L) (R' := zw_RM) rfl ?_
      obtain rfl := Option.some.inj h
      exact zv_iret (zs_at rfl) rfl ⟨Nat.le_refl _, Nat.le_refl _⟩ zw_here
    · have h := mo_f h c10
      refine zv_run 4 (pc' := 20) (lo' := [some (.ref 0), some (.int x1), some (.int x2), some (.int x3), some (.int x4), none, none, none]) (st' := [.int x4, .ref 17, .ref 0]) (I' := J) (L' := L) (R' := zw_RM) rfl ?_
      obtain ⟨g20, h⟩ := mo_gs h
      refine zv_iald (zs_at rfl) rfl (mo_in_vp g20) ?_
      refine zv_run 0 (pc' := 21) (lo' := [some (.ref 0), some (.int x1), some (.int x2), some (.int x3), some (.int x4), none, none, none]) (st' := [.int (J 17 x4.toNatClampNeg), .ref 0]) (I' := J) (L' := L) (R' := zw_RM) rfl ?_
      refine zv_run 2 (pc' := 23) (lo' := [some (.ref 0), some (.int x1), some (.int x2), some (.int x3), some (.int x4), none, none, none]) (st' := [.int x3, .int x2, .int (J 17 x4.toNatClampNeg), .ref 0]) (I' := J) (L' := L) (R' := zw_RM) rfl ?_
      obtain ⟨p23, e23, h⟩ := mo_b h
      refine zv_cVz (M' := mm_X10_canGo) (ci := 10) (a := 0) (av := [.int (J 17 x4.toNatClampNeg), .int x2, .int x3]) (st := []) (v := p23.1) (I' := p23.2) (L' := L) (R' := zw_RM) rfl zc_10_175 gd_X10_canGo rfl rfl rfl (Nat.le_of_ble_eq_true rfl) (mt_canGo (d := _) e23) ⟨Nat.le_refl _, Nat.le_refl _⟩ ?_
      intro b23
      refine zv_run 0 (pc' := 26) (lo' := [some (.ref 0), some (.int x1), some (.int x2), some (.int x3), some (.int x4), none, none, none]) (st' := [.int p23.1]) (I' := p23.2) (L' := L) (R' := zw_RM) rfl ?_
      refine zv_if_eq (tgt := 39) (zs_at rfl) (by decide) (fun c26 => ?_) (fun c26 => ?_)
      · have h := mo_t h c26
        refine zv_run 1 (pc' := 41) (lo' := [some (.ref 0), some (.int x1), some (.int x2), some (.int x3), some (.int x4), none, none, none]) (st' := [.int (-4)]) (I' := p23.2) (L' := L) (R' := zw_RM) rfl ?_
        obtain rfl := Option.some.inj h
        exact zv_iret (zs_at rfl) rfl ⟨Nat.le_refl _, Nat.le_refl _⟩ zw_here
      · have h := mo_f h c26
        refine zv_run 3 (pc' := 35) (lo' := [some (.ref 0), some (.int x1), some (.int x2), some (.int x3), some (.int x4), none, none, none]) (st' := [.int x4, .ref 17]) (I' := p23.2) (L' := L) (R' := zw_RM) rfl ?_
        obtain ⟨g35, h⟩ := mo_gs h
        refine zv_iald (zs_at rfl) rfl (mo_in_vp g35) ?_
        refine zv_run 0 (pc' := 36) (lo' := [some (.ref 0), some (.int x1), some (.int x2), some (.int x3), some (.int x4), none, none, none]) (st' := [.int (p23.2 17 x4.toNatClampNeg)]) (I' := p23.2) (L' := L) (R' := zw_RM) rfl ?_
        refine zv_run 1 (pc' := 41) (lo' := [some (.ref 0), some (.int x1), some (.int x2), some (.int x3), some (.int x4), none, none, none]) (st' := [.int (p23.2 17 x4.toNatClampNeg)]) (I' := p23.2) (L' := L) (R' := zw_RM) rfl ?_
        obtain rfl := Option.some.inj h
        exact zv_iret (zs_at rfl) rfl ⟨Nat.le_refl _, Nat.le_refl _⟩ zw_here
def mf_warm_62_b (n : Nat) (x1 : Int32) (x2 : Int32) (K : zx_I → Option (zx_I)) (Z : Int32 → zx_I → Option (zx_I)) (x3 : Int32) (J : zx_I) : Option (zx_I) := (if x3 ≤ 0 then K J else (mo_g (mo_in x3 6) (mo_g (mo_in (x3 - 1) 6) (if (J 10 x3.toNatClampNeg) ≤ (J 10 ((x3 - 1).toNatClampNeg)) then Z (x3 + (-1)) J else (mo_g (mo_in x3 6) (mo_g (mo_in (x3 - 1) 6) (mo_g (mo_in x3 6) (mo_g (mo_in (x3 - 1) 6) (Z (x3 + (-1)) (zx_uI (zx_uI J 10 x3.toNatClampNeg (((J 10 x3.toNatClampNeg) + (J 10 ((x3 - 1).toNatClampNeg))) / 2)) 10 ((x3 - 1).toNatClampNeg) (((J 10 x3.toNatClampNeg) + (J 10 ((x3 - 1).toNatClampNeg))) - (((J 10 x3.toNatClampNeg) + (J 10 ((x3 - 1).toNatClampNeg))) / 2))))))))))))
def mf_warm_62 (n : Nat) (x1 : Int32) (x2 : Int32) (K : zx_I → Option (zx_I)) : Nat → Int32 → zx_I → Option (zx_I)
  | 0 => fun _ _ => none
  | k + 1 => mf_warm_62_b n x1 x2 K (mf_warm_62 n x1 x2 K k)
def mf_warm_133_b (n : Nat) (x1 : Int32) (x2 : Int32) (K : zx_I → Option (zx_I)) (Z : Int32 → zx_I → Option (zx_I)) (x3 : Int32) (J : zx_I) : Option (zx_I) := (if x1 ≤ x3 then K J else (mo_g (mo_in x3 6) (if (J 10 x3.toNatClampNeg) ≤ x2 then Z (x3 + 1) J else (mo_g (mo_in x3 6) (((if x2 ≤ ((J 10 x3.toNatClampNeg) - (J 3 4)) then (mo_g (mo_in x3 6) (some (((J 10 x3.toNatClampNeg) - (J 3 4))))) else some (x2)) : Option (Int32)).bind fun v167 => (mo_g (mo_in x3 6) (Z (x3 + 1) (zx_uI J 10 x3.toNatClampNeg v167))))))))
def mf_warm_133 (n : Nat) (x1 : Int32) (x2 : Int32) (K : zx_I → Option (zx_I)) : Nat → Int32 → zx_I → Option (zx_I)
  | 0 => fun _ _ => none
  | k + 1 => mf_warm_133_b n x1 x2 K (mf_warm_133 n x1 x2 K k)
def mf_warm (n : Nat) (J : zx_I) : Option (zx_I) := (mo_g (mo_in ((J 3 0) - 1) 6) (((if (J 0 24) = 0 then some ((0 : Int32)) else (mo_g (mo_in (5 + (2 * ((J 0 24) - 1))) 65) (some ((J 3 ((5 + (2 * ((J 0 24) - 1))).toNatClampNeg)))))) : Option (Int32)).bind fun v34 => (mo_g (mo_in ((J 3 0) - 1) 6) (mf_warm_62 n (J 3 0) ((J 3 1) * (J 3 2)) (fun J_62 => (mf_warm_133 n (J 3 0) ((J 3 1) * (J 3 2)) (fun J_133 => (if (J_133 0 24) ≤ 0 then some (J_133) else (if ((J_133 0 25) - 1) = 0 then (((if ((J_133 0 24) - 1) = 0 then some ((0 : Int32)) else (mo_g (mo_in ((5 + (2 * (((J_133 0 24) - 1) - 1))) + 1) 65) (some ((J_133 3 (((5 + (2 * (((J_133 0 24) - 1) - 1))) + 1).toNatClampNeg)))))) : Option (Int32)).bind fun v233 => some ((zx_uI (zx_uI (zx_uI J_133 0 25 ((J_133 0 25) - 1)) 0 24 ((J_133 0 24) - 1)) 0 25 v233))) else some ((zx_uI J_133 0 25 ((J_133 0 25) - 1)))))) n (0 : Int32) J_62)) n ((J 3 0) - 1) (zx_uI J 10 (((J 3 0) - 1).toNatClampNeg) ((J 10 (((J 3 0) - 1).toNatClampNeg)) + v34))))))
theorem ml_warm_62 {n d : Nat} {x1 : Int32} {x2 : Int32} {L : zx_L} {K : zx_I → Option (zx_I)} (hK : ∀ (J : zx_I) (p : zx_I), K J = some p → zx_V mm_X10_warm (d + 0) z0 (zw_ret (none) zw_SM p L zw_RM) zw_SM 131 [some (.ref 0), some (.int x1), some (.int x2), none, none] [] J L zw_RM) : ∀ (k : Nat) (x3 : Int32) (J : zx_I) (p : zx_I), mf_warm_62 n x1 x2 K k x3 J = some p → zx_V mm_X10_warm (d + 0) z0 (zw_ret (none) zw_SM p L zw_RM) zw_SM 62 [some (.ref 0), some (.int x1), some (.int x2), some (.int x3), none] [] J L zw_RM := by
  intro k
  induction k with
  | zero =>
    intro x3 J p h
    exact absurd (show (none : Option (zx_I)) = some p from h) (by intro q; cases q)
  | succ k ih =>
    intro x3 J p h
    have h : mf_warm_62_b n x1 x2 K (mf_warm_62 n x1 x2 K k) x3 J = some p := h
    unfold mf_warm_62_b at h
    refine zv_run 1 (pc' := 63) (lo' := [some (.ref 0), some (.int x1), some (.int x2), some (.int x3), none]) (st' := [.int x3]) (I' := J) (L' := L) (R' := zw_RM) rfl ?_
    refine zv_if_le (tgt := 131) (zs_at rfl) (by decide) (fun c63 => ?_) (fun c63 => ?_)
    · have h := mo_t h c63
      refine zv_fg (lo' := [some (.ref 0), some (.int x1), some (.int x2), none, none]) (And.intro rfl (And.intro rfl (And.intro rfl (And.intro trivial (And.intro trivial rfl))))) ?_
      exact hK _ p h
    · have h := mo_f h c63
      refine zv_run 3 (pc' := 71) (lo' := [some (.ref 0), some (.int x1), some (.int x2), some (.int x3), none]) (st' := [.int x3, .ref 10]) (I' := J) (L' := L) (R' := zw_RM) rfl ?_
      obtain ⟨g71, h⟩ := mo_gs h
      refine zv_iald (zs_at rfl) rfl (mo_in_vp g71) ?_
      refine zv_run 0 (pc' := 72) (lo' := [some (.ref 0), some (.int x1), some (.int x2), some (.int x3), none]) (st' := [.int (J 10 x3.toNatClampNeg)]) (I' := J) (L' := L) (R' := zw_RM) rfl ?_
      refine zv_run 5 (pc' := 79) (lo' := [some (.ref 0), some (.int x1), some (.int x2), some (.int x3), none]) (st' := [.int (x3 - 1), .ref 10, .int (J 10 x3.toNatClampNeg)]) (I' := J) (L' := L) (R' := zw_RM) rfl ?_
      obtain ⟨g79, h⟩ := mo_gs h
      refine zv_iald (zs_at rfl) rfl (mo_in_vp g79) ?_
      refine zv_run 0 (pc' := 80) (lo' := [some (.ref 0), some (.int x1), some (.int x2), some (.int x3), none]) (st' := [.int (J 10 ((x3 - 1).toNatClampNeg)), .int (J 10 x3.toNatClampNeg)]) (I' := J) (L' := L) (R' := zw_RM) rfl ?_
      refine zv_icmp_le (tgt := 125) (zs_at rfl) (by decide) (fun c80 => ?_) (fun c80 => ?_)
      · have h := mo_t h c80
        refine zv_run 2 (pc' := 62) (lo' := [some (.ref 0), some (.int x1), some (.int x2), some (.int (x3 + (-1))), none]) (st' := []) (I' := J) (L' := L) (R' := zw_RM) rfl ?_
        exact ih _ _ p h
      · have h := mo_f h c80
        refine zv_run 3 (pc' := 88) (lo' := [some (.ref 0), some (.int x1), some (.int x2), some (.int x3), none]) (st' := [.int x3, .ref 10]) (I' := J) (L' := L) (R' := zw_RM) rfl ?_
        obtain ⟨g88, h⟩ := mo_gs h
        refine zv_iald (zs_at rfl) rfl (mo_in_vp g88) ?_
        refine zv_run 0 (pc' := 89) (lo' := [some (.ref 0), some (.int x1), some (.int x2), some (.int x3), none]) (st' := [.int (J 10 x3.toNatClampNeg)]) (I' := J) (L' := L) (R' := zw_RM) rfl ?_
        refine zv_run 5 (pc' := 96) (lo' := [some (.ref 0), some (.int x1), some (.int x2), some (.int x3), none]) (st' := [.int (x3 - 1), .ref 10, .int (J 10 x3.toNatClampNeg)]) (I' := J) (L' := L) (R' := zw_RM) rfl ?_
        obtain ⟨g96, h⟩ := mo_gs h
        refine zv_iald (zs_at rfl) rfl (mo_in_vp g96) ?_
        refine zv_run 0 (pc' := 97) (lo' := [some (.ref 0), some (.int x1), some (.int x2), some (.int x3), none]) (st' := [.int (J 10 ((x3 - 1).toNatClampNeg)), .int (J 10 x3.toNatClampNeg)]) (I' := J) (L' := L) (R' := zw_RM) rfl ?_
        refine zv_run 8 (pc' := 109) (lo' := [some (.ref 0), some (.int x1), some (.int x2), some (.int x3), some (.int ((J 10 x3.toNatClampNeg) + (J 10 ((x3 - 1).toNatClampNeg))))]) (st' := [.int (((J 10 x3.toNatClampNeg) + (J 10 ((x3 - 1).toNatClampNeg))) / 2), .int x3, .ref 10]) (I' := J) (L' := L) (R' := zw_RM) rfl ?_
        obtain ⟨g109, h⟩ := mo_gs h
        refine zv_iast (zs_at rfl) rfl (mo_in_vp g109) ?_
        refine zv_run 10 (pc' := 124) (lo' := [some (.ref 0), some (.int x1), some (.int x2), some (.int x3), some (.int ((J 10 x3.toNatClampNeg) + (J 10 ((x3 - 1).toNatClampNeg))))]) (st' := [.int (((J 10 x3.toNatClampNeg) + (J 10 ((x3 - 1).toNatClampNeg))) - (((J 10 x3.toNatClampNeg) + (J 10 ((x3 - 1).toNatClampNeg))) / 2)), .int (x3 - 1), .ref 10]) (I' := (zx_uI J 10 x3.toNatClampNeg (((J 10 x3.toNatClampNeg) + (J 10 ((x3 - 1).toNatClampNeg))) / 2))) (L' := L) (R' := zw_RM) rfl ?_
        obtain ⟨g124, h⟩ := mo_gs h
        refine zv_iast (zs_at rfl) rfl (mo_in_vp g124) ?_
        refine zv_run 2 (pc' := 62) (lo' := [some (.ref 0), some (.int x1), some (.int x2), some (.int (x3 + (-1))), some (.int ((J 10 x3.toNatClampNeg) + (J 10 ((x3 - 1).toNatClampNeg))))]) (st' := []) (I' := (zx_uI (zx_uI J 10 x3.toNatClampNeg (((J 10 x3.toNatClampNeg) + (J 10 ((x3 - 1).toNatClampNeg))) / 2)) 10 ((x3 - 1).toNatClampNeg) (((J 10 x3.toNatClampNeg) + (J 10 ((x3 - 1).toNatClampNeg))) - (((J 10 x3.toNatClampNeg) + (J 10 ((x3 - 1).toNatClampNeg))) / 2)))) (L' := L) (R' := zw_RM) rfl ?_
        refine zv_fg (lo' := [some (.ref 0), some (.int x1), some (.int x2), some (.int (x3 + (-1))), none]) (And.intro rfl (And.intro rfl (And.intro rfl (And.intro rfl (And.intro trivial rfl))))) ?_
        exact ih _ _ p h
theorem ml_warm_133 {n d : Nat} {x1 : Int32} {x2 : Int32} {L : zx_L} {K : zx_I → Option (zx_I)} (hK : ∀ (J : zx_I) (p : zx_I), K J = some p → zx_V mm_X10_warm (d + 0) z0 (zw_ret (none) zw_SM p L zw_RM) zw_SM 194 [some (.ref 0), some (.int x1), some (.int x2), none, none] [] J L zw_RM) : ∀ (k : Nat) (x3 : Int32) (J : zx_I) (p : zx_I), mf_warm_133 n x1 x2 K k x3 J = some p → zx_V mm_X10_warm (d + 0) z0 (zw_ret (none) zw_SM p L zw_RM) zw_SM 133 [some (.ref 0), some (.int x1), some (.int x2), some (.int x3), none] [] J L zw_RM := by
  intro k
  induction k with
  | zero =>
    intro x3 J p h
    exact absurd (show (none : Option (zx_I)) = some p from h) (by intro q; cases q)
  | succ k ih =>
    intro x3 J p h
    have h : mf_warm_133_b n x1 x2 K (mf_warm_133 n x1 x2 K k) x3 J = some p := h
    unfold mf_warm_133_b at h
    refine zv_run 2 (pc' := 135) (lo' := [some (.ref 0), some (.int x1), some (.int x2), some (.int x3), none]) (st' := [.int x1, .int x3]) (I' := J) (L' := L) (R' := zw_RM) rfl ?_
    refine zv_icmp_ge (tgt := 194) (zs_at rfl) (by decide) (fun c135 => ?_) (fun c135 => ?_)
    · have h := mo_t h c135
      refine zv_fg (lo' := [some (.ref 0), some (.int x1), some (.int x2), none, none]) (And.intro rfl (And.intro rfl (And.intro rfl (And.intro trivial (And.intro trivial rfl))))) ?_
      exact hK _ p h
    · have h := mo_f h c135
      refine zv_run 3 (pc' := 143) (lo' := [some (.ref 0), some (.int x1), some (.int x2), some (.int x3), none]) (st' := [.int x3, .ref 10]) (I' := J) (L' := L) (R' := zw_RM) rfl ?_
      obtain ⟨g143, h⟩ := mo_gs h
      refine zv_iald (zs_at rfl) rfl (mo_in_vp g143) ?_
      refine zv_run 0 (pc' := 144) (lo' := [some (.ref 0), some (.int x1), some (.int x2), some (.int x3), none]) (st' := [.int (J 10 x3.toNatClampNeg)]) (I' := J) (L' := L) (R' := zw_RM) rfl ?_
      refine zv_run 1 (pc' := 145) (lo' := [some (.ref 0), some (.int x1), some (.int x2), some (.int x3), none]) (st' := [.int x2, .int (J 10 x3.toNatClampNeg)]) (I' := J) (L' := L) (R' := zw_RM) rfl ?_
      refine zv_icmp_le (tgt := 188) (zs_at rfl) (by decide) (fun c145 => ?_) (fun c145 => ?_)
      · have h := mo_t h c145
        refine zv_run 2 (pc' := 133) (lo' := [some (.ref 0), some (.int x1), some (.int x2), some (.int (x3 + 1)), none]) (st' := []) (I' := J) (L' := L) (R' := zw_RM) rfl ?_
        exact ih _ _ p h
      · have h := mo_f h c145
        refine zv_run 6 (pc' := 158) (lo' := [some (.ref 0), some (.int x1), some (.int x2), some (.int x3), none]) (st' := [.int x3, .ref 10, .int x3, .ref 10]) (I' := J) (L' := L) (R' := zw_RM) rfl ?_
        obtain ⟨g158, h⟩ := mo_gs h
        refine zv_iald (zs_at rfl) rfl (mo_in_vp g158) ?_
        refine zv_run 0 (pc' := 159) (lo' := [some (.ref 0), some (.int x1), some (.int x2), some (.int x3), none]) (st' := [.int (J 10 x3.toNatClampNeg), .int x3, .ref 10]) (I' := J) (L' := L) (R' := zw_RM) rfl ?_
        refine zv_run 6 (pc' := 167) (lo' := [some (.ref 0), some (.int x1), some (.int x2), some (.int x3), none]) (st' := [.int x2, .int ((J 10 x3.toNatClampNeg) - (J 3 4)), .int x3, .ref 10]) (I' := J) (L' := L) (R' := zw_RM) rfl ?_
        obtain ⟨v167, e167, h⟩ := mo_b h
        have k167 : zx_V mm_X10_warm (d + 0) z0 (zw_ret (none) zw_SM p L zw_RM) zw_SM 187 [some (.ref 0), some (.int x1), some (.int x2), some (.int x3), none] [.int v167, .int x3, .ref 10] J L zw_RM := by
          clear e167
          obtain ⟨g187, h⟩ := mo_gs h
          refine zv_iast (zs_at rfl) rfl (mo_in_vp g187) ?_
          refine zv_run 2 (pc' := 133) (lo' := [some (.ref 0), some (.int x1), some (.int x2), some (.int (x3 + 1)), none]) (st' := []) (I' := (zx_uI J 10 x3.toNatClampNeg v167)) (L' := L) (R' := zw_RM) rfl ?_
          exact ih _ _ p h
        have h := e167
        refine zv_icmp_ge (tgt := 174) (zs_at rfl) (by decide) (fun c167 => ?_) (fun c167 => ?_)
        · have h := mo_t h c167
          refine zv_run 3 (pc' := 179) (lo' := [some (.ref 0), some (.int x1), some (.int x2), some (.int x3), none]) (st' := [.int x3, .ref 10, .int x3, .ref 10]) (I' := J) (L' := L) (R' := zw_RM) rfl ?_
          obtain ⟨g179, h⟩ := mo_gs h
          refine zv_iald (zs_at rfl) rfl (mo_in_vp g179) ?_
          refine zv_run 0 (pc' := 180) (lo' := [some (.ref 0), some (.int x1), some (.int x2), some (.int x3), none]) (st' := [.int (J 10 x3.toNatClampNeg), .int x3, .ref 10]) (I' := J) (L' := L) (R' := zw_RM) rfl ?_
          refine zv_run 5 (pc' := 187) (lo' := [some (.ref 0), some (.int x1), some (.int x2), some (.int x3), none]) (st' := [.int ((J 10 x3.toNatClampNeg) - (J 3 4)), .int x3, .ref 10]) (I' := J) (L' := L) (R' := zw_RM) rfl ?_
          obtain rfl := Option.some.inj h
          exact k167
        · have h := mo_f h c167
          refine zv_run 2 (pc' := 187) (lo' := [some (.ref 0), some (.int x1), some (.int x2), some (.int x3), none]) (st' := [.int x2, .int x3, .ref 10]) (I' := J) (L' := L) (R' := zw_RM) rfl ?_
          obtain rfl := Option.some.inj h
          exact k167
theorem mt_warm {d n : Nat} {J : zx_I} {L : zx_L} {p : zx_I} (h : mf_warm n J = some p) : zx_M0 mm_X10_warm (d + 0) 0 0 [.ref 0] zw_SM J L zw_RM (zw_ret (none) zw_SM p L zw_RM) := by
  unfold mf_warm at h
  refine zv_entry gd_X10_warm (Nat.le_of_ble_eq_true rfl) ?_
  refine zv_run 21 (pc' := 29) (lo' := [some (.ref 0), some (.int (J 3 0)), some (.int ((J 3 1) * (J 3 2))), none, none]) (st' := [.int ((J 3 0) - 1), .ref 10, .int ((J 3 0) - 1), .ref 10]) (I' := J) (L' := L) (R' := zw_RM) rfl ?_
  obtain ⟨g29, h⟩ := mo_gs h
  refine zv_iald (zs_at rfl) rfl (mo_in_vp g29) ?_
  refine zv_run 0 (pc' := 30) (lo' := [some (.ref 0), some (.int (J 3 0)), some (.int ((J 3 1) * (J 3 2))), none, none]) (st' := [.int (J 10 (((J 3 0) - 1).toNatClampNeg)), .int ((J 3 0) - 1), .ref 10]) (I' := J) (L' := L) (R' := zw_RM) rfl ?_
  refine zv_run 2 (pc' := 34) (lo' := [some (.ref 0), some (.int (J 3 0)), some (.int ((J 3 1) * (J 3 2))), none, none]) (st' := [.int (J 0 24), .int (J 10 (((J 3 0) - 1).toNatClampNeg)), .int ((J 3 0) - 1), .ref 10]) (I' := J) (L' := L) (R' := zw_RM) rfl ?_
  obtain ⟨v34, e34, h⟩ := mo_b h
  have k34 : zx_V mm_X10_warm (d + 0) z0 (zw_ret (none) zw_SM p L zw_RM) zw_SM 56 [some (.ref 0), some (.int (J 3 0)), some (.int ((J 3 1) * (J 3 2))), none, none] [.int v34, .int (J 10 (((J 3 0) - 1).toNatClampNeg)), .int ((J 3 0) - 1), .ref 10] J L zw_RM := by
    clear e34
    refine zv_run 1 (pc' := 57) (lo' := [some (.ref 0), some (.int (J 3 0)), some (.int ((J 3 1) * (J 3 2))), none, none]) (st' := [.int ((J 10 (((J 3 0) - 1).toNatClampNeg)) + v34), .int ((J 3 0) - 1), .ref 10]) (I' := J) (L' := L) (R' := zw_RM) rfl ?_
    obtain ⟨g57, h⟩ := mo_gs h
    refine zv_iast (zs_at rfl) rfl (mo_in_vp g57) ?_
    refine zv_run 4 (pc' := 62) (lo' := [some (.ref 0), some (.int (J 3 0)), some (.int ((J 3 1) * (J 3 2))), some (.int ((J 3 0) - 1)), none]) (st' := []) (I' := (zx_uI J 10 (((J 3 0) - 1).toNatClampNeg) ((J 10 (((J 3 0) - 1).toNatClampNeg)) + v34))) (L' := L) (R' := zw_RM) rfl ?_
    refine ml_warm_62 (fun J_62 p h => ?_) n _ _ p h
    refine zv_run 2 (pc' := 133) (lo' := [some (.ref 0), some (.int (J 3 0)), some (.int ((J 3 1) * (J 3 2))), some (.int 0), none]) (st' := []) (I' := J_62) (L' := L) (R' := zw_RM) rfl ?_
    refine ml_warm_133 (fun J_133 p h => ?_) n _ _ p h
    refine zv_run 2 (pc' := 198) (lo' := [some (.ref 0), some (.int (J 3 0)), some (.int ((J 3 1) * (J 3 2))), none, none]) (st' := [.int (J_133 0 24)]) (I' := J_133) (L' := L) (R' := zw_RM) rfl ?_
    refine zv_if_le (tgt := 260) (zs_at rfl) (by decide) (fun c198 => ?_) (fun c198 => ?_)
    · have h := mo_t h c198
      obtain rfl := Option.some.inj h
      exact zv_vret (zs_at rfl) rfl ⟨Nat.le_refl _, Nat.le_refl _⟩ zw_here
    · have h := mo_f h c198
      refine zv_run 8 (pc' := 215) (lo' := [some (.ref 0), some (.int (J 3 0)), some (.int ((J 3 1) * (J 3 2))), none, none]) (st' := [.int ((J_133 0 25) - 1)]) (I' := (zx_uI J_133 0 25 ((J_133 0 25) - 1))) (L' := L) (R' := zw_RM) rfl ?_
      refine zv_if_ne (tgt := 260) (zs_at rfl) (by decide) (fun c215 => ?_) (fun c215 => ?_)
      · have h := mo_f h c215
        obtain rfl := Option.some.inj h
        exact zv_vret (zs_at rfl) rfl ⟨Nat.le_refl _, Nat.le_refl _⟩ zw_here
      · have h := mo_t h c215
        refine zv_run 9 (pc' := 233) (lo' := [some (.ref 0), some (.int (J 3 0)), some (.int ((J 3 1) * (J 3 2))), none, none]) (st' := [.int ((J_133 0 24) - 1), .ref 0]) (I' := (zx_uI (zx_uI J_133 0 25 ((J_133 0 25) - 1)) 0 24 ((J_133 0 24) - 1))) (L' := L) (R' := zw_RM) rfl ?_
        obtain ⟨v233, e233, h⟩ := mo_b h
        have k233 : zx_V mm_X10_warm (d + 0) z0 (zw_ret (none) zw_SM p L zw_RM) zw_SM 257 [some (.ref 0), none, none, none, none] [.int v233, .ref 0] (zx_uI (zx_uI J_133 0 25 ((J_133 0 25) - 1)) 0 24 ((J_133 0 24) - 1)) L zw_RM := by
          clear e233
          refine zv_run 1 (pc' := 260) (lo' := [some (.ref 0), none, none, none, none]) (st' := []) (I' := (zx_uI (zx_uI (zx_uI J_133 0 25 ((J_133 0 25) - 1)) 0 24 ((J_133 0 24) - 1)) 0 25 v233)) (L' := L) (R' := zw_RM) rfl ?_
          obtain rfl := Option.some.inj h
          exact zv_vret (zs_at rfl) rfl ⟨Nat.le_refl _, Nat.le_refl _⟩ zw_here
        have h := e233
        refine zv_if_ne (tgt := 240) (zs_at rfl) (by decide) (fun c233 => ?_) (fun c233 => ?_)
        · have h := mo_f h c233
          refine zv_run 12 (pc' := 256) (lo' := [some (.ref 0), some (.int (J 3 0)), some (.int ((J 3 1) * (J 3 2))), none, none]) (st' := [.int ((5 + (2 * (((J_133 0 24) - 1) - 1))) + 1), .ref 3, .ref 0]) (I' := (zx_uI (zx_uI J_133 0 25 ((J_133 0 25) - 1)) 0 24 ((J_133 0 24) - 1))) (L' := L) (R' := zw_RM) rfl ?_
          obtain ⟨g256, h⟩ := mo_gs h
          refine zv_iald (zs_at rfl) rfl (mo_in_vp g256) ?_
          refine zv_run 0 (pc' := 257) (lo' := [some (.ref 0), some (.int (J 3 0)), some (.int ((J 3 1) * (J 3 2))), none, none]) (st' := [.int (J_133 3 (((5 + (2 * (((J_133 0 24) - 1) - 1))) + 1).toNatClampNeg)), .ref 0]) (I' := (zx_uI (zx_uI J_133 0 25 ((J_133 0 25) - 1)) 0 24 ((J_133 0 24) - 1))) (L' := L) (R' := zw_RM) rfl ?_
          obtain rfl := Option.some.inj h
          refine zv_fg (lo' := [some (.ref 0), none, none, none, none]) (And.intro rfl (And.intro trivial (And.intro trivial (And.intro trivial (And.intro trivial rfl))))) ?_
          exact k233
        · have h := mo_t h c233
          refine zv_run 2 (pc' := 257) (lo' := [some (.ref 0), some (.int (J 3 0)), some (.int ((J 3 1) * (J 3 2))), none, none]) (st' := [.int 0, .ref 0]) (I' := (zx_uI (zx_uI J_133 0 25 ((J_133 0 25) - 1)) 0 24 ((J_133 0 24) - 1))) (L' := L) (R' := zw_RM) rfl ?_
          obtain rfl := Option.some.inj h
          refine zv_fg (lo' := [some (.ref 0), none, none, none, none]) (And.intro rfl (And.intro trivial (And.intro trivial (And.intro trivial (And.intro trivial rfl))))) ?_
          exact k233
  have h := e34
  refine zv_if_ne (tgt := 41) (zs_at rfl) (by decide) (fun c34 => ?_) (fun c34 => ?_)
  · have h := mo_f h c34
    refine zv_run 10 (pc' := 55) (lo' := [some (.ref 0), some (.int (J 3 0)), some (.int ((J 3 1) * (J 3 2))), none, none]) (st' := [.int (5 + (2 * ((J 0 24) - 1))), .ref 3, .int (J 10 (((J 3 0) - 1).toNatClampNeg)), .int ((J 3 0) - 1), .ref 10]) (I' := J) (L' := L) (R' := zw_RM) rfl ?_
    obtain ⟨g55, h⟩ := mo_gs h
    refine zv_iald (zs_at rfl) rfl (mo_in_vp g55) ?_
    refine zv_run 0 (pc' := 56) (lo' := [some (.ref 0), some (.int (J 3 0)), some (.int ((J 3 1) * (J 3 2))), none, none]) (st' := [.int (J 3 ((5 + (2 * ((J 0 24) - 1))).toNatClampNeg)), .int (J 10 (((J 3 0) - 1).toNatClampNeg)), .int ((J 3 0) - 1), .ref 10]) (I' := J) (L' := L) (R' := zw_RM) rfl ?_
    obtain rfl := Option.some.inj h
    exact k34
  · have h := mo_t h c34
    refine zv_run 2 (pc' := 56) (lo' := [some (.ref 0), some (.int (J 3 0)), some (.int ((J 3 1) * (J 3 2))), none, none]) (st' := [.int 0, .int (J 10 (((J 3 0) - 1).toNatClampNeg)), .int ((J 3 0) - 1), .ref 10]) (I' := J) (L' := L) (R' := zw_RM) rfl ?_
    obtain rfl := Option.some.inj h
    exact k34
