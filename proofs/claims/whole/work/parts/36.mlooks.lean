/-! methods of the model, by program -/
def mf_looks_32_b (n : Nat) (x1 : Int32) (L : zx_L) (K : zx_I → Option (Int32 × zx_I)) (Z : Int32 → zx_I → Option (Int32 × zx_I)) (x2 : Int32) (J : zx_I) : Option (Int32 × zx_I) := (if (6 : Int32) ≤ x2 then K J else (mo_g (mo_in x2 6) (Z (x2 + 1) (zx_uI J 19 x2.toNatClampNeg 0))))
def mf_looks_32 (n : Nat) (x1 : Int32) (L : zx_L) (K : zx_I → Option (Int32 × zx_I)) : Nat → Int32 → zx_I → Option (Int32 × zx_I)
  | 0 => fun _ _ => none
  | k + 1 => mf_looks_32_b n x1 L K (mf_looks_32 n x1 L K k)
def mf_looks_88_b (n : Nat) (x1 : Int32) (x2 : Int32) (x3 : Int32) (x4 : Int32) (L : zx_L) (K : Int32 → zx_I → Option (Int32 × zx_I)) (Z : Int32 → Int32 → Int32 → zx_I → Option (Int32 × zx_I)) (x5 : Int32) (x6 : Int32) (x7 : Int32) (J : zx_I) : Option (Int32 × zx_I) := (if (6 : Int32) ≤ x7 then K x5 J else ((mf_of x4 (4 : Int32) J).bind fun p105 => (mo_g (mo_in x4 6) ((mf_grief n x4 (zx_uI J 12 x4.toNatClampNeg (p105 + x7)) L).bind fun p115 => (if x7 = 0 then Z x7 p115.1 (x7 + 1) p115.2 else (if x6 ≤ p115.1 then Z x5 x6 (x7 + 1) p115.2 else Z x7 p115.1 (x7 + 1) p115.2))))))
def mf_looks_88 (n : Nat) (x1 : Int32) (x2 : Int32) (x3 : Int32) (x4 : Int32) (L : zx_L) (K : Int32 → zx_I → Option (Int32 × zx_I)) : Nat → Int32 → Int32 → Int32 → zx_I → Option (Int32 × zx_I)
  | 0 => fun _ _ _ _ => none
  | k + 1 => mf_looks_88_b n x1 x2 x3 x4 L K (mf_looks_88 n x1 x2 x3 x4 L K k)
def mf_looks_70_b (n : Nat) (x1 : Int32) (x2 : Int32) (L : zx_L) (K : Int32 → zx_I → Option (Int32 × zx_I)) (Z : Int32 → Int32 → zx_I → Option (Int32 × zx_I)) (x3 : Int32) (x4 : Int32) (J : zx_I) : Option (Int32 × zx_I) := (if (mf_many J) ≤ x4 then K x3 J else (mf_looks_88 n x1 x2 x3 x4 L (fun x5_88 J_88 => ((mf_of x4 (4 : Int32) J_88).bind fun p156 => (mo_g (mo_in x4 6) (((if x3 = 0 then (mo_g (mo_in x4 6) (if x5_88 = (J_88 19 x4.toNatClampNeg) then some ((0 : Int32)) else some ((1 : Int32)))) else some ((1 : Int32))) : Option (Int32)).bind fun v164 => (mo_g (mo_in x4 6) (Z v164 (x4 + 1) (zx_uI (zx_uI J_88 12 x4.toNatClampNeg (p156 + x5_88)) 19 x4.toNatClampNeg x5_88))))))) n (0 : Int32) (0 : Int32) (0 : Int32) J))
def mf_looks_70 (n : Nat) (x1 : Int32) (x2 : Int32) (L : zx_L) (K : Int32 → zx_I → Option (Int32 × zx_I)) : Nat → Int32 → Int32 → zx_I → Option (Int32 × zx_I)
  | 0 => fun _ _ _ => none
  | k + 1 => mf_looks_70_b n x1 x2 L K (mf_looks_70 n x1 x2 L K k)
def mf_looks_55_b (n : Nat) (x1 : Int32) (L : zx_L) (K : Int32 → Int32 → zx_I → Option (Int32 × zx_I)) (Z : Int32 → Int32 → zx_I → Option (Int32 × zx_I)) (x2 : Int32) (x3 : Int32) (J : zx_I) : Option (Int32 × zx_I) := (if x3 = 0 then K x2 x3 J else (if (12 : Int32) ≤ x2 then K x2 x3 J else (mf_looks_70 n x1 x2 L (fun x3_70 J_70 => Z (x2 + 1) x3_70 J_70) n (0 : Int32) (0 : Int32) J)))
def mf_looks_55 (n : Nat) (x1 : Int32) (L : zx_L) (K : Int32 → Int32 → zx_I → Option (Int32 × zx_I)) : Nat → Int32 → Int32 → zx_I → Option (Int32 × zx_I)
  | 0 => fun _ _ _ => none
  | k + 1 => mf_looks_55_b n x1 L K (mf_looks_55 n x1 L K k)
def mf_looks (n : Nat) (x1 : Int32) (J : zx_I) (L : zx_L) : Option (Int32 × zx_I) := (if (mf_in x1 (0 : Int32) (6 : Int32)) = 0 then some ((-1 : Int32), J) else (if (6 : Int32) ≤ x1 then ((mf_asTold n J).bind fun p27 => (mf_looks_32 n x1 L (fun J_32 => (mf_looks_55 n x1 L (fun x2_55 x3_55 J_55 => (if x3_55 = 0 then (if (6 : Int32) ≤ x1 then some (x2_55, J_55) else (mo_g (mo_in x1 6) (some ((J_55 19 x1.toNatClampNeg), J_55)))) else some ((-4 : Int32), J_55))) n (0 : Int32) (1 : Int32) J_32)) n (0 : Int32) p27)) else (if (mf_isBatherOf x1 J) = 0 then some ((-1 : Int32), J) else ((mf_asTold n J).bind fun p27 => (mf_looks_32 n x1 L (fun J_32 => (mf_looks_55 n x1 L (fun x2_55 x3_55 J_55 => (if x3_55 = 0 then (if (6 : Int32) ≤ x1 then some (x2_55, J_55) else (mo_g (mo_in x1 6) (some ((J_55 19 x1.toNatClampNeg), J_55)))) else some ((-4 : Int32), J_55))) n (0 : Int32) (1 : Int32) J_32)) n (0 : Int32) p27)))))
theorem ml_looks_32 {n d : Nat} {x1 : Int32} {L : zx_L} {K : zx_I → Option (Int32 × zx_I)} (hK : ∀ (J : zx_I) (p : Int32 × zx_I), K J = some p → zx_V mm_X10_looks (d + 7) z0 (zw_ret (some (.int p.1)) zw_SM p.2 L zw_RM) zw_SM 51 [some (.ref 0), some (.int x1), none, none, none, none, none, none, none] [] J L zw_RM) : ∀ (k : Nat) (x2 : Int32) (J : zx_I) (p : Int32 × zx_I), mf_looks_32 n x1 L K k x2 J = some p → zx_V mm_X10_looks (d + 7) z0 (zw_ret (some (.int p.1)) zw_SM p.2 L zw_RM) zw_SM 32 [some (.ref 0), some (.int x1), some (.int x2), none, none, none, none, none, none] [] J L zw_RM := by
  intro k
  induction k with
  | zero =>
    intro x2 J p h
    exact absurd (show (none : Option (Int32 × zx_I)) = some p from h) (by intro q; cases q)
  | succ k ih =>
    intro x2 J p h
    have h : mf_looks_32_b n x1 L K (mf_looks_32 n x1 L K k) x2 J = some p := h
    unfold mf_looks_32_b at h
    refine zv_run 2 (pc' := 35) (lo' := [some (.ref 0), some (.int x1), some (.int x2), none, none, none, none, none, none]) (st' := [.int 6, .int x2]) (I' := J) (L' := L) (R' := zw_RM) rfl ?_
    refine zv_icmp_ge (tgt := 51) (zs_at rfl) (by decide) (fun c35 => ?_) (fun c35 => ?_)
    · have h := mo_t h c35
      refine zv_fg (lo' := [some (.ref 0), some (.int x1), none, none, none, none, none, none, none]) (And.intro rfl (And.intro rfl (And.intro trivial (And.intro trivial (And.intro trivial (And.intro trivial (And.intro trivial (And.intro trivial (And.intro trivial rfl))))))))) ?_
      exact hK _ p h
    · have h := mo_f h c35
      refine zv_run 4 (pc' := 44) (lo' := [some (.ref 0), some (.int x1), some (.int x2), none, none, none, none, none, none]) (st' := [.int 0, .int x2, .ref 19]) (I' := J) (L' := L) (R' := zw_RM) rfl ?_
      obtain ⟨g44, h⟩ := mo_gs h
      refine zv_iast (zs_at rfl) rfl (mo_in_vp g44) ?_
      refine zv_run 2 (pc' := 32) (lo' := [some (.ref 0), some (.int x1), some (.int (x2 + 1)), none, none, none, none, none, none]) (st' := []) (I' := (zx_uI J 19 x2.toNatClampNeg 0)) (L' := L) (R' := zw_RM) rfl ?_
      exact ih _ _ p h
theorem ml_looks_88 {n d : Nat} {x1 : Int32} {x2 : Int32} {x3 : Int32} {x4 : Int32} {L : zx_L} {K : Int32 → zx_I → Option (Int32 × zx_I)} (hK : ∀ (x5 : Int32) (J : zx_I) (p : Int32 × zx_I), K x5 J = some p → zx_V mm_X10_looks (d + 7) z0 (zw_ret (some (.int p.1)) zw_SM p.2 L zw_RM) zw_SM 146 [some (.ref 0), some (.int x1), some (.int x2), some (.int x3), some (.int x4), some (.int x5), none, none, none] [] J L zw_RM) : ∀ (k : Nat) (x5 : Int32) (x6 : Int32) (x7 : Int32) (J : zx_I) (p : Int32 × zx_I), mf_looks_88 n x1 x2 x3 x4 L K k x5 x6 x7 J = some p → zx_V mm_X10_looks (d + 7) z0 (zw_ret (some (.int p.1)) zw_SM p.2 L zw_RM) zw_SM 88 [some (.ref 0), some (.int x1), some (.int x2), some (.int x3), some (.int x4), some (.int x5), some (.int x6), some (.int x7), none] [] J L zw_RM := by
  intro k
  induction k with
  | zero =>
    intro x5 x6 x7 J p h
    exact absurd (show (none : Option (Int32 × zx_I)) = some p from h) (by intro q; cases q)
  | succ k ih =>
    intro x5 x6 x7 J p h
    have h : mf_looks_88_b n x1 x2 x3 x4 L K (mf_looks_88 n x1 x2 x3 x4 L K k) x5 x6 x7 J = some p := h
    unfold mf_looks_88_b at h
    refine zv_run 2 (pc' := 92) (lo' := [some (.ref 0), some (.int x1), some (.int x2), some (.int x3), some (.int x4), some (.int x5), some (.int x6), some (.int x7), none]) (st' := [.int 6, .int x7]) (I' := J) (L' := L) (R' := zw_RM) rfl ?_
    refine zv_icmp_ge (tgt := 146) (zs_at rfl) (by decide) (fun c92 => ?_) (fun c92 => ?_)
    · have h := mo_t h c92
      refine zv_fg (lo' := [some (.ref 0), some (.int x1), some (.int x2), some (.int x3), some (.int x4), some (.int x5), none, none, none]) (And.intro rfl (And.intro rfl (And.intro rfl (And.intro rfl (And.intro rfl (And.intro rfl (And.intro trivial (And.intro trivial (And.intro trivial rfl))))))))) ?_
      exact hK _ _ p h
    · have h := mo_f h c92
      refine zv_run 6 (pc' := 105) (lo' := [some (.ref 0), some (.int x1), some (.int x2), some (.int x3), some (.int x4), some (.int x5), some (.int x6), some (.int x7), none]) (st' := [.int 4, .int x4, .ref 0, .int x4, .ref 12]) (I' := J) (L' := L) (R' := zw_RM) rfl ?_
      obtain ⟨p105, e105, h⟩ := mo_b h
      refine zv_cV (M' := mm_X10_of) (ci := 10) (a := 0) (av := [.int x4, .int 4]) (st := [.int x4, .ref 12]) (r := some (.int p105)) (I' := J) (L' := L) (R' := zw_RM) rfl zc_10_139 gd_X10_of rfl rfl rfl (Nat.le_of_ble_eq_true rfl) (mt_of (d := _) e105) ⟨Nat.le_refl _, Nat.le_refl _⟩ ?_
      refine zv_run 0 (pc' := 108) (lo' := [some (.ref 0), some (.int x1), some (.int x2), some (.int x3), some (.int x4), some (.int x5), some (.int x6), some (.int x7), none]) (st' := [.int p105, .int x4, .ref 12]) (I' := J) (L' := L) (R' := zw_RM) rfl ?_
      refine zv_run 2 (pc' := 111) (lo' := [some (.ref 0), some (.int x1), some (.int x2), some (.int x3), some (.int x4), some (.int x5), some (.int x6), some (.int x7), none]) (st' := [.int (p105 + x7), .int x4, .ref 12]) (I' := J) (L' := L) (R' := zw_RM) rfl ?_
      obtain ⟨g111, h⟩ := mo_gs h
      refine zv_iast (zs_at rfl) rfl (mo_in_vp g111) ?_
      refine zv_run 2 (pc' := 115) (lo' := [some (.ref 0), some (.int x1), some (.int x2), some (.int x3), some (.int x4), some (.int x5), some (.int x6), some (.int x7), none]) (st' := [.int x4, .ref 0]) (I' := (zx_uI J 12 x4.toNatClampNeg (p105 + x7))) (L' := L) (R' := zw_RM) rfl ?_
      obtain ⟨p115, e115, h⟩ := mo_b h
      refine zv_cV (M' := mm_X10_grief) (ci := 10) (a := 0) (av := [.int x4]) (st := []) (r := some (.int p115.1)) (I' := p115.2) (L' := L) (R' := zw_RM) rfl zc_10_236 gd_X10_grief rfl rfl rfl (Nat.le_of_ble_eq_true rfl) (mt_grief (d := _) e115) ⟨Nat.le_refl _, Nat.le_refl _⟩ ?_
      refine zv_run 0 (pc' := 118) (lo' := [some (.ref 0), some (.int x1), some (.int x2), some (.int x3), some (.int x4), some (.int x5), some (.int x6), some (.int x7), none]) (st' := [.int p115.1]) (I' := p115.2) (L' := L) (R' := zw_RM) rfl ?_
      refine zv_run 2 (pc' := 122) (lo' := [some (.ref 0), some (.int x1), some (.int x2), some (.int x3), some (.int x4), some (.int x5), some (.int x6), some (.int x7), some (.int p115.1)]) (st' := [.int x7]) (I' := p115.2) (L' := L) (R' := zw_RM) rfl ?_
      refine zv_if_eq (tgt := 132) (zs_at rfl) (by decide) (fun c122 => ?_) (fun c122 => ?_)
      · have h := mo_t h c122
        refine zv_run 6 (pc' := 88) (lo' := [some (.ref 0), some (.int x1), some (.int x2), some (.int x3), some (.int x4), some (.int x7), some (.int p115.1), some (.int (x7 + 1)), some (.int p115.1)]) (st' := []) (I' := p115.2) (L' := L) (R' := zw_RM) rfl ?_
        refine zv_fg (lo' := [some (.ref 0), some (.int x1), some (.int x2), some (.int x3), some (.int x4), some (.int x7), some (.int p115.1), some (.int (x7 + 1)), none]) (And.intro rfl (And.intro rfl (And.intro rfl (And.intro rfl (And.intro rfl (And.intro rfl (And.intro rfl (And.intro rfl (And.intro trivial rfl))))))))) ?_
        exact ih _ _ _ _ p h
      · have h := mo_f h c122
        refine zv_run 2 (pc' := 129) (lo' := [some (.ref 0), some (.int x1), some (.int x2), some (.int x3), some (.int x4), some (.int x5), some (.int x6), some (.int x7), some (.int p115.1)]) (st' := [.int x6, .int p115.1]) (I' := p115.2) (L' := L) (R' := zw_RM) rfl ?_
        refine zv_icmp_ge (tgt := 140) (zs_at rfl) (by decide) (fun c129 => ?_) (fun c129 => ?_)
        · have h := mo_t h c129
          refine zv_run 2 (pc' := 88) (lo' := [some (.ref 0), some (.int x1), some (.int x2), some (.int x3), some (.int x4), some (.int x5), some (.int x6), some (.int (x7 + 1)), some (.int p115.1)]) (st' := []) (I' := p115.2) (L' := L) (R' := zw_RM) rfl ?_
          refine zv_fg (lo' := [some (.ref 0), some (.int x1), some (.int x2), some (.int x3), some (.int x4), some (.int x5), some (.int x6), some (.int (x7 + 1)), none]) (And.intro rfl (And.intro rfl (And.intro rfl (And.intro rfl (And.intro rfl (And.intro rfl (And.intro rfl (And.intro rfl (And.intro trivial rfl))))))))) ?_
          exact ih _ _ _ _ p h
        · have h := mo_f h c129
          refine zv_run 6 (pc' := 88) (lo' := [some (.ref 0), some (.int x1), some (.int x2), some (.int x3), some (.int x4), some (.int x7), some (.int p115.1), some (.int (x7 + 1)), some (.int p115.1)]) (st' := []) (I' := p115.2) (L' := L) (R' := zw_RM) rfl ?_
          refine zv_fg (lo' := [some (.ref 0), some (.int x1), some (.int x2), some (.int x3), some (.int x4), some (.int x7), some (.int p115.1), some (.int (x7 + 1)), none]) (And.intro rfl (And.intro rfl (And.intro rfl (And.intro rfl (And.intro rfl (And.intro rfl (And.intro rfl (And.intro rfl (And.intro trivial rfl))))))))) ?_
          exact ih _ _ _ _ p h
theorem ml_looks_70 {n d : Nat} {x1 : Int32} {x2 : Int32} {L : zx_L} {K : Int32 → zx_I → Option (Int32 × zx_I)} (hK : ∀ (x3 : Int32) (J : zx_I) (p : Int32 × zx_I), K x3 J = some p → zx_V mm_X10_looks (d + 7) z0 (zw_ret (some (.int p.1)) zw_SM p.2 L zw_RM) zw_SM 200 [some (.ref 0), some (.int x1), some (.int x2), some (.int x3), none, none, none, none, none] [] J L zw_RM) : ∀ (k : Nat) (x3 : Int32) (x4 : Int32) (J : zx_I) (p : Int32 × zx_I), mf_looks_70 n x1 x2 L K k x3 x4 J = some p → zx_V mm_X10_looks (d + 7) z0 (zw_ret (some (.int p.1)) zw_SM p.2 L zw_RM) zw_SM 70 [some (.ref 0), some (.int x1), some (.int x2), some (.int x3), some (.int x4), none, none, none, none] [] J L zw_RM := by
  intro k
  induction k with
  | zero =>
    intro x3 x4 J p h
    exact absurd (show (none : Option (Int32 × zx_I)) = some p from h) (by intro q; cases q)
  | succ k ih =>
    intro x3 x4 J p h
    have h : mf_looks_70_b n x1 x2 L K (mf_looks_70 n x1 x2 L K k) x3 x4 J = some p := h
    unfold mf_looks_70_b at h
    refine zv_run 2 (pc' := 73) (lo' := [some (.ref 0), some (.int x1), some (.int x2), some (.int x3), some (.int x4), none, none, none, none]) (st' := [.ref 0, .int x4]) (I' := J) (L' := L) (R' := zw_RM) rfl ?_
    refine zv_cV (M' := mm_X10_many) (ci := 10) (a := 0) (av := []) (st := [.int x4]) (r := some (.int (mf_many J))) (I' := J) (L' := L) (R' := zw_RM) rfl zc_10_133 gd_X10_many rfl rfl rfl (Nat.le_of_ble_eq_true rfl) (mt_many (d := _) rfl) ⟨Nat.le_refl _, Nat.le_refl _⟩ ?_
    refine zv_run 0 (pc' := 76) (lo' := [some (.ref 0), some (.int x1), some (.int x2), some (.int x3), some (.int x4), none, none, none, none]) (st' := [.int (mf_many J), .int x4]) (I' := J) (L' := L) (R' := zw_RM) rfl ?_
    refine zv_icmp_ge (tgt := 200) (zs_at rfl) (by decide) (fun c76 => ?_) (fun c76 => ?_)
    · have h := mo_t h c76
      refine zv_fg (lo' := [some (.ref 0), some (.int x1), some (.int x2), some (.int x3), none, none, none, none, none]) (And.intro rfl (And.intro rfl (And.intro rfl (And.intro rfl (And.intro trivial (And.intro trivial (And.intro trivial (And.intro trivial (And.intro trivial rfl))))))))) ?_
      exact hK _ _ p h
    · have h := mo_f h c76
      refine zv_run 6 (pc' := 88) (lo' := [some (.ref 0), some (.int x1), some (.int x2), some (.int x3), some (.int x4), some (.int 0), some (.int 0), some (.int 0), none]) (st' := []) (I' := J) (L' := L) (R' := zw_RM) rfl ?_
      refine ml_looks_88 (fun x5_88 J_88 p h => ?_) n _ _ _ _ p h
      refine zv_run 6 (pc' := 156) (lo' := [some (.ref 0), some (.int x1), some (.int x2), some (.int x3), some (.int x4), some (.int x5_88), none, none, none]) (st' := [.int 4, .int x4, .ref 0, .int x4, .ref 12]) (I' := J_88) (L' := L) (R' := zw_RM) rfl ?_
      obtain ⟨p156, e156, h⟩ := mo_b h
      refine zv_cV (M' := mm_X10_of) (ci := 10) (a := 0) (av := [.int x4, .int 4]) (st := [.int x4, .ref 12]) (r := some (.int p156)) (I' := J_88) (L' := L) (R' := zw_RM) rfl zc_10_139 gd_X10_of rfl rfl rfl (Nat.le_of_ble_eq_true rfl) (mt_of (d := _) e156) ⟨Nat.le_refl _, Nat.le_refl _⟩ ?_
      refine zv_run 0 (pc' := 159) (lo' := [some (.ref 0), some (.int x1), some (.int x2), some (.int x3), some (.int x4), some (.int x5_88), none, none, none]) (st' := [.int p156, .int x4, .ref 12]) (I' := J_88) (L' := L) (R' := zw_RM) rfl ?_
      refine zv_run 2 (pc' := 162) (lo' := [some (.ref 0), some (.int x1), some (.int x2), some (.int x3), some (.int x4), some (.int x5_88), none, none, none]) (st' := [.int (p156 + x5_88), .int x4, .ref 12]) (I' := J_88) (L' := L) (R' := zw_RM) rfl ?_
      obtain ⟨g162, h⟩ := mo_gs h
      refine zv_iast (zs_at rfl) rfl (mo_in_vp g162) ?_
      refine zv_run 1 (pc' := 164) (lo' := [some (.ref 0), some (.int x1), some (.int x2), some (.int x3), some (.int x4), some (.int x5_88), none, none, none]) (st' := [.int x3]) (I' := (zx_uI J_88 12 x4.toNatClampNeg (p156 + x5_88))) (L' := L) (R' := zw_RM) rfl ?_
      obtain ⟨v164, e164, h⟩ := mo_b h
      have k164 : (v164 = 0 ∨ v164 = 1) → zx_V mm_X10_looks (d + 7) z0 (zw_ret (some (.int p.1)) zw_SM p.2 L zw_RM) zw_SM 184 [some (.ref 0), some (.int x1), some (.int x2), none, some (.int x4), some (.int x5_88), none, none, none] [.int v164] (zx_uI J_88 12 x4.toNatClampNeg (p156 + x5_88)) L zw_RM := by
        intro b164_0
        clear e164
        refine zv_run 5 (pc' := 193) (lo' := [some (.ref 0), some (.int x1), some (.int x2), some (.int v164), some (.int x4), some (.int x5_88), none, none, none]) (st' := [.int x5_88, .int x4, .ref 19]) (I' := (zx_uI J_88 12 x4.toNatClampNeg (p156 + x5_88))) (L' := L) (R' := zw_RM) rfl ?_
        obtain ⟨g193, h⟩ := mo_gs h
        refine zv_iast (zs_at rfl) rfl (mo_in_vp g193) ?_
        refine zv_run 2 (pc' := 70) (lo' := [some (.ref 0), some (.int x1), some (.int x2), some (.int v164), some (.int (x4 + 1)), some (.int x5_88), none, none, none]) (st' := []) (I' := (zx_uI (zx_uI J_88 12 x4.toNatClampNeg (p156 + x5_88)) 19 x4.toNatClampNeg x5_88)) (L' := L) (R' := zw_RM) rfl ?_
        refine zv_fg (lo' := [some (.ref 0), some (.int x1), some (.int x2), some (.int v164), some (.int (x4 + 1)), none, none, none, none]) (And.intro rfl (And.intro rfl (And.intro rfl (And.intro rfl (And.intro rfl (And.intro trivial (And.intro trivial (And.intro trivial (And.intro trivial rfl))))))))) ?_
        exact ih _ _ _ p h
      have h := e164
      refine zv_if_ne (tgt := 179) (zs_at rfl) (by decide) (fun c164 => ?_) (fun c164 => ?_)
      · have h := mo_f h c164
        refine zv_run 2 (pc' := 184) (lo' := [some (.ref 0), some (.int x1), some (.int x2), some (.int x3), some (.int x4), some (.int x5_88), none, none, none]) (st' := [.int 1]) (I' := (zx_uI J_88 12 x4.toNatClampNeg (p156 + x5_88))) (L' := L) (R' := zw_RM) rfl ?_
        obtain rfl := Option.some.inj h
        refine zv_fg (lo' := [some (.ref 0), some (.int x1), some (.int x2), none, some (.int x4), some (.int x5_88), none, none, none]) (And.intro rfl (And.intro rfl (And.intro rfl (And.intro trivial (And.intro rfl (And.intro rfl (And.intro trivial (And.intro trivial (And.intro trivial rfl))))))))) ?_
        exact k164 (Or.inr rfl)
      · have h := mo_t h c164
        refine zv_run 4 (pc' := 175) (lo' := [some (.ref 0), some (.int x1), some (.int x2), some (.int x3), some (.int x4), some (.int x5_88), none, none, none]) (st' := [.int x4, .ref 19, .int x5_88]) (I' := (zx_uI J_88 12 x4.toNatClampNeg (p156 + x5_88))) (L' := L) (R' := zw_RM) rfl ?_
        obtain ⟨g175, h⟩ := mo_gs h
        refine zv_iald (zs_at rfl) rfl (mo_in_vp g175) ?_
        refine zv_run 0 (pc' := 176) (lo' := [some (.ref 0), some (.int x1), some (.int x2), some (.int x3), some (.int x4), some (.int x5_88), none, none, none]) (st' := [.int (J_88 19 x4.toNatClampNeg), .int x5_88]) (I' := (zx_uI J_88 12 x4.toNatClampNeg (p156 + x5_88))) (L' := L) (R' := zw_RM) rfl ?_
        refine zv_icmp_eq (tgt := 183) (zs_at rfl) (by decide) (fun c176 => ?_) (fun c176 => ?_)
        · have h := mo_t h c176
          refine zv_run 1 (pc' := 184) (lo' := [some (.ref 0), some (.int x1), some (.int x2), some (.int x3), some (.int x4), some (.int x5_88), none, none, none]) (st' := [.int 0]) (I' := (zx_uI J_88 12 x4.toNatClampNeg (p156 + x5_88))) (L' := L) (R' := zw_RM) rfl ?_
          obtain rfl := Option.some.inj h
          refine zv_fg (lo' := [some (.ref 0), some (.int x1), some (.int x2), none, some (.int x4), some (.int x5_88), none, none, none]) (And.intro rfl (And.intro rfl (And.intro rfl (And.intro trivial (And.intro rfl (And.intro rfl (And.intro trivial (And.intro trivial (And.intro trivial rfl))))))))) ?_
          exact k164 (Or.inl rfl)
        · have h := mo_f h c176
          refine zv_run 2 (pc' := 184) (lo' := [some (.ref 0), some (.int x1), some (.int x2), some (.int x3), some (.int x4), some (.int x5_88), none, none, none]) (st' := [.int 1]) (I' := (zx_uI J_88 12 x4.toNatClampNeg (p156 + x5_88))) (L' := L) (R' := zw_RM) rfl ?_
          obtain rfl := Option.some.inj h
          refine zv_fg (lo' := [some (.ref 0), some (.int x1), some (.int x2), none, some (.int x4), some (.int x5_88), none, none, none]) (And.intro rfl (And.intro rfl (And.intro rfl (And.intro trivial (And.intro rfl (And.intro rfl (And.intro trivial (And.intro trivial (And.intro trivial rfl))))))))) ?_
          exact k164 (Or.inr rfl)
theorem ml_looks_55 {n d : Nat} {x1 : Int32} {L : zx_L} {K : Int32 → Int32 → zx_I → Option (Int32 × zx_I)} (hK : ∀ (x2 : Int32) (x3 : Int32) (J : zx_I) (p : Int32 × zx_I), K x2 x3 J = some p → zx_V mm_X10_looks (d + 7) z0 (zw_ret (some (.int p.1)) zw_SM p.2 L zw_RM) zw_SM 206 [some (.ref 0), some (.int x1), some (.int x2), some (.int x3), none, none, none, none, none] [] J L zw_RM) : ∀ (k : Nat) (x2 : Int32) (x3 : Int32) (J : zx_I) (p : Int32 × zx_I), mf_looks_55 n x1 L K k x2 x3 J = some p → zx_V mm_X10_looks (d + 7) z0 (zw_ret (some (.int p.1)) zw_SM p.2 L zw_RM) zw_SM 55 [some (.ref 0), some (.int x1), some (.int x2), some (.int x3), none, none, none, none, none] [] J L zw_RM := by
  intro k
  induction k with
  | zero =>
    intro x2 x3 J p h
    exact absurd (show (none : Option (Int32 × zx_I)) = some p from h) (by intro q; cases q)
  | succ k ih =>
    intro x2 x3 J p h
    have h : mf_looks_55_b n x1 L K (mf_looks_55 n x1 L K k) x2 x3 J = some p := h
    unfold mf_looks_55_b at h
    refine zv_run 1 (pc' := 56) (lo' := [some (.ref 0), some (.int x1), some (.int x2), some (.int x3), none, none, none, none, none]) (st' := [.int x3]) (I' := J) (L' := L) (R' := zw_RM) rfl ?_
    refine zv_if_eq (tgt := 206) (zs_at rfl) (by decide) (fun c56 => ?_) (fun c56 => ?_)
    · have h := mo_t h c56
      exact hK _ _ _ p h
    · have h := mo_f h c56
      refine zv_run 2 (pc' := 62) (lo' := [some (.ref 0), some (.int x1), some (.int x2), some (.int x3), none, none, none, none, none]) (st' := [.int 12, .int x2]) (I' := J) (L' := L) (R' := zw_RM) rfl ?_
      refine zv_icmp_ge (tgt := 206) (zs_at rfl) (by decide) (fun c62 => ?_) (fun c62 => ?_)
      · have h := mo_t h c62
        exact hK _ _ _ p h
      · have h := mo_f h c62
        refine zv_run 4 (pc' := 70) (lo' := [some (.ref 0), some (.int x1), some (.int x2), some (.int 0), some (.int 0), none, none, none, none]) (st' := []) (I' := J) (L' := L) (R' := zw_RM) rfl ?_
        refine ml_looks_70 (fun x3_70 J_70 p h => ?_) n _ _ _ p h
        refine zv_run 2 (pc' := 55) (lo' := [some (.ref 0), some (.int x1), some (.int (x2 + 1)), some (.int x3_70), none, none, none, none, none]) (st' := []) (I' := J_70) (L' := L) (R' := zw_RM) rfl ?_
        exact ih _ _ _ p h
theorem mt_looks {d n : Nat} {x1 : Int32} {J : zx_I} {L : zx_L} {p : Int32 × zx_I} (h : mf_looks n x1 J L = some p) : zx_M0 mm_X10_looks (d + 7) 0 0 [.ref 0, .int x1] zw_SM J L zw_RM (zw_ret (some (.int p.1)) zw_SM p.2 L zw_RM) := by
  unfold mf_looks at h
  refine zv_entry gd_X10_looks (Nat.le_of_ble_eq_true rfl) ?_
  refine zv_run 3 (pc' := 4) (lo' := [some (.ref 0), some (.int x1), none, none, none, none, none, none, none]) (st' := [.int 6, .int 0, .int x1]) (I' := J) (L' := L) (R' := zw_RM) rfl ?_
  refine zv_cSz (M' := mm_X10_in) (av := [.int x1, .int 0, .int 6]) (st := []) (v := (mf_in x1 (0 : Int32) (6 : Int32))) (I' := J) (L' := L) (R' := zw_RM) rfl zc_10_86 gd_X10_in rfl (Nat.le_of_ble_eq_true rfl) (mt_in (d := _) rfl) ⟨Nat.le_refl _, Nat.le_refl _⟩ ?_
  intro b4
  refine zv_run 0 (pc' := 7) (lo' := [some (.ref 0), some (.int x1), none, none, none, none, none, none, none]) (st' := [.int (mf_in x1 (0 : Int32) (6 : Int32))]) (I' := J) (L' := L) (R' := zw_RM) rfl ?_
  refine zv_if_eq (tgt := 24) (zs_at rfl) (by decide) (fun c7 => ?_) (fun c7 => ?_)
  · have h := mo_t h c7
    refine zv_run 1 (pc' := 25) (lo' := [some (.ref 0), some (.int x1), none, none, none, none, none, none, none]) (st' := [.int (-1)]) (I' := J) (L' := L) (R' := zw_RM) rfl ?_
    obtain rfl := Option.some.inj h
    exact zv_iret (zs_at rfl) rfl ⟨Nat.le_refl _, Nat.le_refl _⟩ zw_here
  · have h := mo_f h c7
    refine zv_run 2 (pc' := 13) (lo' := [some (.ref 0), some (.int x1), none, none, none, none, none, none, none]) (st' := [.int 6, .int x1]) (I' := J) (L' := L) (R' := zw_RM) rfl ?_
    refine zv_icmp_ge (tgt := 26) (zs_at rfl) (by decide) (fun c13 => ?_) (fun c13 => ?_)
    · have h := mo_t h c13
      refine zv_run 1 (pc' := 27) (lo' := [some (.ref 0), some (.int x1), none, none, none, none, none, none, none]) (st' := [.ref 0]) (I' := J) (L' := L) (R' := zw_RM) rfl ?_
      obtain ⟨p27, e27, h⟩ := mo_b h
      refine zv_cV (M' := mm_X10_asTold) (ci := 10) (a := 0) (av := []) (st := []) (r := none) (I' := p27) (L' := L) (R' := zw_RM) rfl zc_10_212 gd_X10_asTold rfl rfl rfl (Nat.le_of_ble_eq_true rfl) (mt_asTold (d := _) e27) ⟨Nat.le_refl _, Nat.le_refl _⟩ ?_
      refine zv_run 0 (pc' := 30) (lo' := [some (.ref 0), some (.int x1), none, none, none, none, none, none, none]) (st' := []) (I' := p27) (L' := L) (R' := zw_RM) rfl ?_
      refine zv_run 2 (pc' := 32) (lo' := [some (.ref 0), some (.int x1), some (.int 0), none, none, none, none, none, none]) (st' := []) (I' := p27) (L' := L) (R' := zw_RM) rfl ?_
      refine ml_looks_32 (fun J_32 p h => ?_) n _ _ p h
      refine zv_run 4 (pc' := 55) (lo' := [some (.ref 0), some (.int x1), some (.int 0), some (.int 1), none, none, none, none, none]) (st' := []) (I' := J_32) (L' := L) (R' := zw_RM) rfl ?_
      refine ml_looks_55 (fun x2_55 x3_55 J_55 p h => ?_) n _ _ _ p h
      refine zv_run 1 (pc' := 207) (lo' := [some (.ref 0), some (.int x1), some (.int x2_55), some (.int x3_55), none, none, none, none, none]) (st' := [.int x3_55]) (I' := J_55) (L' := L) (R' := zw_RM) rfl ?_
      refine zv_if_eq (tgt := 215) (zs_at rfl) (by decide) (fun c207 => ?_) (fun c207 => ?_)
      · have h := mo_t h c207
        refine zv_run 2 (pc' := 218) (lo' := [some (.ref 0), some (.int x1), some (.int x2_55), some (.int x3_55), none, none, none, none, none]) (st' := [.int 6, .int x1]) (I' := J_55) (L' := L) (R' := zw_RM) rfl ?_
        refine zv_icmp_ge (tgt := 230) (zs_at rfl) (by decide) (fun c218 => ?_) (fun c218 => ?_)
        · have h := mo_t h c218
          refine zv_run 1 (pc' := 231) (lo' := [some (.ref 0), some (.int x1), some (.int x2_55), some (.int x3_55), none, none, none, none, none]) (st' := [.int x2_55]) (I' := J_55) (L' := L) (R' := zw_RM) rfl ?_
          obtain rfl := Option.some.inj h
          exact zv_iret (zs_at rfl) rfl ⟨Nat.le_refl _, Nat.le_refl _⟩ zw_here
        · have h := mo_f h c218
          refine zv_run 3 (pc' := 226) (lo' := [some (.ref 0), some (.int x1), some (.int x2_55), some (.int x3_55), none, none, none, none, none]) (st' := [.int x1, .ref 19]) (I' := J_55) (L' := L) (R' := zw_RM) rfl ?_
          obtain ⟨g226, h⟩ := mo_gs h
          refine zv_iald (zs_at rfl) rfl (mo_in_vp g226) ?_
          refine zv_run 0 (pc' := 227) (lo' := [some (.ref 0), some (.int x1), some (.int x2_55), some (.int x3_55), none, none, none, none, none]) (st' := [.int (J_55 19 x1.toNatClampNeg)]) (I' := J_55) (L' := L) (R' := zw_RM) rfl ?_
          refine zv_run 1 (pc' := 231) (lo' := [some (.ref 0), some (.int x1), some (.int x2_55), some (.int x3_55), none, none, none, none, none]) (st' := [.int (J_55 19 x1.toNatClampNeg)]) (I' := J_55) (L' := L) (R' := zw_RM) rfl ?_
          obtain rfl := Option.some.inj h
          exact zv_iret (zs_at rfl) rfl ⟨Nat.le_refl _, Nat.le_refl _⟩ zw_here
      · have h := mo_f h c207
        refine zv_run 2 (pc' := 231) (lo' := [some (.ref 0), some (.int x1), some (.int x2_55), some (.int x3_55), none, none, none, none, none]) (st' := [.int (-4)]) (I' := J_55) (L' := L) (R' := zw_RM) rfl ?_
        obtain rfl := Option.some.inj h
        exact zv_iret (zs_at rfl) rfl ⟨Nat.le_refl _, Nat.le_refl _⟩ zw_here
    · have h := mo_f h c13
      refine zv_run 2 (pc' := 18) (lo' := [some (.ref 0), some (.int x1), none, none, none, none, none, none, none]) (st' := [.int x1, .ref 0]) (I' := J) (L' := L) (R' := zw_RM) rfl ?_
      refine zv_cVz (M' := mm_X10_isBatherOf) (ci := 10) (a := 0) (av := [.int x1]) (st := []) (v := (mf_isBatherOf x1 J)) (I' := J) (L' := L) (R' := zw_RM) rfl zc_10_136 gd_X10_isBatherOf rfl rfl rfl (Nat.le_of_ble_eq_true rfl) (mt_isBatherOf (d := _) rfl) ⟨Nat.le_refl _, Nat.le_refl _⟩ ?_
      intro b18
      refine zv_run 0 (pc' := 21) (lo' := [some (.ref 0), some (.int x1), none, none, none, none, none, none, none]) (st' := [.int (mf_isBatherOf x1 J)]) (I' := J) (L' := L) (R' := zw_RM) rfl ?_
      refine zv_if_ne (tgt := 26) (zs_at rfl) (by decide) (fun c21 => ?_) (fun c21 => ?_)
      · have h := mo_f h c21
        refine zv_run 1 (pc' := 27) (lo' := [some (.ref 0), some (.int x1), none, none, none, none, none, none, none]) (st' := [.ref 0]) (I' := J) (L' := L) (R' := zw_RM) rfl ?_
        obtain ⟨p27, e27, h⟩ := mo_b h
        refine zv_cV (M' := mm_X10_asTold) (ci := 10) (a := 0) (av := []) (st := []) (r := none) (I' := p27) (L' := L) (R' := zw_RM) rfl zc_10_212 gd_X10_asTold rfl rfl rfl (Nat.le_of_ble_eq_true rfl) (mt_asTold (d := _) e27) ⟨Nat.le_refl _, Nat.le_refl _⟩ ?_
        refine zv_run 0 (pc' := 30) (lo' := [some (.ref 0), some (.int x1), none, none, none, none, none, none, none]) (st' := []) (I' := p27) (L' := L) (R' := zw_RM) rfl ?_
        refine zv_run 2 (pc' := 32) (lo' := [some (.ref 0), some (.int x1), some (.int 0), none, none, none, none, none, none]) (st' := []) (I' := p27) (L' := L) (R' := zw_RM) rfl ?_
        refine ml_looks_32 (fun J_32 p h => ?_) n _ _ p h
        refine zv_run 4 (pc' := 55) (lo' := [some (.ref 0), some (.int x1), some (.int 0), some (.int 1), none, none, none, none, none]) (st' := []) (I' := J_32) (L' := L) (R' := zw_RM) rfl ?_
        refine ml_looks_55 (fun x2_55 x3_55 J_55 p h => ?_) n _ _ _ p h
        refine zv_run 1 (pc' := 207) (lo' := [some (.ref 0), some (.int x1), some (.int x2_55), some (.int x3_55), none, none, none, none, none]) (st' := [.int x3_55]) (I' := J_55) (L' := L) (R' := zw_RM) rfl ?_
        refine zv_if_eq (tgt := 215) (zs_at rfl) (by decide) (fun c207 => ?_) (fun c207 => ?_)
        · have h := mo_t h c207
          refine zv_run 2 (pc' := 218) (lo' := [some (.ref 0), some (.int x1), some (.int x2_55), some (.int x3_55), none, none, none, none, none]) (st' := [.int 6, .int x1]) (I' := J_55) (L' := L) (R' := zw_RM) rfl ?_
          refine zv_icmp_ge (tgt := 230) (zs_at rfl) (by decide) (fun c218 => ?_) (fun c218 => ?_)
          · have h := mo_t h c218
            refine zv_run 1 (pc' := 231) (lo' := [some (.ref 0), some (.int x1), some (.int x2_55), some (.int x3_55), none, none, none, none, none]) (st' := [.int x2_55]) (I' := J_55) (L' := L) (R' := zw_RM) rfl ?_
            obtain rfl := Option.some.inj h
            exact zv_iret (zs_at rfl) rfl ⟨Nat.le_refl _, Nat.le_refl _⟩ zw_here
          · have h := mo_f h c218
            refine zv_run 3 (pc' := 226) (lo' := [some (.ref 0), some (.int x1), some (.int x2_55), some (.int x3_55), none, none, none, none, none]) (st' := [.int x1, .ref 19]) (I' := J_55) (L' := L) (R' := zw_RM) rfl ?_
            obtain ⟨g226, h⟩ := mo_gs h
            refine zv_iald (zs_at rfl) rfl (mo_in_vp g226) ?_
            refine zv_run 0 (pc' := 227) (lo' := [some (.ref 0), some (.int x1), some (.int x2_55), some (.int x3_55), none, none, none, none, none]) (st' := [.int (J_55 19 x1.toNatClampNeg)]) (I' := J_55) (L' := L) (R' := zw_RM) rfl ?_
            refine zv_run 1 (pc' := 231) (lo' := [some (.ref 0), some (.int x1), some (.int x2_55), some (.int x3_55), none, none, none, none, none]) (st' := [.int (J_55 19 x1.toNatClampNeg)]) (I' := J_55) (L' := L) (R' := zw_RM) rfl ?_
            obtain rfl := Option.some.inj h
            exact zv_iret (zs_at rfl) rfl ⟨Nat.le_refl _, Nat.le_refl _⟩ zw_here
        · have h := mo_f h c207
          refine zv_run 2 (pc' := 231) (lo' := [some (.ref 0), some (.int x1), some (.int x2_55), some (.int x3_55), none, none, none, none, none]) (st' := [.int (-4)]) (I' := J_55) (L' := L) (R' := zw_RM) rfl ?_
          obtain rfl := Option.some.inj h
          exact zv_iret (zs_at rfl) rfl ⟨Nat.le_refl _, Nat.le_refl _⟩ zw_here
      · have h := mo_t h c21
        refine zv_run 1 (pc' := 25) (lo' := [some (.ref 0), some (.int x1), none, none, none, none, none, none, none]) (st' := [.int (-1)]) (I' := J) (L' := L) (R' := zw_RM) rfl ?_
        obtain rfl := Option.some.inj h
        exact zv_iret (zs_at rfl) rfl ⟨Nat.le_refl _, Nat.le_refl _⟩ zw_here
def mf_keep_13_b (n : Nat) (L : zx_L) (K : zx_I → Option (Int32 × zx_I × zx_L)) (Z : Int32 → zx_I → Option (Int32 × zx_I × zx_L)) (x1 : Int32) (J : zx_I) : Option (Int32 × zx_I × zx_L) := (if (6 : Int32) ≤ x1 then K J else (mo_g (mo_in x1 6) (mo_g (mo_in ((6 * (J 0 11)) + x1) 12) (mo_g (mo_in x1 6) (mo_g (mo_in ((6 * (J 0 11)) + x1) 12) (Z (x1 + 1) (zx_uI (zx_uI J 6 (((6 * (J 0 11)) + x1).toNatClampNeg) (J 4 x1.toNatClampNeg)) 9 (((6 * (J 0 11)) + x1).toNatClampNeg) (J 5 x1.toNatClampNeg))))))))
def mf_keep_13 (n : Nat) (L : zx_L) (K : zx_I → Option (Int32 × zx_I × zx_L)) : Nat → Int32 → zx_I → Option (Int32 × zx_I × zx_L)
  | 0 => fun _ _ => none
  | k + 1 => mf_keep_13_b n L K (mf_keep_13 n L K k)
def mf_keep (n : Nat) (J : zx_I) (L : zx_L) : Option (Int32 × zx_I × zx_L) := (if (J 0 11) = (2 : Int32) then some ((-3 : Int32), J, L) else (mf_keep_13 n L (fun J_13 => (mo_g (mo_in (J_13 0 11) 2) (mo_g (mo_in (J_13 0 11) 2) (some (((J_13 0 11) + 1), (zx_uI (zx_uI J_13 7 ((J_13 0 11).toNatClampNeg) (J_13 0 8)) 0 11 ((J_13 0 11) + 1)), (zx_uL L 8 ((J_13 0 11).toNatClampNeg) (L 0 9))))))) n (0 : Int32) J))
theorem ml_keep_13 {n d : Nat} {L : zx_L} {K : zx_I → Option (Int32 × zx_I × zx_L)} (hK : ∀ (J : zx_I) (p : Int32 × zx_I × zx_L), K J = some p → zx_V mm_X10_keep (d + 0) z0 (zw_ret (some (.int p.1)) zw_SM p.2.1 p.2.2 zw_RM) zw_SM 65 [some (.ref 0), none] [] J L zw_RM) : ∀ (k : Nat) (x1 : Int32) (J : zx_I) (p : Int32 × zx_I × zx_L), mf_keep_13 n L K k x1 J = some p → zx_V mm_X10_keep (d + 0) z0 (zw_ret (some (.int p.1)) zw_SM p.2.1 p.2.2 zw_RM) zw_SM 13 [some (.ref 0), some (.int x1)] [] J L zw_RM := by
  intro k
  induction k with
  | zero =>
    intro x1 J p h
    exact absurd (show (none : Option (Int32 × zx_I × zx_L)) = some p from h) (by intro q; cases q)
  | succ k ih =>
    intro x1 J p h
    have h : mf_keep_13_b n L K (mf_keep_13 n L K k) x1 J = some p := h
    unfold mf_keep_13_b at h
    refine zv_run 2 (pc' := 16) (lo' := [some (.ref 0), some (.int x1)]) (st' := [.int 6, .int x1]) (I' := J) (L' := L) (R' := zw_RM) rfl ?_
    refine zv_icmp_ge (tgt := 65) (zs_at rfl) (by decide) (fun c16 => ?_) (fun c16 => ?_)
    · have h := mo_t h c16
      refine zv_fg (lo' := [some (.ref 0), none]) (And.intro rfl (And.intro trivial rfl)) ?_
      exact hK _ p h
    · have h := mo_f h c16
      refine zv_run 11 (pc' := 37) (lo' := [some (.ref 0), some (.int x1)]) (st' := [.int x1, .ref 4, .int ((6 * (J 0 11)) + x1), .ref 6]) (I' := J) (L' := L) (R' := zw_RM) rfl ?_
      obtain ⟨g37, h⟩ := mo_gs h
      refine zv_iald (zs_at rfl) rfl (mo_in_vp g37) ?_
      refine zv_run 0 (pc' := 38) (lo' := [some (.ref 0), some (.int x1)]) (st' := [.int (J 4 x1.toNatClampNeg), .int ((6 * (J 0 11)) + x1), .ref 6]) (I' := J) (L' := L) (R' := zw_RM) rfl ?_
      obtain ⟨g38, h⟩ := mo_gs h
      refine zv_iast (zs_at rfl) rfl (mo_in_vp g38) ?_
      refine zv_run 11 (pc' := 57) (lo' := [some (.ref 0), some (.int x1)]) (st' := [.int x1, .ref 5, .int ((6 * (J 0 11)) + x1), .ref 9]) (I' := (zx_uI J 6 (((6 * (J 0 11)) + x1).toNatClampNeg) (J 4 x1.toNatClampNeg))) (L' := L) (R' := zw_RM) rfl ?_
      obtain ⟨g57, h⟩ := mo_gs h
      refine zv_iald (zs_at rfl) rfl (mo_in_vp g57) ?_
      refine zv_run 0 (pc' := 58) (lo' := [some (.ref 0), some (.int x1)]) (st' := [.int (J 5 x1.toNatClampNeg), .int ((6 * (J 0 11)) + x1), .ref 9]) (I' := (zx_uI J 6 (((6 * (J 0 11)) + x1).toNatClampNeg) (J 4 x1.toNatClampNeg))) (L' := L) (R' := zw_RM) rfl ?_
      obtain ⟨g58, h⟩ := mo_gs h
      refine zv_iast (zs_at rfl) rfl (mo_in_vp g58) ?_
      refine zv_run 2 (pc' := 13) (lo' := [some (.ref 0), some (.int (x1 + 1))]) (st' := []) (I' := (zx_uI (zx_uI J 6 (((6 * (J 0 11)) + x1).toNatClampNeg) (J 4 x1.toNatClampNeg)) 9 (((6 * (J 0 11)) + x1).toNatClampNeg) (J 5 x1.toNatClampNeg))) (L' := L) (R' := zw_RM) rfl ?_
      exact ih _ _ p h
theorem mt_keep {d n : Nat} {J : zx_I} {L : zx_L} {p : Int32 × zx_I × zx_L} (h : mf_keep n J L = some p) : zx_M0 mm_X10_keep (d + 0) 0 0 [.ref 0] zw_SM J L zw_RM (zw_ret (some (.int p.1)) zw_SM p.2.1 p.2.2 zw_RM) := by
  unfold mf_keep at h
  refine zv_entry gd_X10_keep (Nat.le_of_ble_eq_true rfl) ?_
  refine zv_run 3 (pc' := 5) (lo' := [some (.ref 0), none]) (st' := [.int 2, .int (J 0 11)]) (I' := J) (L' := L) (R' := zw_RM) rfl ?_
  refine zv_icmp_ne (tgt := 11) (zs_at rfl) (by decide) (fun c5 => ?_) (fun c5 => ?_)
  · have h := mo_f h c5
    refine zv_run 2 (pc' := 13) (lo' := [some (.ref 0), some (.int 0)]) (st' := []) (I' := J) (L' := L) (R' := zw_RM) rfl ?_
    refine ml_keep_13 (fun J_13 p h => ?_) n _ _ p h
    refine zv_run 6 (pc' := 77) (lo' := [some (.ref 0), none]) (st' := [.int (J_13 0 8), .int (J_13 0 11), .ref 7]) (I' := J_13) (L' := L) (R' := zw_RM) rfl ?_
    obtain ⟨g77, h⟩ := mo_gs h
    refine zv_iast (zs_at rfl) rfl (mo_in_vp g77) ?_
    refine zv_run 6 (pc' := 90) (lo' := [some (.ref 0), none]) (st' := [.long (L 0 9), .int (J_13 0 11), .ref 8]) (I' := (zx_uI J_13 7 ((J_13 0 11).toNatClampNeg) (J_13 0 8))) (L' := L) (R' := zw_RM) rfl ?_
    obtain ⟨g90, h⟩ := mo_gs h
    refine zv_last (zs_at rfl) rfl (mo_in_vp g90) ?_
    refine zv_run 8 (pc' := 105) (lo' := [some (.ref 0), none]) (st' := [.int ((J_13 0 11) + 1)]) (I' := (zx_uI (zx_uI J_13 7 ((J_13 0 11).toNatClampNeg) (J_13 0 8)) 0 11 ((J_13 0 11) + 1))) (L' := (zx_uL L 8 ((J_13 0 11).toNatClampNeg) (L 0 9))) (R' := zw_RM) rfl ?_
    obtain rfl := Option.some.inj h
    exact zv_iret (zs_at rfl) rfl ⟨Nat.le_refl _, Nat.le_refl _⟩ zw_here
  · have h := mo_t h c5
    refine zv_run 1 (pc' := 10) (lo' := [some (.ref 0), none]) (st' := [.int (-3)]) (I' := J) (L' := L) (R' := zw_RM) rfl ?_
    obtain rfl := Option.some.inj h
    exact zv_iret (zs_at rfl) rfl ⟨Nat.le_refl _, Nat.le_refl _⟩ zw_here
def mf_back_22_b (n : Nat) (L : zx_L) (K : zx_I → Option (Int32 × zx_I × zx_L)) (Z : Int32 → zx_I → Option (Int32 × zx_I × zx_L)) (x1 : Int32) (J : zx_I) : Option (Int32 × zx_I × zx_L) := (if (6 : Int32) ≤ x1 then K J else (mo_g (mo_in ((6 * (J 0 11)) + x1) 12) (mo_g (mo_in x1 6) (mo_g (mo_in ((6 * (J 0 11)) + x1) 12) (mo_g (mo_in x1 6) (Z (x1 + 1) (zx_uI (zx_uI J 4 x1.toNatClampNeg (J 6 (((6 * (J 0 11)) + x1).toNatClampNeg))) 5 x1.toNatClampNeg (J 9 (((6 * (J 0 11)) + x1).toNatClampNeg)))))))))
def mf_back_22 (n : Nat) (L : zx_L) (K : zx_I → Option (Int32 × zx_I × zx_L)) : Nat → Int32 → zx_I → Option (Int32 × zx_I × zx_L)
  | 0 => fun _ _ => none
  | k + 1 => mf_back_22_b n L K (mf_back_22 n L K k)
def mf_back (n : Nat) (J : zx_I) (L : zx_L) : Option (Int32 × zx_I × zx_L) := (if (J 0 11) = 0 then some ((-2 : Int32), J, L) else (mf_back_22 n L (fun J_22 => (mo_g (mo_in (J_22 0 11) 2) (mo_g (mo_in (J_22 0 11) 2) (some ((J_22 0 11), (zx_uI J_22 0 8 (J_22 7 ((J_22 0 11).toNatClampNeg))), (zx_uL L 0 9 (L 8 ((J_22 0 11).toNatClampNeg)))))))) n (0 : Int32) (zx_uI J 0 11 ((J 0 11) - 1))))
theorem ml_back_22 {n d : Nat} {L : zx_L} {K : zx_I → Option (Int32 × zx_I × zx_L)} (hK : ∀ (J : zx_I) (p : Int32 × zx_I × zx_L), K J = some p → zx_V mm_X10_back (d + 0) z0 (zw_ret (some (.int p.1)) zw_SM p.2.1 p.2.2 zw_RM) zw_SM 74 [some (.ref 0), none] [] J L zw_RM) : ∀ (k : Nat) (x1 : Int32) (J : zx_I) (p : Int32 × zx_I × zx_L), mf_back_22 n L K k x1 J = some p → zx_V mm_X10_back (d + 0) z0 (zw_ret (some (.int p.1)) zw_SM p.2.1 p.2.2 zw_RM) zw_SM 22 [some (.ref 0), some (.int x1)] [] J L zw_RM := by
  intro k
  induction k with
  | zero =>
    intro x1 J p h
    exact absurd (show (none : Option (Int32 × zx_I × zx_L)) = some p from h) (by intro q; cases q)
  | succ k ih =>
    intro x1 J p h
    have h : mf_back_22_b n L K (mf_back_22 n L K k) x1 J = some p := h
    unfold mf_back_22_b at h
    refine zv_run 2 (pc' := 25) (lo' := [some (.ref 0), some (.int x1)]) (st' := [.int 6, .int x1]) (I' := J) (L' := L) (R' := zw_RM) rfl ?_
    refine zv_icmp_ge (tgt := 74) (zs_at rfl) (by decide) (fun c25 => ?_) (fun c25 => ?_)
    · have h := mo_t h c25
      refine zv_fg (lo' := [some (.ref 0), none]) (And.intro rfl (And.intro trivial rfl)) ?_
      exact hK _ p h
    · have h := mo_f h c25
      refine zv_run 11 (pc' := 46) (lo' := [some (.ref 0), some (.int x1)]) (st' := [.int ((6 * (J 0 11)) + x1), .ref 6, .int x1, .ref 4]) (I' := J) (L' := L) (R' := zw_RM) rfl ?_
      obtain ⟨g46, h⟩ := mo_gs h
      refine zv_iald (zs_at rfl) rfl (mo_in_vp g46) ?_
      refine zv_run 0 (pc' := 47) (lo' := [some (.ref 0), some (.int x1)]) (st' := [.int (J 6 (((6 * (J 0 11)) + x1).toNatClampNeg)), .int x1, .ref 4]) (I' := J) (L' := L) (R' := zw_RM) rfl ?_
      obtain ⟨g47, h⟩ := mo_gs h
      refine zv_iast (zs_at rfl) rfl (mo_in_vp g47) ?_
      refine zv_run 11 (pc' := 66) (lo' := [some (.ref 0), some (.int x1)]) (st' := [.int ((6 * (J 0 11)) + x1), .ref 9, .int x1, .ref 5]) (I' := (zx_uI J 4 x1.toNatClampNeg (J 6 (((6 * (J 0 11)) + x1).toNatClampNeg)))) (L' := L) (R' := zw_RM) rfl ?_
      obtain ⟨g66, h⟩ := mo_gs h
      refine zv_iald (zs_at rfl) rfl (mo_in_vp g66) ?_
      refine zv_run 0 (pc' := 67) (lo' := [some (.ref 0), some (.int x1)]) (st' := [.int (J 9 (((6 * (J 0 11)) + x1).toNatClampNeg)), .int x1, .ref 5]) (I' := (zx_uI J 4 x1.toNatClampNeg (J 6 (((6 * (J 0 11)) + x1).toNatClampNeg)))) (L' := L) (R' := zw_RM) rfl ?_
      obtain ⟨g67, h⟩ := mo_gs h
      refine zv_iast (zs_at rfl) rfl (mo_in_vp g67) ?_
      refine zv_run 2 (pc' := 22) (lo' := [some (.ref 0), some (.int (x1 + 1))]) (st' := []) (I' := (zx_uI (zx_uI J 4 x1.toNatClampNeg (J 6 (((6 * (J 0 11)) + x1).toNatClampNeg))) 5 x1.toNatClampNeg (J 9 (((6 * (J 0 11)) + x1).toNatClampNeg)))) (L' := L) (R' := zw_RM) rfl ?_
      exact ih _ _ p h
theorem mt_back {d n : Nat} {J : zx_I} {L : zx_L} {p : Int32 × zx_I × zx_L} (h : mf_back n J L = some p) : zx_M0 mm_X10_back (d + 0) 0 0 [.ref 0] zw_SM J L zw_RM (zw_ret (some (.int p.1)) zw_SM p.2.1 p.2.2 zw_RM) := by
  unfold mf_back at h
  refine zv_entry gd_X10_back (Nat.le_of_ble_eq_true rfl) ?_
  refine zv_run 2 (pc' := 4) (lo' := [some (.ref 0), none]) (st' := [.int (J 0 11)]) (I' := J) (L' := L) (R' := zw_RM) rfl ?_
  refine zv_if_ne (tgt := 10) (zs_at rfl) (by decide) (fun c4 => ?_) (fun c4 => ?_)
  · have h := mo_f h c4
    refine zv_run 8 (pc' := 22) (lo' := [some (.ref 0), some (.int 0)]) (st' := []) (I' := (zx_uI J 0 11 ((J 0 11) - 1))) (L' := L) (R' := zw_RM) rfl ?_
    refine ml_back_22 (fun J_22 p h => ?_) n _ _ p h
    refine zv_run 5 (pc' := 83) (lo' := [some (.ref 0), none]) (st' := [.int (J_22 0 11), .ref 7, .ref 0]) (I' := J_22) (L' := L) (R' := zw_RM) rfl ?_
    obtain ⟨g83, h⟩ := mo_gs h
    refine zv_iald (zs_at rfl) rfl (mo_in_vp g83) ?_
    refine zv_run 0 (pc' := 84) (lo' := [some (.ref 0), none]) (st' := [.int (J_22 7 ((J_22 0 11).toNatClampNeg)), .ref 0]) (I' := J_22) (L' := L) (R' := zw_RM) rfl ?_
    refine zv_run 6 (pc' := 96) (lo' := [some (.ref 0), none]) (st' := [.int (J_22 0 11), .ref 8, .ref 0]) (I' := (zx_uI J_22 0 8 (J_22 7 ((J_22 0 11).toNatClampNeg)))) (L' := L) (R' := zw_RM) rfl ?_
    obtain ⟨g96, h⟩ := mo_gs h
    refine zv_lald (zs_at rfl) rfl (mo_in_vp g96) ?_
    refine zv_run 0 (pc' := 97) (lo' := [some (.ref 0), none]) (st' := [.long (L 8 ((J_22 0 11).toNatClampNeg)), .ref 0]) (I' := (zx_uI J_22 0 8 (J_22 7 ((J_22 0 11).toNatClampNeg)))) (L' := L) (R' := zw_RM) rfl ?_
    refine zv_run 3 (pc' := 104) (lo' := [some (.ref 0), none]) (st' := [.int (J_22 0 11)]) (I' := (zx_uI J_22 0 8 (J_22 7 ((J_22 0 11).toNatClampNeg)))) (L' := (zx_uL L 0 9 (L 8 ((J_22 0 11).toNatClampNeg)))) (R' := zw_RM) rfl ?_
    obtain rfl := Option.some.inj h
    exact zv_iret (zs_at rfl) rfl ⟨Nat.le_refl _, Nat.le_refl _⟩ zw_here
  · have h := mo_t h c4
    refine zv_run 1 (pc' := 9) (lo' := [some (.ref 0), none]) (st' := [.int (-2)]) (I' := J) (L' := L) (R' := zw_RM) rfl ?_
    obtain rfl := Option.some.inj h
    exact zv_iret (zs_at rfl) rfl ⟨Nat.le_refl _, Nat.le_refl _⟩ zw_here
def mf_count_71_b (n : Nat) (J : zx_I) (L : zx_L) (K : Int32 → Option (Int32)) (Z : Int32 → Int32 → Option (Int32)) (x2 : Int32) (x3 : Int32) : Option (Int32) := (if (60 : Int32) ≤ x3 then K x2 else Z (x2 + ((((L 0 9) >>> (x3.toInt64 &&& 63)) &&& (1 : Int64)).toInt32)) (x3 + 1))
def mf_count_71 (n : Nat) (J : zx_I) (L : zx_L) (K : Int32 → Option (Int32)) : Nat → Int32 → Int32 → Option (Int32)
  | 0 => fun _ _ => none
  | k + 1 => mf_count_71_b n J L K (mf_count_71 n J L K k)
def mf_count (n : Nat) (x1 : Int32) (J : zx_I) (L : zx_L) : Option (Int32) := (if x1.toInt = 0 then some ((mf_many J)) else (if x1.toInt = 1 then some ((J 3 0)) else (if x1.toInt = 2 then some ((J 3 15)) else (if x1.toInt = 3 then some ((J 0 0)) else (if x1.toInt = 4 then (mf_count_71 n J L (fun x2_71 => some (x2_71)) n (0 : Int32) (0 : Int32)) else (if x1.toInt = 5 then some ((J 0 11)) else (if x1.toInt = 6 then some ((J 3 11)) else some ((-1 : Int32)))))))))
theorem ml_count_71 {n d : Nat} {J : zx_I} {L : zx_L} {K : Int32 → Option (Int32)} (hK : ∀ (x2 : Int32) (p : Int32), K x2 = some p → zx_V mm_X10_count (d + 1) z0 (zw_ret (some (.int p)) zw_SM J L zw_RM) zw_SM 95 [some (.ref 0), none, some (.int x2), none] [] J L zw_RM) : ∀ (k : Nat) (x2 : Int32) (x3 : Int32) (p : Int32), mf_count_71 n J L K k x2 x3 = some p → zx_V mm_X10_count (d + 1) z0 (zw_ret (some (.int p)) zw_SM J L zw_RM) zw_SM 71 [some (.ref 0), none, some (.int x2), some (.int x3)] [] J L zw_RM := by
  intro k
  induction k with
  | zero =>
    intro x2 x3 p h
    exact absurd (show (none : Option (Int32)) = some p from h) (by intro q; cases q)
  | succ k ih =>
    intro x2 x3 p h
    have h : mf_count_71_b n J L K (mf_count_71 n J L K k) x2 x3 = some p := h
    unfold mf_count_71_b at h
    refine zv_run 2 (pc' := 74) (lo' := [some (.ref 0), none, some (.int x2), some (.int x3)]) (st' := [.int 60, .int x3]) (I' := J) (L' := L) (R' := zw_RM) rfl ?_
    refine zv_icmp_ge (tgt := 95) (zs_at rfl) (by decide) (fun c74 => ?_) (fun c74 => ?_)
    · have h := mo_t h c74
      refine zv_fg (lo' := [some (.ref 0), none, some (.int x2), none]) (And.intro rfl (And.intro trivial (And.intro rfl (And.intro trivial rfl)))) ?_
      exact hK _ p h
    · have h := mo_f h c74
      refine zv_run 12 (pc' := 71) (lo' := [some (.ref 0), none, some (.int (x2 + ((((L 0 9) >>> (x3.toInt64 &&& 63)) &&& (1 : Int64)).toInt32))), some (.int (x3 + 1))]) (st' := []) (I' := J) (L' := L) (R' := zw_RM) rfl ?_
      exact ih _ _ p h
theorem mt_count {d n : Nat} {x1 : Int32} {J : zx_I} {L : zx_L} {p : Int32} (h : mf_count n x1 J L = some p) : zx_M0 mm_X10_count (d + 1) 0 0 [.ref 0, .int x1] zw_SM J L zw_RM (zw_ret (some (.int p)) zw_SM J L zw_RM) := by
  unfold mf_count at h
  refine zv_entry gd_X10_count (Nat.le_of_ble_eq_true rfl) ?_
  refine zv_run 3 (pc' := 3) (lo' := [some (.ref 0), some (.int x1), some (.int 0), none]) (st' := [.int x1]) (I' := J) (L' := L) (R' := zw_RM) rfl ?_
  by_cases t3_0 : x1.toInt = 0
  · have h := mo_t h t3_0
    refine zv_tableIn (off := 41) (tgt := 44) (zs_at rfl) (by omega) (by omega) (by rw [t3_0]; rfl) rfl ?_
    refine zv_run 1 (pc' := 45) (lo' := [some (.ref 0), some (.int x1), some (.int 0), none]) (st' := [.ref 0]) (I' := J) (L' := L) (R' := zw_RM) rfl ?_
    refine zv_cV (M' := mm_X10_many) (ci := 10) (a := 0) (av := []) (st := []) (r := some (.int (mf_many J))) (I' := J) (L' := L) (R' := zw_RM) rfl zc_10_133 gd_X10_many rfl rfl rfl (Nat.le_of_ble_eq_true rfl) (mt_many (d := _) rfl) ⟨Nat.le_refl _, Nat.le_refl _⟩ ?_
    refine zv_run 0 (pc' := 48) (lo' := [some (.ref 0), some (.int x1), some (.int 0), none]) (st' := [.int (mf_many J)]) (I' := J) (L' := L) (R' := zw_RM) rfl ?_
    obtain rfl := Option.some.inj h
    exact zv_iret (zs_at rfl) rfl ⟨Nat.le_refl _, Nat.le_refl _⟩ zw_here
  have h := mo_f h t3_0
  by_cases t3_1 : x1.toInt = 1
  · have h := mo_t h t3_1
    refine zv_tableIn (off := 46) (tgt := 49) (zs_at rfl) (by omega) (by omega) (by rw [t3_1]; rfl) rfl ?_
    refine zv_run 4 (pc' := 55) (lo' := [some (.ref 0), some (.int x1), some (.int 0), none]) (st' := [.int (J 3 0)]) (I' := J) (L' := L) (R' := zw_RM) rfl ?_
    obtain rfl := Option.some.inj h
    exact zv_iret (zs_at rfl) rfl ⟨Nat.le_refl _, Nat.le_refl _⟩ zw_here
  have h := mo_f h t3_1
  by_cases t3_2 : x1.toInt = 2
  · have h := mo_t h t3_2
    refine zv_tableIn (off := 53) (tgt := 56) (zs_at rfl) (by omega) (by omega) (by rw [t3_2]; rfl) rfl ?_
    refine zv_run 4 (pc' := 63) (lo' := [some (.ref 0), some (.int x1), some (.int 0), none]) (st' := [.int (J 3 15)]) (I' := J) (L' := L) (R' := zw_RM) rfl ?_
    obtain rfl := Option.some.inj h
    exact zv_iret (zs_at rfl) rfl ⟨Nat.le_refl _, Nat.le_refl _⟩ zw_here
  have h := mo_f h t3_2
  by_cases t3_3 : x1.toInt = 3
  · have h := mo_t h t3_3
    refine zv_tableIn (off := 61) (tgt := 64) (zs_at rfl) (by omega) (by omega) (by rw [t3_3]; rfl) rfl ?_
    refine zv_run 2 (pc' := 68) (lo' := [some (.ref 0), some (.int x1), some (.int 0), none]) (st' := [.int (J 0 0)]) (I' := J) (L' := L) (R' := zw_RM) rfl ?_
    obtain rfl := Option.some.inj h
    exact zv_iret (zs_at rfl) rfl ⟨Nat.le_refl _, Nat.le_refl _⟩ zw_here
  have h := mo_f h t3_3
  by_cases t3_4 : x1.toInt = 4
  · have h := mo_t h t3_4
    refine zv_tableIn (off := 66) (tgt := 69) (zs_at rfl) (by omega) (by omega) (by rw [t3_4]; rfl) rfl ?_
    refine zv_run 2 (pc' := 71) (lo' := [some (.ref 0), some (.int x1), some (.int 0), some (.int 0)]) (st' := []) (I' := J) (L' := L) (R' := zw_RM) rfl ?_
    refine zv_fg (lo' := [some (.ref 0), none, some (.int 0), some (.int 0)]) (And.intro rfl (And.intro trivial (And.intro rfl (And.intro rfl rfl)))) ?_
    refine ml_count_71 (fun x2_71 p h => ?_) n _ _ p h
    refine zv_run 1 (pc' := 96) (lo' := [some (.ref 0), none, some (.int x2_71), none]) (st' := [.int x2_71]) (I' := J) (L' := L) (R' := zw_RM) rfl ?_
    obtain rfl := Option.some.inj h
    exact zv_iret (zs_at rfl) rfl ⟨Nat.le_refl _, Nat.le_refl _⟩ zw_here
  have h := mo_f h t3_4
  by_cases t3_5 : x1.toInt = 5
  · have h := mo_t h t3_5
    refine zv_tableIn (off := 94) (tgt := 97) (zs_at rfl) (by omega) (by omega) (by rw [t3_5]; rfl) rfl ?_
    refine zv_run 2 (pc' := 101) (lo' := [some (.ref 0), some (.int x1), some (.int 0), none]) (st' := [.int (J 0 11)]) (I' := J) (L' := L) (R' := zw_RM) rfl ?_
    obtain rfl := Option.some.inj h
    exact zv_iret (zs_at rfl) rfl ⟨Nat.le_refl _, Nat.le_refl _⟩ zw_here
  have h := mo_f h t3_5
  by_cases t3_6 : x1.toInt = 6
  · have h := mo_t h t3_6
    refine zv_tableIn (off := 99) (tgt := 102) (zs_at rfl) (by omega) (by omega) (by rw [t3_6]; rfl) rfl ?_
    refine zv_run 4 (pc' := 109) (lo' := [some (.ref 0), some (.int x1), some (.int 0), none]) (st' := [.int (J 3 11)]) (I' := J) (L' := L) (R' := zw_RM) rfl ?_
    obtain rfl := Option.some.inj h
    exact zv_iret (zs_at rfl) rfl ⟨Nat.le_refl _, Nat.le_refl _⟩ zw_here
  have h := mo_f h t3_6
  by_cases t3o : x1.toInt < 0 ∨ 6 < x1.toInt
  · refine zv_tableOut (tgt := 110) (zs_at rfl) t3o rfl ?_
    refine zv_run 1 (pc' := 111) (lo' := [some (.ref 0), some (.int x1), some (.int 0), none]) (st' := [.int (-1)]) (I' := J) (L' := L) (R' := zw_RM) rfl ?_
    obtain rfl := Option.some.inj h
    exact zv_iret (zs_at rfl) rfl ⟨Nat.le_refl _, Nat.le_refl _⟩ zw_here
  · omega
