/-! methods of the model, by program -/
def mf_when_31_b (n : Nat) (x1 : Int32) (x2 : Int32) (L : zx_L) (K : Int32 → Int32 → zx_I → Option (Int32 × zx_I)) (Z : Int32 → Int32 → Int32 → zx_I → Option (Int32 × zx_I)) (x3 : Int32) (x4 : Int32) (x5 : Int32) (J : zx_I) : Option (Int32 × zx_I) := (if (J 3 15) ≤ x5 then K x3 x4 J else (if (lg_cmp (((L 0 9) >>> (x5.toInt64 &&& 63)) &&& (1 : Int64)) (0 : Int64)) = 0 then ((mf_goThrough n x1 ((L 0 9) ||| ((1 : Int64) <<< (x5.toInt64 &&& 63))) ((J 3 11) + 1) J).bind fun p77 => (if x3 = (-4 : Int32) then Z x5 p77.1 (x5 + 1) p77.2 else (if x4 ≤ p77.1 then Z x3 x4 (x5 + 1) p77.2 else Z x5 p77.1 (x5 + 1) p77.2))) else Z x3 x4 (x5 + 1) J))
def mf_when_31 (n : Nat) (x1 : Int32) (x2 : Int32) (L : zx_L) (K : Int32 → Int32 → zx_I → Option (Int32 × zx_I)) : Nat → Int32 → Int32 → Int32 → zx_I → Option (Int32 × zx_I)
  | 0 => fun _ _ _ _ => none
  | k + 1 => mf_when_31_b n x1 x2 L K (mf_when_31 n x1 x2 L K k)
def mf_when (n : Nat) (x1 : Int32) (x2 : Int32) (J : zx_I) (L : zx_L) : Option (Int32 × zx_I) := (if (mf_isRule x1) = 0 then some ((-1 : Int32), J) else (if (mf_in x2 (0 : Int32) (1 : Int32)) = 0 then some ((-1 : Int32), J) else ((mf_asTold n J).bind fun p19 => (mf_when_31 n x1 x2 L (fun x3_31 x4_31 J_31 => (if x3_31 = (-4 : Int32) then some (x3_31, J_31) else (if x2 = 0 then some (x3_31, J_31) else some (x4_31, J_31)))) n (-4 : Int32) (0 : Int32) (0 : Int32) p19))))
theorem ml_when_31 {n d : Nat} {x1 : Int32} {x2 : Int32} {L : zx_L} {K : Int32 → Int32 → zx_I → Option (Int32 × zx_I)} (hK : ∀ (x3 : Int32) (x4 : Int32) (J : zx_I) (p : Int32 × zx_I), K x3 x4 J = some p → zx_V mm_X10_when (d + 6) z0 (zw_ret (some (.int p.1)) zw_SM p.2 L zw_RM) zw_SM 108 [some (.ref 0), some (.int x1), some (.int x2), some (.int x3), some (.int x4), none, none] [] J L zw_RM) : ∀ (k : Nat) (x3 : Int32) (x4 : Int32) (x5 : Int32) (J : zx_I) (p : Int32 × zx_I), mf_when_31 n x1 x2 L K k x3 x4 x5 J = some p → zx_V mm_X10_when (d + 6) z0 (zw_ret (some (.int p.1)) zw_SM p.2 L zw_RM) zw_SM 31 [some (.ref 0), some (.int x1), some (.int x2), some (.int x3), some (.int x4), some (.int x5), none] [] J L zw_RM := by
  intro k
  induction k with
  | zero =>
    intro x3 x4 x5 J p h
    exact absurd (show (none : Option (Int32 × zx_I)) = some p from h) (by intro q; cases q)
  | succ k ih =>
    intro x3 x4 x5 J p h
    have h : mf_when_31_b n x1 x2 L K (mf_when_31 n x1 x2 L K k) x3 x4 x5 J = some p := h
    unfold mf_when_31_b at h
    refine zv_run 5 (pc' := 40) (lo' := [some (.ref 0), some (.int x1), some (.int x2), some (.int x3), some (.int x4), some (.int x5), none]) (st' := [.int (J 3 15), .int x5]) (I' := J) (L' := L) (R' := zw_RM) rfl ?_
    refine zv_icmp_ge (tgt := 108) (zs_at rfl) (by decide) (fun c40 => ?_) (fun c40 => ?_)
    · have h := mo_t h c40
      refine zv_fg (lo' := [some (.ref 0), some (.int x1), some (.int x2), some (.int x3), some (.int x4), none, none]) (And.intro rfl (And.intro rfl (And.intro rfl (And.intro rfl (And.intro rfl (And.intro trivial (And.intro trivial rfl))))))) ?_
      exact hK _ _ _ p h
    · have h := mo_f h c40
      refine zv_run 8 (pc' := 54) (lo' := [some (.ref 0), some (.int x1), some (.int x2), some (.int x3), some (.int x4), some (.int x5), none]) (st' := [.int (lg_cmp (((L 0 9) >>> (x5.toInt64 &&& 63)) &&& (1 : Int64)) (0 : Int64))]) (I' := J) (L' := L) (R' := zw_RM) rfl ?_
      refine zv_if_ne (tgt := 102) (zs_at rfl) (by decide) (fun c54 => ?_) (fun c54 => ?_)
      · have h := mo_f h c54
        refine zv_run 2 (pc' := 31) (lo' := [some (.ref 0), some (.int x1), some (.int x2), some (.int x3), some (.int x4), some (.int (x5 + 1)), none]) (st' := []) (I' := J) (L' := L) (R' := zw_RM) rfl ?_
        exact ih _ _ _ _ p h
      · have h := mo_t h c54
        refine zv_run 14 (pc' := 77) (lo' := [some (.ref 0), some (.int x1), some (.int x2), some (.int x3), some (.int x4), some (.int x5), none]) (st' := [.int ((J 3 11) + 1), .long ((L 0 9) ||| ((1 : Int64) <<< (x5.toInt64 &&& 63))), .int x1, .ref 0]) (I' := J) (L' := L) (R' := zw_RM) rfl ?_
        obtain ⟨p77, e77, h⟩ := mo_b h
        refine zv_cV (M' := mm_X10_goThrough) (ci := 10) (a := 0) (av := [.int x1, .long ((L 0 9) ||| ((1 : Int64) <<< (x5.toInt64 &&& 63))), .int ((J 3 11) + 1)]) (st := []) (r := some (.int p77.1)) (I' := p77.2) (L' := L) (R' := zw_RM) rfl zc_10_215 gd_X10_goThrough rfl rfl rfl (Nat.le_of_ble_eq_true rfl) (mt_goThrough (d := _) e77) ⟨Nat.le_refl _, Nat.le_refl _⟩ ?_
        refine zv_run 0 (pc' := 80) (lo' := [some (.ref 0), some (.int x1), some (.int x2), some (.int x3), some (.int x4), some (.int x5), none]) (st' := [.int p77.1]) (I' := p77.2) (L' := L) (R' := zw_RM) rfl ?_
        refine zv_run 3 (pc' := 85) (lo' := [some (.ref 0), some (.int x1), some (.int x2), some (.int x3), some (.int x4), some (.int x5), some (.int p77.1)]) (st' := [.int (-4), .int x3]) (I' := p77.2) (L' := L) (R' := zw_RM) rfl ?_
        refine zv_icmp_eq (tgt := 95) (zs_at rfl) (by decide) (fun c85 => ?_) (fun c85 => ?_)
        · have h := mo_t h c85
          refine zv_run 6 (pc' := 31) (lo' := [some (.ref 0), some (.int x1), some (.int x2), some (.int x5), some (.int p77.1), some (.int (x5 + 1)), some (.int p77.1)]) (st' := []) (I' := p77.2) (L' := L) (R' := zw_RM) rfl ?_
          refine zv_fg (lo' := [some (.ref 0), some (.int x1), some (.int x2), some (.int x5), some (.int p77.1), some (.int (x5 + 1)), none]) (And.intro rfl (And.intro rfl (And.intro rfl (And.intro rfl (And.intro rfl (And.intro rfl (And.intro trivial rfl))))))) ?_
          exact ih _ _ _ _ p h
        · have h := mo_f h c85
          refine zv_run 2 (pc' := 92) (lo' := [some (.ref 0), some (.int x1), some (.int x2), some (.int x3), some (.int x4), some (.int x5), some (.int p77.1)]) (st' := [.int x4, .int p77.1]) (I' := p77.2) (L' := L) (R' := zw_RM) rfl ?_
          refine zv_icmp_ge (tgt := 102) (zs_at rfl) (by decide) (fun c92 => ?_) (fun c92 => ?_)
          · have h := mo_t h c92
            refine zv_run 2 (pc' := 31) (lo' := [some (.ref 0), some (.int x1), some (.int x2), some (.int x3), some (.int x4), some (.int (x5 + 1)), some (.int p77.1)]) (st' := []) (I' := p77.2) (L' := L) (R' := zw_RM) rfl ?_
            refine zv_fg (lo' := [some (.ref 0), some (.int x1), some (.int x2), some (.int x3), some (.int x4), some (.int (x5 + 1)), none]) (And.intro rfl (And.intro rfl (And.intro rfl (And.intro rfl (And.intro rfl (And.intro rfl (And.intro trivial rfl))))))) ?_
            exact ih _ _ _ _ p h
          · have h := mo_f h c92
            refine zv_run 6 (pc' := 31) (lo' := [some (.ref 0), some (.int x1), some (.int x2), some (.int x5), some (.int p77.1), some (.int (x5 + 1)), some (.int p77.1)]) (st' := []) (I' := p77.2) (L' := L) (R' := zw_RM) rfl ?_
            refine zv_fg (lo' := [some (.ref 0), some (.int x1), some (.int x2), some (.int x5), some (.int p77.1), some (.int (x5 + 1)), none]) (And.intro rfl (And.intro rfl (And.intro rfl (And.intro rfl (And.intro rfl (And.intro rfl (And.intro trivial rfl))))))) ?_
            exact ih _ _ _ _ p h
theorem mt_when {d n : Nat} {x1 : Int32} {x2 : Int32} {J : zx_I} {L : zx_L} {p : Int32 × zx_I} (h : mf_when n x1 x2 J L = some p) : zx_M0 mm_X10_when (d + 6) 0 0 [.ref 0, .int x1, .int x2] zw_SM J L zw_RM (zw_ret (some (.int p.1)) zw_SM p.2 L zw_RM) := by
  unfold mf_when at h
  refine zv_entry gd_X10_when (Nat.le_of_ble_eq_true rfl) ?_
  refine zv_run 1 (pc' := 1) (lo' := [some (.ref 0), some (.int x1), some (.int x2), none, none, none, none]) (st' := [.int x1]) (I' := J) (L' := L) (R' := zw_RM) rfl ?_
  refine zv_cSz (M' := mm_X10_isRule) (av := [.int x1]) (st := []) (v := (mf_isRule x1)) (I' := J) (L' := L) (R' := zw_RM) rfl zc_10_219 gd_X10_isRule rfl (Nat.le_of_ble_eq_true rfl) (mt_isRule (d := _) rfl) ⟨Nat.le_refl _, Nat.le_refl _⟩ ?_
  intro b1
  refine zv_run 0 (pc' := 4) (lo' := [some (.ref 0), some (.int x1), some (.int x2), none, none, none, none]) (st' := [.int (mf_isRule x1)]) (I' := J) (L' := L) (R' := zw_RM) rfl ?_
  refine zv_if_eq (tgt := 16) (zs_at rfl) (by decide) (fun c4 => ?_) (fun c4 => ?_)
  · have h := mo_t h c4
    refine zv_run 1 (pc' := 17) (lo' := [some (.ref 0), some (.int x1), some (.int x2), none, none, none, none]) (st' := [.int (-1)]) (I' := J) (L' := L) (R' := zw_RM) rfl ?_
    obtain rfl := Option.some.inj h
    exact zv_iret (zs_at rfl) rfl ⟨Nat.le_refl _, Nat.le_refl _⟩ zw_here
  · have h := mo_f h c4
    refine zv_run 3 (pc' := 10) (lo' := [some (.ref 0), some (.int x1), some (.int x2), none, none, none, none]) (st' := [.int 1, .int 0, .int x2]) (I' := J) (L' := L) (R' := zw_RM) rfl ?_
    refine zv_cSz (M' := mm_X10_in) (av := [.int x2, .int 0, .int 1]) (st := []) (v := (mf_in x2 (0 : Int32) (1 : Int32))) (I' := J) (L' := L) (R' := zw_RM) rfl zc_10_86 gd_X10_in rfl (Nat.le_of_ble_eq_true rfl) (mt_in (d := _) rfl) ⟨Nat.le_refl _, Nat.le_refl _⟩ ?_
    intro b10
    refine zv_run 0 (pc' := 13) (lo' := [some (.ref 0), some (.int x1), some (.int x2), none, none, none, none]) (st' := [.int (mf_in x2 (0 : Int32) (1 : Int32))]) (I' := J) (L' := L) (R' := zw_RM) rfl ?_
    refine zv_if_ne (tgt := 18) (zs_at rfl) (by decide) (fun c13 => ?_) (fun c13 => ?_)
    · have h := mo_f h c13
      refine zv_run 1 (pc' := 19) (lo' := [some (.ref 0), some (.int x1), some (.int x2), none, none, none, none]) (st' := [.ref 0]) (I' := J) (L' := L) (R' := zw_RM) rfl ?_
      obtain ⟨p19, e19, h⟩ := mo_b h
      refine zv_cV (M' := mm_X10_asTold) (ci := 10) (a := 0) (av := []) (st := []) (r := none) (I' := p19) (L' := L) (R' := zw_RM) rfl zc_10_212 gd_X10_asTold rfl rfl rfl (Nat.le_of_ble_eq_true rfl) (mt_asTold (d := _) e19) ⟨Nat.le_refl _, Nat.le_refl _⟩ ?_
      refine zv_run 0 (pc' := 22) (lo' := [some (.ref 0), some (.int x1), some (.int x2), none, none, none, none]) (st' := []) (I' := p19) (L' := L) (R' := zw_RM) rfl ?_
      refine zv_run 6 (pc' := 31) (lo' := [some (.ref 0), some (.int x1), some (.int x2), some (.int (-4)), some (.int 0), some (.int 0), none]) (st' := []) (I' := p19) (L' := L) (R' := zw_RM) rfl ?_
      refine ml_when_31 (fun x3_31 x4_31 J_31 p h => ?_) n _ _ _ _ p h
      refine zv_run 2 (pc' := 111) (lo' := [some (.ref 0), some (.int x1), some (.int x2), some (.int x3_31), some (.int x4_31), none, none]) (st' := [.int (-4), .int x3_31]) (I' := J_31) (L' := L) (R' := zw_RM) rfl ?_
      refine zv_icmp_eq (tgt := 118) (zs_at rfl) (by decide) (fun c111 => ?_) (fun c111 => ?_)
      · have h := mo_t h c111
        refine zv_run 2 (pc' := 124) (lo' := [some (.ref 0), some (.int x1), some (.int x2), some (.int x3_31), some (.int x4_31), none, none]) (st' := [.int x3_31]) (I' := J_31) (L' := L) (R' := zw_RM) rfl ?_
        obtain rfl := Option.some.inj h
        exact zv_iret (zs_at rfl) rfl ⟨Nat.le_refl _, Nat.le_refl _⟩ zw_here
      · have h := mo_f h c111
        refine zv_run 1 (pc' := 115) (lo' := [some (.ref 0), some (.int x1), some (.int x2), some (.int x3_31), some (.int x4_31), none, none]) (st' := [.int x2]) (I' := J_31) (L' := L) (R' := zw_RM) rfl ?_
        refine zv_if_ne (tgt := 122) (zs_at rfl) (by decide) (fun c115 => ?_) (fun c115 => ?_)
        · have h := mo_f h c115
          refine zv_run 1 (pc' := 124) (lo' := [some (.ref 0), some (.int x1), some (.int x2), some (.int x3_31), some (.int x4_31), none, none]) (st' := [.int x4_31]) (I' := J_31) (L' := L) (R' := zw_RM) rfl ?_
          obtain rfl := Option.some.inj h
          exact zv_iret (zs_at rfl) rfl ⟨Nat.le_refl _, Nat.le_refl _⟩ zw_here
        · have h := mo_t h c115
          refine zv_run 2 (pc' := 124) (lo' := [some (.ref 0), some (.int x1), some (.int x2), some (.int x3_31), some (.int x4_31), none, none]) (st' := [.int x3_31]) (I' := J_31) (L' := L) (R' := zw_RM) rfl ?_
          obtain rfl := Option.some.inj h
          exact zv_iret (zs_at rfl) rfl ⟨Nat.le_refl _, Nat.le_refl _⟩ zw_here
    · have h := mo_t h c13
      refine zv_run 1 (pc' := 17) (lo' := [some (.ref 0), some (.int x1), some (.int x2), none, none, none, none]) (st' := [.int (-1)]) (I' := J) (L' := L) (R' := zw_RM) rfl ?_
      obtain rfl := Option.some.inj h
      exact zv_iret (zs_at rfl) rfl ⟨Nat.le_refl _, Nat.le_refl _⟩ zw_here
def mf_isNobodyLate (n : Nat) (x1 : Int32) (x2 : Int64) (J : zx_I) : Option (Int32 × zx_I) := ((mf_goThrough n x1 x2 (J 3 11) J).bind fun p10 => ((mf_lateNow n p10.2).bind fun p15 => (if p15 = 0 then some ((1 : Int32), p10.2) else some ((0 : Int32), p10.2))))
theorem mt_isNobodyLate {d n : Nat} {x1 : Int32} {x2 : Int64} {J : zx_I} {L : zx_L} {p : Int32 × zx_I} (h : mf_isNobodyLate n x1 x2 J = some p) : zx_M0 mm_X10_isNobodyLate (d + 6) 0 0 [.ref 0, .int x1, .long x2] zw_SM J L zw_RM (zw_rz p.1 zw_SM p.2 L zw_RM) := by
  unfold mf_isNobodyLate at h
  refine zv_entry gd_X10_isNobodyLate (Nat.le_of_ble_eq_true rfl) ?_
  refine zv_run 7 (pc' := 10) (lo' := [some (.ref 0), some (.int x1), some (.long x2), none]) (st' := [.int (J 3 11), .long x2, .int x1, .ref 0]) (I' := J) (L' := L) (R' := zw_RM) rfl ?_
  obtain ⟨p10, e10, h⟩ := mo_b h
  refine zv_cV (M' := mm_X10_goThrough) (ci := 10) (a := 0) (av := [.int x1, .long x2, .int (J 3 11)]) (st := []) (r := some (.int p10.1)) (I' := p10.2) (L' := L) (R' := zw_RM) rfl zc_10_215 gd_X10_goThrough rfl rfl rfl (Nat.le_of_ble_eq_true rfl) (mt_goThrough (d := _) e10) ⟨Nat.le_refl _, Nat.le_refl _⟩ ?_
  refine zv_run 0 (pc' := 13) (lo' := [some (.ref 0), some (.int x1), some (.long x2), none]) (st' := [.int p10.1]) (I' := p10.2) (L' := L) (R' := zw_RM) rfl ?_
  refine zv_run 2 (pc' := 15) (lo' := [some (.ref 0), some (.int x1), some (.long x2), none]) (st' := [.ref 0]) (I' := p10.2) (L' := L) (R' := zw_RM) rfl ?_
  obtain ⟨p15, e15, h⟩ := mo_b h
  refine zv_cV (M' := mm_X10_lateNow) (ci := 10) (a := 0) (av := []) (st := []) (r := some (.int p15)) (I' := p10.2) (L' := L) (R' := zw_RM) rfl zc_10_206 gd_X10_lateNow rfl rfl rfl (Nat.le_of_ble_eq_true rfl) (mt_lateNow (d := _) e15) ⟨Nat.le_refl _, Nat.le_refl _⟩ ?_
  refine zv_run 0 (pc' := 18) (lo' := [some (.ref 0), some (.int x1), some (.long x2), none]) (st' := [.int p15]) (I' := p10.2) (L' := L) (R' := zw_RM) rfl ?_
  refine zv_if_ne (tgt := 25) (zs_at rfl) (by decide) (fun c18 => ?_) (fun c18 => ?_)
  · have h := mo_f h c18
    refine zv_run 1 (pc' := 26) (lo' := [some (.ref 0), some (.int x1), some (.long x2), none]) (st' := [.int 0]) (I' := p10.2) (L' := L) (R' := zw_RM) rfl ?_
    obtain rfl := Option.some.inj h
    exact zv_zret (zs_at rfl) rfl (Or.inl rfl) ⟨Nat.le_refl _, Nat.le_refl _⟩ ⟨zw_here, (Or.inl rfl)⟩
  · have h := mo_t h c18
    refine zv_run 2 (pc' := 26) (lo' := [some (.ref 0), some (.int x1), some (.long x2), none]) (st' := [.int 1]) (I' := p10.2) (L' := L) (R' := zw_RM) rfl ?_
    obtain rfl := Option.some.inj h
    exact zv_zret (zs_at rfl) rfl (Or.inr rfl) ⟨Nat.le_refl _, Nat.le_refl _⟩ ⟨zw_here, (Or.inr rfl)⟩
def mf_fewest_44_b (n : Nat) (x1 : Int32) (x2 : Int32) (K : zx_I → Option (Int32 × zx_I)) (Z : Int32 → zx_I → Option (Int32 × zx_I)) (x3 : Int32) (J : zx_I) : Option (Int32 × zx_I) := (if (J 3 15) ≤ x3 then K J else ((mf_isNobodyLate n x1 ((1 : Int64) <<< (x3.toInt64 &&& 63)) J).bind fun p60 => (if p60.1 = 0 then Z (x3 + 1) p60.2 else (if x2 = 0 then some ((1 : Int32), p60.2) else (if x2 = (1 : Int32) then some (x3, p60.2) else some ((-4 : Int32), p60.2))))))
def mf_fewest_44 (n : Nat) (x1 : Int32) (x2 : Int32) (K : zx_I → Option (Int32 × zx_I)) : Nat → Int32 → zx_I → Option (Int32 × zx_I)
  | 0 => fun _ _ => none
  | k + 1 => mf_fewest_44_b n x1 x2 K (mf_fewest_44 n x1 x2 K k)
def mf_fewest_110_b (n : Nat) (x1 : Int32) (x2 : Int32) (x3 : Int32) (K : zx_I → Option (Int32 × zx_I)) (Z : Int32 → zx_I → Option (Int32 × zx_I)) (x4 : Int32) (J : zx_I) : Option (Int32 × zx_I) := (if (J 3 15) ≤ x4 then K J else ((mf_isNobodyLate n x1 (((1 : Int64) <<< (x3.toInt64 &&& 63)) ||| ((1 : Int64) <<< (x4.toInt64 &&& 63))) J).bind fun p132 => (if p132.1 = 0 then Z (x4 + 1) p132.2 else (if x2 = 0 then some ((2 : Int32), p132.2) else (if x2 = (1 : Int32) then some (x3, p132.2) else some (x4, p132.2))))))
def mf_fewest_110 (n : Nat) (x1 : Int32) (x2 : Int32) (x3 : Int32) (K : zx_I → Option (Int32 × zx_I)) : Nat → Int32 → zx_I → Option (Int32 × zx_I)
  | 0 => fun _ _ => none
  | k + 1 => mf_fewest_110_b n x1 x2 x3 K (mf_fewest_110 n x1 x2 x3 K k)
def mf_fewest_94_b (n : Nat) (x1 : Int32) (x2 : Int32) (K : zx_I → Option (Int32 × zx_I)) (Z : Int32 → zx_I → Option (Int32 × zx_I)) (x3 : Int32) (J : zx_I) : Option (Int32 × zx_I) := (if (J 3 15) ≤ x3 then K J else (mf_fewest_110 n x1 x2 x3 (fun J_110 => Z (x3 + 1) J_110) n (x3 + 1) J))
def mf_fewest_94 (n : Nat) (x1 : Int32) (x2 : Int32) (K : zx_I → Option (Int32 × zx_I)) : Nat → Int32 → zx_I → Option (Int32 × zx_I)
  | 0 => fun _ _ => none
  | k + 1 => mf_fewest_94_b n x1 x2 K (mf_fewest_94 n x1 x2 K k)
def mf_fewest (n : Nat) (x1 : Int32) (x2 : Int32) (J : zx_I) : Option (Int32 × zx_I) := (if (mf_isRule x1) = 0 then some ((-1 : Int32), J) else (if (mf_in x2 (0 : Int32) (2 : Int32)) = 0 then some ((-1 : Int32), J) else ((mf_asTold n J).bind fun p19 => ((mf_isNobodyLate n x1 (0 : Int64) p19).bind fun p25 => (if p25.1 = 0 then (mf_fewest_44 n x1 x2 (fun J_44 => (mf_fewest_94 n x1 x2 (fun J_94 => some ((-4 : Int32), J_94)) n (0 : Int32) J_44)) n (0 : Int32) p25.2) else (if x2 = 0 then some ((0 : Int32), p25.2) else some ((-4 : Int32), p25.2)))))))
theorem ml_fewest_44 {n d : Nat} {x1 : Int32} {x2 : Int32} {L : zx_L} {K : zx_I → Option (Int32 × zx_I)} (hK : ∀ (J : zx_I) (p : Int32 × zx_I), K J = some p → zx_V mm_X10_fewest (d + 7) z0 (zw_ret (some (.int p.1)) zw_SM p.2 L zw_RM) zw_SM 92 [some (.ref 0), some (.int x1), some (.int x2), none, none] [] J L zw_RM) : ∀ (k : Nat) (x3 : Int32) (J : zx_I) (p : Int32 × zx_I), mf_fewest_44 n x1 x2 K k x3 J = some p → zx_V mm_X10_fewest (d + 7) z0 (zw_ret (some (.int p.1)) zw_SM p.2 L zw_RM) zw_SM 44 [some (.ref 0), some (.int x1), some (.int x2), some (.int x3), none] [] J L zw_RM := by
  intro k
  induction k with
  | zero =>
    intro x3 J p h
    exact absurd (show (none : Option (Int32 × zx_I)) = some p from h) (by intro q; cases q)
  | succ k ih =>
    intro x3 J p h
    have h : mf_fewest_44_b n x1 x2 K (mf_fewest_44 n x1 x2 K k) x3 J = some p := h
    unfold mf_fewest_44_b at h
    refine zv_run 5 (pc' := 52) (lo' := [some (.ref 0), some (.int x1), some (.int x2), some (.int x3), none]) (st' := [.int (J 3 15), .int x3]) (I' := J) (L' := L) (R' := zw_RM) rfl ?_
    refine zv_icmp_ge (tgt := 92) (zs_at rfl) (by decide) (fun c52 => ?_) (fun c52 => ?_)
    · have h := mo_t h c52
      refine zv_fg (lo' := [some (.ref 0), some (.int x1), some (.int x2), none, none]) (And.intro rfl (And.intro rfl (And.intro rfl (And.intro trivial (And.intro trivial rfl))))) ?_
      exact hK _ p h
    · have h := mo_f h c52
      refine zv_run 5 (pc' := 60) (lo' := [some (.ref 0), some (.int x1), some (.int x2), some (.int x3), none]) (st' := [.long ((1 : Int64) <<< (x3.toInt64 &&& 63)), .int x1, .ref 0]) (I' := J) (L' := L) (R' := zw_RM) rfl ?_
      obtain ⟨p60, e60, h⟩ := mo_b h
      refine zv_cVz (M' := mm_X10_isNobodyLate) (ci := 10) (a := 0) (av := [.int x1, .long ((1 : Int64) <<< (x3.toInt64 &&& 63))]) (st := []) (v := p60.1) (I' := p60.2) (L' := L) (R' := zw_RM) rfl zc_10_232 gd_X10_isNobodyLate rfl rfl rfl (Nat.le_of_ble_eq_true rfl) (mt_isNobodyLate (d := _) e60) ⟨Nat.le_refl _, Nat.le_refl _⟩ ?_
      intro b60
      refine zv_run 0 (pc' := 63) (lo' := [some (.ref 0), some (.int x1), some (.int x2), some (.int x3), none]) (st' := [.int p60.1]) (I' := p60.2) (L' := L) (R' := zw_RM) rfl ?_
      refine zv_if_eq (tgt := 86) (zs_at rfl) (by decide) (fun c63 => ?_) (fun c63 => ?_)
      · have h := mo_t h c63
        refine zv_run 2 (pc' := 44) (lo' := [some (.ref 0), some (.int x1), some (.int x2), some (.int (x3 + 1)), none]) (st' := []) (I' := p60.2) (L' := L) (R' := zw_RM) rfl ?_
        exact ih _ _ p h
      · have h := mo_f h c63
        refine zv_run 1 (pc' := 67) (lo' := [some (.ref 0), some (.int x1), some (.int x2), some (.int x3), none]) (st' := [.int x2]) (I' := p60.2) (L' := L) (R' := zw_RM) rfl ?_
        refine zv_if_ne (tgt := 74) (zs_at rfl) (by decide) (fun c67 => ?_) (fun c67 => ?_)
        · have h := mo_f h c67
          refine zv_run 2 (pc' := 76) (lo' := [some (.ref 0), some (.int x1), some (.int x2), some (.int x3), none]) (st' := [.int 1, .int x2]) (I' := p60.2) (L' := L) (R' := zw_RM) rfl ?_
          refine zv_icmp_ne (tgt := 83) (zs_at rfl) (by decide) (fun c76 => ?_) (fun c76 => ?_)
          · have h := mo_f h c76
            refine zv_run 1 (pc' := 85) (lo' := [some (.ref 0), some (.int x1), some (.int x2), some (.int x3), none]) (st' := [.int (-4)]) (I' := p60.2) (L' := L) (R' := zw_RM) rfl ?_
            obtain rfl := Option.some.inj h
            exact zv_iret (zs_at rfl) rfl ⟨Nat.le_refl _, Nat.le_refl _⟩ zw_here
          · have h := mo_t h c76
            refine zv_run 2 (pc' := 85) (lo' := [some (.ref 0), some (.int x1), some (.int x2), some (.int x3), none]) (st' := [.int x3]) (I' := p60.2) (L' := L) (R' := zw_RM) rfl ?_
            obtain rfl := Option.some.inj h
            exact zv_iret (zs_at rfl) rfl ⟨Nat.le_refl _, Nat.le_refl _⟩ zw_here
        · have h := mo_t h c67
          refine zv_run 2 (pc' := 85) (lo' := [some (.ref 0), some (.int x1), some (.int x2), some (.int x3), none]) (st' := [.int 1]) (I' := p60.2) (L' := L) (R' := zw_RM) rfl ?_
          obtain rfl := Option.some.inj h
          exact zv_iret (zs_at rfl) rfl ⟨Nat.le_refl _, Nat.le_refl _⟩ zw_here
theorem ml_fewest_110 {n d : Nat} {x1 : Int32} {x2 : Int32} {x3 : Int32} {L : zx_L} {K : zx_I → Option (Int32 × zx_I)} (hK : ∀ (J : zx_I) (p : Int32 × zx_I), K J = some p → zx_V mm_X10_fewest (d + 7) z0 (zw_ret (some (.int p.1)) zw_SM p.2 L zw_RM) zw_SM 164 [some (.ref 0), some (.int x1), some (.int x2), some (.int x3), none] [] J L zw_RM) : ∀ (k : Nat) (x4 : Int32) (J : zx_I) (p : Int32 × zx_I), mf_fewest_110 n x1 x2 x3 K k x4 J = some p → zx_V mm_X10_fewest (d + 7) z0 (zw_ret (some (.int p.1)) zw_SM p.2 L zw_RM) zw_SM 110 [some (.ref 0), some (.int x1), some (.int x2), some (.int x3), some (.int x4)] [] J L zw_RM := by
  intro k
  induction k with
  | zero =>
    intro x4 J p h
    exact absurd (show (none : Option (Int32 × zx_I)) = some p from h) (by intro q; cases q)
  | succ k ih =>
    intro x4 J p h
    have h : mf_fewest_110_b n x1 x2 x3 K (mf_fewest_110 n x1 x2 x3 K k) x4 J = some p := h
    unfold mf_fewest_110_b at h
    refine zv_run 5 (pc' := 119) (lo' := [some (.ref 0), some (.int x1), some (.int x2), some (.int x3), some (.int x4)]) (st' := [.int (J 3 15), .int x4]) (I' := J) (L' := L) (R' := zw_RM) rfl ?_
    refine zv_icmp_ge (tgt := 164) (zs_at rfl) (by decide) (fun c119 => ?_) (fun c119 => ?_)
    · have h := mo_t h c119
      refine zv_fg (lo' := [some (.ref 0), some (.int x1), some (.int x2), some (.int x3), none]) (And.intro rfl (And.intro rfl (And.intro rfl (And.intro rfl (And.intro trivial rfl))))) ?_
      exact hK _ p h
    · have h := mo_f h c119
      refine zv_run 9 (pc' := 132) (lo' := [some (.ref 0), some (.int x1), some (.int x2), some (.int x3), some (.int x4)]) (st' := [.long (((1 : Int64) <<< (x3.toInt64 &&& 63)) ||| ((1 : Int64) <<< (x4.toInt64 &&& 63))), .int x1, .ref 0]) (I' := J) (L' := L) (R' := zw_RM) rfl ?_
      obtain ⟨p132, e132, h⟩ := mo_b h
      refine zv_cVz (M' := mm_X10_isNobodyLate) (ci := 10) (a := 0) (av := [.int x1, .long (((1 : Int64) <<< (x3.toInt64 &&& 63)) ||| ((1 : Int64) <<< (x4.toInt64 &&& 63)))]) (st := []) (v := p132.1) (I' := p132.2) (L' := L) (R' := zw_RM) rfl zc_10_232 gd_X10_isNobodyLate rfl rfl rfl (Nat.le_of_ble_eq_true rfl) (mt_isNobodyLate (d := _) e132) ⟨Nat.le_refl _, Nat.le_refl _⟩ ?_
      intro b132
      refine zv_run 0 (pc' := 135) (lo' := [some (.ref 0), some (.int x1), some (.int x2), some (.int x3), some (.int x4)]) (st' := [.int p132.1]) (I' := p132.2) (L' := L) (R' := zw_RM) rfl ?_
      refine zv_if_eq (tgt := 158) (zs_at rfl) (by decide) (fun c135 => ?_) (fun c135 => ?_)
      · have h := mo_t h c135
        refine zv_run 2 (pc' := 110) (lo' := [some (.ref 0), some (.int x1), some (.int x2), some (.int x3), some (.int (x4 + 1))]) (st' := []) (I' := p132.2) (L' := L) (R' := zw_RM) rfl ?_
        exact ih _ _ p h
      · have h := mo_f h c135
        refine zv_run 1 (pc' := 139) (lo' := [some (.ref 0), some (.int x1), some (.int x2), some (.int x3), some (.int x4)]) (st' := [.int x2]) (I' := p132.2) (L' := L) (R' := zw_RM) rfl ?_
        refine zv_if_ne (tgt := 146) (zs_at rfl) (by decide) (fun c139 => ?_) (fun c139 => ?_)
        · have h := mo_f h c139
          refine zv_run 2 (pc' := 148) (lo' := [some (.ref 0), some (.int x1), some (.int x2), some (.int x3), some (.int x4)]) (st' := [.int 1, .int x2]) (I' := p132.2) (L' := L) (R' := zw_RM) rfl ?_
          refine zv_icmp_ne (tgt := 155) (zs_at rfl) (by decide) (fun c148 => ?_) (fun c148 => ?_)
          · have h := mo_f h c148
            refine zv_run 1 (pc' := 157) (lo' := [some (.ref 0), some (.int x1), some (.int x2), some (.int x3), some (.int x4)]) (st' := [.int x4]) (I' := p132.2) (L' := L) (R' := zw_RM) rfl ?_
            obtain rfl := Option.some.inj h
            exact zv_iret (zs_at rfl) rfl ⟨Nat.le_refl _, Nat.le_refl _⟩ zw_here
          · have h := mo_t h c148
            refine zv_run 2 (pc' := 157) (lo' := [some (.ref 0), some (.int x1), some (.int x2), some (.int x3), some (.int x4)]) (st' := [.int x3]) (I' := p132.2) (L' := L) (R' := zw_RM) rfl ?_
            obtain rfl := Option.some.inj h
            exact zv_iret (zs_at rfl) rfl ⟨Nat.le_refl _, Nat.le_refl _⟩ zw_here
        · have h := mo_t h c139
          refine zv_run 2 (pc' := 157) (lo' := [some (.ref 0), some (.int x1), some (.int x2), some (.int x3), some (.int x4)]) (st' := [.int 2]) (I' := p132.2) (L' := L) (R' := zw_RM) rfl ?_
          obtain rfl := Option.some.inj h
          exact zv_iret (zs_at rfl) rfl ⟨Nat.le_refl _, Nat.le_refl _⟩ zw_here
theorem ml_fewest_94 {n d : Nat} {x1 : Int32} {x2 : Int32} {L : zx_L} {K : zx_I → Option (Int32 × zx_I)} (hK : ∀ (J : zx_I) (p : Int32 × zx_I), K J = some p → zx_V mm_X10_fewest (d + 7) z0 (zw_ret (some (.int p.1)) zw_SM p.2 L zw_RM) zw_SM 170 [some (.ref 0), some (.int x1), some (.int x2), none, none] [] J L zw_RM) : ∀ (k : Nat) (x3 : Int32) (J : zx_I) (p : Int32 × zx_I), mf_fewest_94 n x1 x2 K k x3 J = some p → zx_V mm_X10_fewest (d + 7) z0 (zw_ret (some (.int p.1)) zw_SM p.2 L zw_RM) zw_SM 94 [some (.ref 0), some (.int x1), some (.int x2), some (.int x3), none] [] J L zw_RM := by
  intro k
  induction k with
  | zero =>
    intro x3 J p h
    exact absurd (show (none : Option (Int32 × zx_I)) = some p from h) (by intro q; cases q)
  | succ k ih =>
    intro x3 J p h
    have h : mf_fewest_94_b n x1 x2 K (mf_fewest_94 n x1 x2 K k) x3 J = some p := h
    unfold mf_fewest_94_b at h
    refine zv_run 5 (pc' := 102) (lo' := [some (.ref 0), some (.int x1), some (.int x2), some (.int x3), none]) (st' := [.int (J 3 15), .int x3]) (I' := J) (L' := L) (R' := zw_RM) rfl ?_
    refine zv_icmp_ge (tgt := 170) (zs_at rfl) (by decide) (fun c102 => ?_) (fun c102 => ?_)
    · have h := mo_t h c102
      refine zv_fg (lo' := [some (.ref 0), some (.int x1), some (.int x2), none, none]) (And.intro rfl (And.intro rfl (And.intro rfl (And.intro trivial (And.intro trivial rfl))))) ?_
      exact hK _ p h
    · have h := mo_f h c102
      refine zv_run 4 (pc' := 110) (lo' := [some (.ref 0), some (.int x1), some (.int x2), some (.int x3), some (.int (x3 + 1))]) (st' := []) (I' := J) (L' := L) (R' := zw_RM) rfl ?_
      refine ml_fewest_110 (fun J_110 p h => ?_) n _ _ p h
      refine zv_run 2 (pc' := 94) (lo' := [some (.ref 0), some (.int x1), some (.int x2), some (.int (x3 + 1)), none]) (st' := []) (I' := J_110) (L' := L) (R' := zw_RM) rfl ?_
      exact ih _ _ p h
theorem mt_fewest {d n : Nat} {x1 : Int32} {x2 : Int32} {J : zx_I} {L : zx_L} {p : Int32 × zx_I} (h : mf_fewest n x1 x2 J = some p) : zx_M0 mm_X10_fewest (d + 7) 0 0 [.ref 0, .int x1, .int x2] zw_SM J L zw_RM (zw_ret (some (.int p.1)) zw_SM p.2 L zw_RM) := by
  unfold mf_fewest at h
  refine zv_entry gd_X10_fewest (Nat.le_of_ble_eq_true rfl) ?_
  refine zv_run 1 (pc' := 1) (lo' := [some (.ref 0), some (.int x1), some (.int x2), none, none]) (st' := [.int x1]) (I' := J) (L' := L) (R' := zw_RM) rfl ?_
  refine zv_cSz (M' := mm_X10_isRule) (av := [.int x1]) (st := []) (v := (mf_isRule x1)) (I' := J) (L' := L) (R' := zw_RM) rfl zc_10_219 gd_X10_isRule rfl (Nat.le_of_ble_eq_true rfl) (mt_isRule (d := _) rfl) ⟨Nat.le_refl _, Nat.le_refl _⟩ ?_
  intro b1
  refine zv_run 0 (pc' := 4) (lo' := [some (.ref 0), some (.int x1), some (.int x2), none, none]) (st' := [.int (mf_isRule x1)]) (I' := J) (L' := L) (R' := zw_RM) rfl ?_
  refine zv_if_eq (tgt := 16) (zs_at rfl) (by decide) (fun c4 => ?_) (fun c4 => ?_)
  · have h := mo_t h c4
    refine zv_run 1 (pc' := 17) (lo' := [some (.ref 0), some (.int x1), some (.int x2), none, none]) (st' := [.int (-1)]) (I' := J) (L' := L) (R' := zw_RM) rfl ?_
    obtain rfl := Option.some.inj h
    exact zv_iret (zs_at rfl) rfl ⟨Nat.le_refl _, Nat.le_refl _⟩ zw_here
  · have h := mo_f h c4
    refine zv_run 3 (pc' := 10) (lo' := [some (.ref 0), some (.int x1), some (.int x2), none, none]) (st' := [.int 2, .int 0, .int x2]) (I' := J) (L' := L) (R' := zw_RM) rfl ?_
    refine zv_cSz (M' := mm_X10_in) (av := [.int x2, .int 0, .int 2]) (st := []) (v := (mf_in x2 (0 : Int32) (2 : Int32))) (I' := J) (L' := L) (R' := zw_RM) rfl zc_10_86 gd_X10_in rfl (Nat.le_of_ble_eq_true rfl) (mt_in (d := _) rfl) ⟨Nat.le_refl _, Nat.le_refl _⟩ ?_
    intro b10
    refine zv_run 0 (pc' := 13) (lo' := [some (.ref 0), some (.int x1), some (.int x2), none, none]) (st' := [.int (mf_in x2 (0 : Int32) (2 : Int32))]) (I' := J) (L' := L) (R' := zw_RM) rfl ?_
    refine zv_if_ne (tgt := 18) (zs_at rfl) (by decide) (fun c13 => ?_) (fun c13 => ?_)
    · have h := mo_f h c13
      refine zv_run 1 (pc' := 19) (lo' := [some (.ref 0), some (.int x1), some (.int x2), none, none]) (st' := [.ref 0]) (I' := J) (L' := L) (R' := zw_RM) rfl ?_
      obtain ⟨p19, e19, h⟩ := mo_b h
      refine zv_cV (M' := mm_X10_asTold) (ci := 10) (a := 0) (av := []) (st := []) (r := none) (I' := p19) (L' := L) (R' := zw_RM) rfl zc_10_212 gd_X10_asTold rfl rfl rfl (Nat.le_of_ble_eq_true rfl) (mt_asTold (d := _) e19) ⟨Nat.le_refl _, Nat.le_refl _⟩ ?_
      refine zv_run 0 (pc' := 22) (lo' := [some (.ref 0), some (.int x1), some (.int x2), none, none]) (st' := []) (I' := p19) (L' := L) (R' := zw_RM) rfl ?_
      refine zv_run 3 (pc' := 25) (lo' := [some (.ref 0), some (.int x1), some (.int x2), none, none]) (st' := [.long (0 : Int64), .int x1, .ref 0]) (I' := p19) (L' := L) (R' := zw_RM) rfl ?_
      obtain ⟨p25, e25, h⟩ := mo_b h
      refine zv_cVz (M' := mm_X10_isNobodyLate) (ci := 10) (a := 0) (av := [.int x1, .long (0 : Int64)]) (st := []) (v := p25.1) (I' := p25.2) (L' := L) (R' := zw_RM) rfl zc_10_232 gd_X10_isNobodyLate rfl rfl rfl (Nat.le_of_ble_eq_true rfl) (mt_isNobodyLate (d := _) e25) ⟨Nat.le_refl _, Nat.le_refl _⟩ ?_
      intro b25
      refine zv_run 0 (pc' := 28) (lo' := [some (.ref 0), some (.int x1), some (.int x2), none, none]) (st' := [.int p25.1]) (I' := p25.2) (L' := L) (R' := zw_RM) rfl ?_
      refine zv_if_eq (tgt := 42) (zs_at rfl) (by decide) (fun c28 => ?_) (fun c28 => ?_)
      · have h := mo_t h c28
        refine zv_run 2 (pc' := 44) (lo' := [some (.ref 0), some (.int x1), some (.int x2), some (.int 0), none]) (st' := []) (I' := p25.2) (L' := L) (R' := zw_RM) rfl ?_
        refine ml_fewest_44 (fun J_44 p h => ?_) n _ _ p h
        refine zv_run 2 (pc' := 94) (lo' := [some (.ref 0), some (.int x1), some (.int x2), some (.int 0), none]) (st' := []) (I' := J_44) (L' := L) (R' := zw_RM) rfl ?_
        refine ml_fewest_94 (fun J_94 p h => ?_) n _ _ p h
        refine zv_run 1 (pc' := 172) (lo' := [some (.ref 0), some (.int x1), some (.int x2), none, none]) (st' := [.int (-4)]) (I' := J_94) (L' := L) (R' := zw_RM) rfl ?_
        obtain rfl := Option.some.inj h
        exact zv_iret (zs_at rfl) rfl ⟨Nat.le_refl _, Nat.le_refl _⟩ zw_here
      · have h := mo_f h c28
        refine zv_run 1 (pc' := 32) (lo' := [some (.ref 0), some (.int x1), some (.int x2), none, none]) (st' := [.int x2]) (I' := p25.2) (L' := L) (R' := zw_RM) rfl ?_
        refine zv_if_ne (tgt := 39) (zs_at rfl) (by decide) (fun c32 => ?_) (fun c32 => ?_)
        · have h := mo_f h c32
          refine zv_run 1 (pc' := 41) (lo' := [some (.ref 0), some (.int x1), some (.int x2), none, none]) (st' := [.int (-4)]) (I' := p25.2) (L' := L) (R' := zw_RM) rfl ?_
          obtain rfl := Option.some.inj h
          exact zv_iret (zs_at rfl) rfl ⟨Nat.le_refl _, Nat.le_refl _⟩ zw_here
        · have h := mo_t h c32
          refine zv_run 2 (pc' := 41) (lo' := [some (.ref 0), some (.int x1), some (.int x2), none, none]) (st' := [.int 0]) (I' := p25.2) (L' := L) (R' := zw_RM) rfl ?_
          obtain rfl := Option.some.inj h
          exact zv_iret (zs_at rfl) rfl ⟨Nat.le_refl _, Nat.le_refl _⟩ zw_here
    · have h := mo_t h c13
      refine zv_run 1 (pc' := 17) (lo' := [some (.ref 0), some (.int x1), some (.int x2), none, none]) (st' := [.int (-1)]) (I' := J) (L' := L) (R' := zw_RM) rfl ?_
      obtain rfl := Option.some.inj h
      exact zv_iret (zs_at rfl) rfl ⟨Nat.le_refl _, Nat.le_refl _⟩ zw_here
def mf_bigger_38_b (n : Nat) (x1 : Int32) (x2 : Int32) (L : zx_L) (K : zx_I → Option (Int32 × zx_I)) (Z : Int32 → zx_I → Option (Int32 × zx_I)) (x3 : Int32) (J : zx_I) : Option (Int32 × zx_I) := (if (65 : Int32) ≤ x3 then K J else (mo_g (mo_in x3 65) (mo_g (mo_in x3 65) (Z (x3 + 1) (zx_uI J 2 x3.toNatClampNeg (J 3 x3.toNatClampNeg))))))
def mf_bigger_38 (n : Nat) (x1 : Int32) (x2 : Int32) (L : zx_L) (K : zx_I → Option (Int32 × zx_I)) : Nat → Int32 → zx_I → Option (Int32 × zx_I)
  | 0 => fun _ _ => none
  | k + 1 => mf_bigger_38_b n x1 x2 L K (mf_bigger_38 n x1 x2 L K k)
def mf_bigger_110_b (n : Nat) (x1 : Int32) (x2 : Int32) (L : zx_L) (K : zx_I → Option (Int32 × zx_I)) (Z : Int32 → zx_I → Option (Int32 × zx_I)) (x3 : Int32) (J : zx_I) : Option (Int32 × zx_I) := (if (3 : Int32) ≤ x3 then K J else (if x2 = (2 : Int32) then (mo_g (mo_in (5 + (2 * x3)) 65) (mo_g (mo_in (5 + (2 * x3)) 65) (mo_g (mo_in (5 + (2 * x3)) 65) (Z (x3 + 1) (zx_uI J 3 ((5 + (2 * x3)).toNatClampNeg) ((J 3 ((5 + (2 * x3)).toNatClampNeg)) + ((J 3 ((5 + (2 * x3)).toNatClampNeg)) / 10))))))) else K J))
def mf_bigger_110 (n : Nat) (x1 : Int32) (x2 : Int32) (L : zx_L) (K : zx_I → Option (Int32 × zx_I)) : Nat → Int32 → zx_I → Option (Int32 × zx_I)
  | 0 => fun _ _ => none
  | k + 1 => mf_bigger_110_b n x1 x2 L K (mf_bigger_110 n x1 x2 L K k)
def mf_bigger_213_b (n : Nat) (x3 : Int32) (L : zx_L) (K : zx_I → Option (Int32 × zx_I)) (Z : Int32 → zx_I → Option (Int32 × zx_I)) (x4 : Int32) (J : zx_I) : Option (Int32 × zx_I) := (if (65 : Int32) ≤ x4 then K J else (mo_g (mo_in x4 65) (mo_g (mo_in x4 65) (Z (x4 + 1) (zx_uI J 3 x4.toNatClampNeg (J 2 x4.toNatClampNeg))))))
def mf_bigger_213 (n : Nat) (x3 : Int32) (L : zx_L) (K : zx_I → Option (Int32 × zx_I)) : Nat → Int32 → zx_I → Option (Int32 × zx_I)
  | 0 => fun _ _ => none
  | k + 1 => mf_bigger_213_b n x3 L K (mf_bigger_213 n x3 L K k)
def mf_bigger (n : Nat) (x1 : Int32) (x2 : Int32) (J : zx_I) (L : zx_L) : Option (Int32 × zx_I) := (if (mf_isRule x1) = 0 then some ((-1 : Int32), J) else (if (mf_in x2 (0 : Int32) (3 : Int32)) = 0 then some ((-1 : Int32), J) else (if x2 = 0 then (if (J 3 0) = (6 : Int32) then some ((-2 : Int32), J) else (mf_bigger_38 n x1 x2 L (fun J_38 => (((if x2 = 0 then some ((1 : Int32)) else some ((0 : Int32))) : Option (Int32)).bind fun v70 => (((if x2 = (1 : Int32) then some (((J_38 3 4) / 2)) else some ((J_38 3 4))) : Option (Int32)).bind fun v87 => (mf_bigger_110 n x1 x2 L (fun J_110 => (((if x2 = (3 : Int32) then (if ((J_110 3 13) + 10) ≤ (30 : Int32) then some (((J_110 3 13) + 10)) else some ((30 : Int32))) else some ((J_110 3 13))) : Option (Int32)).bind fun v160 => ((mf_scoreOf n x1 (zx_uI J_110 3 13 v160) L).bind fun p206 => (mf_bigger_213 n p206.1 L (fun J_213 => some (p206.1, J_213)) n (0 : Int32) p206.2)))) n (0 : Int32) (zx_uI (zx_uI J_38 3 0 ((J_38 3 0) + v70)) 3 4 v87))))) n (0 : Int32) J)) else (mf_bigger_38 n x1 x2 L (fun J_38 => (((if x2 = 0 then some ((1 : Int32)) else some ((0 : Int32))) : Option (Int32)).bind fun v70 => (((if x2 = (1 : Int32) then some (((J_38 3 4) / 2)) else some ((J_38 3 4))) : Option (Int32)).bind fun v87 => (mf_bigger_110 n x1 x2 L (fun J_110 => (((if x2 = (3 : Int32) then (if ((J_110 3 13) + 10) ≤ (30 : Int32) then some (((J_110 3 13) + 10)) else some ((30 : Int32))) else some ((J_110 3 13))) : Option (Int32)).bind fun v160 => ((mf_scoreOf n x1 (zx_uI J_110 3 13 v160) L).bind fun p206 => (mf_bigger_213 n p206.1 L (fun J_213 => some (p206.1, J_213)) n (0 : Int32) p206.2)))) n (0 : Int32) (zx_uI (zx_uI J_38 3 0 ((J_38 3 0) + v70)) 3 4 v87))))) n (0 : Int32) J))))
theorem ml_bigger_38 {n d : Nat} {x1 : Int32} {x2 : Int32} {L : zx_L} {K : zx_I → Option (Int32 × zx_I)} (hK : ∀ (J : zx_I) (p : Int32 × zx_I), K J = some p → zx_V mm_X10_bigger (d + 7) z0 (zw_ret (some (.int p.1)) zw_SM p.2 L zw_RM) zw_SM 62 [some (.ref 0), some (.int x1), some (.int x2), none, none] [] J L zw_RM) : ∀ (k : Nat) (x3 : Int32) (J : zx_I) (p : Int32 × zx_I), mf_bigger_38 n x1 x2 L K k x3 J = some p → zx_V mm_X10_bigger (d + 7) z0 (zw_ret (some (.int p.1)) zw_SM p.2 L zw_RM) zw_SM 38 [some (.ref 0), some (.int x1), some (.int x2), some (.int x3), none] [] J L zw_RM := by
  intro k
  induction k with
  | zero =>
    intro x3 J p h
    exact absurd (show (none : Option (Int32 × zx_I)) = some p from h) (by intro q; cases q)
  | succ k ih =>
    intro x3 J p h
    have h : mf_bigger_38_b n x1 x2 L K (mf_bigger_38 n x1 x2 L K k) x3 J = some p := h
    unfold mf_bigger_38_b at h
    refine zv_run 2 (pc' := 41) (lo' := [some (.ref 0), some (.int x1), some (.int x2), some (.int x3), none]) (st' := [.int 65, .int x3]) (I' := J) (L' := L) (R' := zw_RM) rfl ?_
    refine zv_icmp_ge (tgt := 62) (zs_at rfl) (by decide) (fun c41 => ?_) (fun c41 => ?_)
    · have h := mo_t h c41
      refine zv_fg (lo' := [some (.ref 0), some (.int x1), some (.int x2), none, none]) (And.intro rfl (And.intro rfl (And.intro rfl (And.intro trivial (And.intro trivial rfl))))) ?_
      exact hK _ p h
    · have h := mo_f h c41
      refine zv_run 6 (pc' := 54) (lo' := [some (.ref 0), some (.int x1), some (.int x2), some (.int x3), none]) (st' := [.int x3, .ref 3, .int x3, .ref 2]) (I' := J) (L' := L) (R' := zw_RM) rfl ?_
      obtain ⟨g54, h⟩ := mo_gs h
      refine zv_iald (zs_at rfl) rfl (mo_in_vp g54) ?_
      refine zv_run 0 (pc' := 55) (lo' := [some (.ref 0), some (.int x1), some (.int x2), some (.int x3), none]) (st' := [.int (J 3 x3.toNatClampNeg), .int x3, .ref 2]) (I' := J) (L' := L) (R' := zw_RM) rfl ?_
      obtain ⟨g55, h⟩ := mo_gs h
      refine zv_iast (zs_at rfl) rfl (mo_in_vp g55) ?_
      refine zv_run 2 (pc' := 38) (lo' := [some (.ref 0), some (.int x1), some (.int x2), some (.int (x3 + 1)), none]) (st' := []) (I' := (zx_uI J 2 x3.toNatClampNeg (J 3 x3.toNatClampNeg))) (L' := L) (R' := zw_RM) rfl ?_
      exact ih _ _ p h
theorem ml_bigger_110 {n d : Nat} {x1 : Int32} {x2 : Int32} {L : zx_L} {K : zx_I → Option (Int32 × zx_I)} (hK : ∀ (J : zx_I) (p : Int32 × zx_I), K J = some p → zx_V mm_X10_bigger (d + 7) z0 (zw_ret (some (.int p.1)) zw_SM p.2 L zw_RM) zw_SM 152 [some (.ref 0), some (.int x1), some (.int x2), none, none] [] J L zw_RM) : ∀ (k : Nat) (x3 : Int32) (J : zx_I) (p : Int32 × zx_I), mf_bigger_110 n x1 x2 L K k x3 J = some p → zx_V mm_X10_bigger (d + 7) z0 (zw_ret (some (.int p.1)) zw_SM p.2 L zw_RM) zw_SM 110 [some (.ref 0), some (.int x1), some (.int x2), some (.int x3), none] [] J L zw_RM := by
  intro k
  induction k with
  | zero =>
    intro x3 J p h
    exact absurd (show (none : Option (Int32 × zx_I)) = some p from h) (by intro q; cases q)
  | succ k ih =>
    intro x3 J p h
    have h : mf_bigger_110_b n x1 x2 L K (mf_bigger_110 n x1 x2 L K k) x3 J = some p := h
    unfold mf_bigger_110_b at h
    refine zv_run 2 (pc' := 112) (lo' := [some (.ref 0), some (.int x1), some (.int x2), some (.int x3), none]) (st' := [.int 3, .int x3]) (I' := J) (L' := L) (R' := zw_RM) rfl ?_
    refine zv_icmp_ge (tgt := 152) (zs_at rfl) (by decide) (fun c112 => ?_) (fun c112 => ?_)
    · have h := mo_t h c112
      refine zv_fg (lo' := [some (.ref 0), some (.int x1), some (.int x2), none, none]) (And.intro rfl (And.intro rfl (And.intro rfl (And.intro trivial (And.intro trivial rfl))))) ?_
      exact hK _ p h
    · have h := mo_f h c112
      refine zv_run 2 (pc' := 117) (lo' := [some (.ref 0), some (.int x1), some (.int x2), some (.int x3), none]) (st' := [.int 2, .int x2]) (I' := J) (L' := L) (R' := zw_RM) rfl ?_
      refine zv_icmp_ne (tgt := 152) (zs_at rfl) (by decide) (fun c117 => ?_) (fun c117 => ?_)
      · have h := mo_f h c117
        refine zv_fg (lo' := [some (.ref 0), some (.int x1), some (.int x2), none, none]) (And.intro rfl (And.intro rfl (And.intro rfl (And.intro trivial (And.intro trivial rfl))))) ?_
        exact hK _ p h
      · have h := mo_t h c117
        refine zv_run 8 (pc' := 130) (lo' := [some (.ref 0), some (.int x1), some (.int x2), some (.int x3), none]) (st' := [.int (5 + (2 * x3)), .ref 3, .int (5 + (2 * x3)), .ref 3]) (I' := J) (L' := L) (R' := zw_RM) rfl ?_
        obtain ⟨g130, h⟩ := mo_gs h
        refine zv_iald (zs_at rfl) rfl (mo_in_vp g130) ?_
        refine zv_run 0 (pc' := 131) (lo' := [some (.ref 0), some (.int x1), some (.int x2), some (.int x3), none]) (st' := [.int (J 3 ((5 + (2 * x3)).toNatClampNeg)), .int (5 + (2 * x3)), .ref 3]) (I' := J) (L' := L) (R' := zw_RM) rfl ?_
        refine zv_run 7 (pc' := 140) (lo' := [some (.ref 0), some (.int x1), some (.int x2), some (.int x3), none]) (st' := [.int (5 + (2 * x3)), .ref 3, .int (J 3 ((5 + (2 * x3)).toNatClampNeg)), .int (5 + (2 * x3)), .ref 3]) (I' := J) (L' := L) (R' := zw_RM) rfl ?_
        obtain ⟨g140, h⟩ := mo_gs h
        refine zv_iald (zs_at rfl) rfl (mo_in_vp g140) ?_
        refine zv_run 0 (pc' := 141) (lo' := [some (.ref 0), some (.int x1), some (.int x2), some (.int x3), none]) (st' := [.int (J 3 ((5 + (2 * x3)).toNatClampNeg)), .int (J 3 ((5 + (2 * x3)).toNatClampNeg)), .int (5 + (2 * x3)), .ref 3]) (I' := J) (L' := L) (R' := zw_RM) rfl ?_
        refine zv_run 3 (pc' := 145) (lo' := [some (.ref 0), some (.int x1), some (.int x2), some (.int x3), none]) (st' := [.int ((J 3 ((5 + (2 * x3)).toNatClampNeg)) + ((J 3 ((5 + (2 * x3)).toNatClampNeg)) / 10)), .int (5 + (2 * x3)), .ref 3]) (I' := J) (L' := L) (R' := zw_RM) rfl ?_
        obtain ⟨g145, h⟩ := mo_gs h
        refine zv_iast (zs_at rfl) rfl (mo_in_vp g145) ?_
        refine zv_run 2 (pc' := 110) (lo' := [some (.ref 0), some (.int x1), some (.int x2), some (.int (x3 + 1)), none]) (st' := []) (I' := (zx_uI J 3 ((5 + (2 * x3)).toNatClampNeg) ((J 3 ((5 + (2 * x3)).toNatClampNeg)) + ((J 3 ((5 + (2 * x3)).toNatClampNeg)) / 10)))) (L' := L) (R' := zw_RM) rfl ?_
        exact ih _ _ p h
theorem ml_bigger_213 {n d : Nat} {x3 : Int32} {L : zx_L} {K : zx_I → Option (Int32 × zx_I)} (hK : ∀ (J : zx_I) (p : Int32 × zx_I), K J = some p → zx_V mm_X10_bigger (d + 7) z0 (zw_ret (some (.int p.1)) zw_SM p.2 L zw_RM) zw_SM 240 [some (.ref 0), none, none, some (.int x3), none] [] J L zw_RM) : ∀ (k : Nat) (x4 : Int32) (J : zx_I) (p : Int32 × zx_I), mf_bigger_213 n x3 L K k x4 J = some p → zx_V mm_X10_bigger (d + 7) z0 (zw_ret (some (.int p.1)) zw_SM p.2 L zw_RM) zw_SM 213 [some (.ref 0), none, none, some (.int x3), some (.int x4)] [] J L zw_RM := by
  intro k
  induction k with
  | zero =>
    intro x4 J p h
    exact absurd (show (none : Option (Int32 × zx_I)) = some p from h) (by intro q; cases q)
  | succ k ih =>
    intro x4 J p h
    have h : mf_bigger_213_b n x3 L K (mf_bigger_213 n x3 L K k) x4 J = some p := h
    unfold mf_bigger_213_b at h
    refine zv_run 2 (pc' := 217) (lo' := [some (.ref 0), none, none, some (.int x3), some (.int x4)]) (st' := [.int 65, .int x4]) (I' := J) (L' := L) (R' := zw_RM) rfl ?_
    refine zv_icmp_ge (tgt := 240) (zs_at rfl) (by decide) (fun c217 => ?_) (fun c217 => ?_)
    · have h := mo_t h c217
      refine zv_fg (lo' := [some (.ref 0), none, none, some (.int x3), none]) (And.intro rfl (And.intro trivial (And.intro trivial (And.intro rfl (And.intro trivial rfl))))) ?_
      exact hK _ p h
    · have h := mo_f h c217
      refine zv_run 6 (pc' := 232) (lo' := [some (.ref 0), none, none, some (.int x3), some (.int x4)]) (st' := [.int x4, .ref 2, .int x4, .ref 3]) (I' := J) (L' := L) (R' := zw_RM) rfl ?_
      obtain ⟨g232, h⟩ := mo_gs h
      refine zv_iald (zs_at rfl) rfl (mo_in_vp g232) ?_
      refine zv_run 0 (pc' := 233) (lo' := [some (.ref 0), none, none, some (.int x3), some (.int x4)]) (st' := [.int (J 2 x4.toNatClampNeg), .int x4, .ref 3]) (I' := J) (L' := L) (R' := zw_RM) rfl ?_
      obtain ⟨g233, h⟩ := mo_gs h
      refine zv_iast (zs_at rfl) rfl (mo_in_vp g233) ?_
      refine zv_run 2 (pc' := 213) (lo' := [some (.ref 0), none, none, some (.int x3), some (.int (x4 + 1))]) (st' := []) (I' := (zx_uI J 3 x4.toNatClampNeg (J 2 x4.toNatClampNeg))) (L' := L) (R' := zw_RM) rfl ?_
      exact ih _ _ p h
theorem mt_bigger {d n : Nat} {x1 : Int32} {x2 : Int32} {J : zx_I} {L : zx_L} {p : Int32 × zx_I} (h : mf_bigger n x1 x2 J L = some p) : zx_M0 mm_X10_bigger (d + 7) 0 0 [.ref 0, .int x1, .int x2] zw_SM J L zw_RM (zw_ret (some (.int p.1)) zw_SM p.2 L zw_RM) := by
  unfold mf_bigger at h
  refine zv_entry gd_X10_bigger (Nat.le_of_ble_eq_true rfl) ?_
  refine zv_run 1 (pc' := 1) (lo' := [some (.ref 0), some (.int x1), some (.int x2), none, none]) (st' := [.int x1]) (I' := J) (L' := L) (R' := zw_RM) rfl ?_
  refine zv_cSz (M' := mm_X10_isRule) (av := [.int x1]) (st := []) (v := (mf_isRule x1)) (I' := J) (L' := L) (R' := zw_RM) rfl zc_10_219 gd_X10_isRule rfl (Nat.le_of_ble_eq_true rfl) (mt_isRule (d := _) rfl) ⟨Nat.le_refl _, Nat.le_refl _⟩ ?_
  intro b1
  refine zv_run 0 (pc' := 4) (lo' := [some (.ref 0), some (.int x1), some (.int x2), none, none]) (st' := [.int (mf_isRule x1)]) (I' := J) (L' := L) (R' := zw_RM) rfl ?_
  refine zv_if_eq (tgt := 16) (zs_at rfl) (by decide) (fun c4 => ?_) (fun c4 => ?_)
  · have h := mo_t h c4
    refine zv_run 1 (pc' := 17) (lo' := [some (.ref 0), some (.int x1), some (.int x2), none, none]) (st' := [.int (-1)]) (I' := J) (L' := L) (R' := zw_RM) rfl ?_
    obtain rfl := Option.some.inj h
    exact zv_iret (zs_at rfl) rfl ⟨Nat.le_refl _, Nat.le_refl _⟩ zw_here
  · have h := mo_f h c4
    refine zv_run 3 (pc' := 10) (lo' := [some (.ref 0), some (.int x1), some (.int x2), none, none]) (st' := [.int 3, .int 0, .int x2]) (I' := J) (L' := L) (R' := zw_RM) rfl ?_
    refine zv_cSz (M' := mm_X10_in) (av := [.int x2, .int 0, .int 3]) (st := []) (v := (mf_in x2 (0 : Int32) (3 : Int32))) (I' := J) (L' := L) (R' := zw_RM) rfl zc_10_86 gd_X10_in rfl (Nat.le_of_ble_eq_true rfl) (mt_in (d := _) rfl) ⟨Nat.le_refl _, Nat.le_refl _⟩ ?_
    intro b10
    refine zv_run 0 (pc' := 13) (lo' := [some (.ref 0), some (.int x1), some (.int x2), none, none]) (st' := [.int (mf_in x2 (0 : Int32) (3 : Int32))]) (I' := J) (L' := L) (R' := zw_RM) rfl ?_
    refine zv_if_ne (tgt := 18) (zs_at rfl) (by decide) (fun c13 => ?_) (fun c13 => ?_)
    · have h := mo_f h c13
      refine zv_run 1 (pc' := 19) (lo' := [some (.ref 0), some (.int x1), some (.int x2), none, none]) (st' := [.int x2]) (I' := J) (L' := L) (R' := zw_RM) rfl ?_
      refine zv_if_ne (tgt := 36) (zs_at rfl) (by decide) (fun c19 => ?_) (fun c19 => ?_)
      · have h := mo_f h c19
        refine zv_run 2 (pc' := 38) (lo' := [some (.ref 0), some (.int x1), some (.int x2), some (.int 0), none]) (st' := []) (I' := J) (L' := L) (R' := zw_RM) rfl ?_
        refine ml_bigger_38 (fun J_38 p h => ?_) n _ _ p h
        refine zv_run 6 (pc' := 70) (lo' := [some (.ref 0), some (.int x1), some (.int x2), none, none]) (st' := [.int x2, .int (J_38 3 0), .int 0, .ref 3]) (I' := J_38) (L' := L) (R' := zw_RM) rfl ?_
        obtain ⟨v70, e70, h⟩ := mo_b h
        have k70 : (v70 = 0 ∨ v70 = 1) → zx_V mm_X10_bigger (d + 7) z0 (zw_ret (some (.int p.1)) zw_SM p.2 L zw_RM) zw_SM 78 [some (.ref 0), some (.int x1), some (.int x2), none, none] [.int v70, .int (J_38 3 0), .int 0, .ref 3] J_38 L zw_RM := by
          intro b70_0
          clear e70
          refine zv_run 7 (pc' := 87) (lo' := [some (.ref 0), some (.int x1), some (.int x2), none, none]) (st' := [.int 1, .int x2, .int 4, .ref 3]) (I' := (zx_uI J_38 3 0 ((J_38 3 0) + v70))) (L' := L) (R' := zw_RM) rfl ?_
          obtain ⟨v87, e87, h⟩ := mo_b h
          have k87 : zx_V mm_X10_bigger (d + 7) z0 (zw_ret (some (.int p.1)) zw_SM p.2 L zw_RM) zw_SM 107 [some (.ref 0), some (.int x1), some (.int x2), none, none] [.int v87, .int 4, .ref 3] (zx_uI J_38 3 0 ((J_38 3 0) + v70)) L zw_RM := by
            clear e87
            refine zv_run 3 (pc' := 110) (lo' := [some (.ref 0), some (.int x1), some (.int x2), some (.int 0), none]) (st' := []) (I' := (zx_uI (zx_uI J_38 3 0 ((J_38 3 0) + v70)) 3 4 v87)) (L' := L) (R' := zw_RM) rfl ?_
            refine ml_bigger_110 (fun J_110 p h => ?_) n _ _ p h
            refine zv_run 5 (pc' := 160) (lo' := [some (.ref 0), some (.int x1), some (.int x2), none, none]) (st' := [.int 3, .int x2, .int 13, .ref 3]) (I' := J_110) (L' := L) (R' := zw_RM) rfl ?_
            obtain ⟨v160, e160, h⟩ := mo_b h
            have k160 : zx_V mm_X10_bigger (d + 7) z0 (zw_ret (some (.int p.1)) zw_SM p.2 L zw_RM) zw_SM 203 [some (.ref 0), some (.int x1), none, none, none] [.int v160, .int 13, .ref 3] J_110 L zw_RM := by
              clear e160
              refine zv_run 3 (pc' := 206) (lo' := [some (.ref 0), some (.int x1), none, none, none]) (st' := [.int x1, .ref 0]) (I' := (zx_uI J_110 3 13 v160)) (L' := L) (R' := zw_RM) rfl ?_
              obtain ⟨p206, e206, h⟩ := mo_b h
              refine zv_cV (M' := mm_X10_scoreOf) (ci := 10) (a := 0) (av := [.int x1]) (st := []) (r := some (.int p206.1)) (I' := p206.2) (L' := L) (R' := zw_RM) rfl zc_10_222 gd_X10_scoreOf rfl rfl rfl (Nat.le_of_ble_eq_true rfl) (mt_scoreOf (d := _) e206) ⟨Nat.le_refl _, Nat.le_refl _⟩ ?_
              refine zv_run 0 (pc' := 209) (lo' := [some (.ref 0), some (.int x1), none, none, none]) (st' := [.int p206.1]) (I' := p206.2) (L' := L) (R' := zw_RM) rfl ?_
              refine zv_run 3 (pc' := 213) (lo' := [some (.ref 0), some (.int x1), none, some (.int p206.1), some (.int 0)]) (st' := []) (I' := p206.2) (L' := L) (R' := zw_RM) rfl ?_
              refine zv_fg (lo' := [some (.ref 0), none, none, some (.int p206.1), some (.int 0)]) (And.intro rfl (And.intro trivial (And.intro trivial (And.intro rfl (And.intro rfl rfl))))) ?_
              refine ml_bigger_213 (fun J_213 p h => ?_) n _ _ p h
              refine zv_run 1 (pc' := 241) (lo' := [some (.ref 0), none, none, some (.int p206.1), none]) (st' := [.int p206.1]) (I' := J_213) (L' := L) (R' := zw_RM) rfl ?_
              obtain rfl := Option.some.inj h
              exact zv_iret (zs_at rfl) rfl ⟨Nat.le_refl _, Nat.le_refl _⟩ zw_here
            have h := e160
            refine zv_icmp_ne (tgt := 196) (zs_at rfl) (by decide) (fun c160 => ?_) (fun c160 => ?_)
            · have h := mo_f h c160
              refine zv_run 4 (pc' := 203) (lo' := [some (.ref 0), some (.int x1), some (.int x2), none, none]) (st' := [.int (J_110 3 13), .int 13, .ref 3]) (I' := J_110) (L' := L) (R' := zw_RM) rfl ?_
              obtain rfl := Option.some.inj h
              refine zv_fg (lo' := [some (.ref 0), some (.int x1), none, none, none]) (And.intro rfl (And.intro rfl (And.intro trivial (And.intro trivial (And.intro trivial rfl))))) ?_
              exact k160
            · have h := mo_t h c160
              refine zv_run 7 (pc' := 175) (lo' := [some (.ref 0), some (.int x1), some (.int x2), none, none]) (st' := [.int 30, .int ((J_110 3 13) + 10), .int 13, .ref 3]) (I' := J_110) (L' := L) (R' := zw_RM) rfl ?_
              refine zv_icmp_le (tgt := 183) (zs_at rfl) (by decide) (fun c175 => ?_) (fun c175 => ?_)
              · have h := mo_t h c175
                refine zv_run 7 (pc' := 203) (lo' := [some (.ref 0), some (.int x1), some (.int x2), none, none]) (st' := [.int ((J_110 3 13) + 10), .int 13, .ref 3]) (I' := J_110) (L' := L) (R' := zw_RM) rfl ?_
                obtain rfl := Option.some.inj h
                refine zv_fg (lo' := [some (.ref 0), some (.int x1), none, none, none]) (And.intro rfl (And.intro rfl (And.intro trivial (And.intro trivial (And.intro trivial rfl))))) ?_
                exact k160
              · have h := mo_f h c175
                refine zv_run 2 (pc' := 203) (lo' := [some (.ref 0), some (.int x1), some (.int x2), none, none]) (st' := [.int 30, .int 13, .ref 3]) (I' := J_110) (L' := L) (R' := zw_RM) rfl ?_
                obtain rfl := Option.some.inj h
                refine zv_fg (lo' := [some (.ref 0), some (.int x1), none, none, none]) (And.intro rfl (And.intro rfl (And.intro trivial (And.intro trivial (And.intro trivial rfl))))) ?_
                exact k160
          have h := e87
          refine zv_icmp_ne (tgt := 101) (zs_at rfl) (by decide) (fun c87 => ?_) (fun c87 => ?_)
          · have h := mo_f h c87
            refine zv_run 4 (pc' := 107) (lo' := [some (.ref 0), some (.int x1), some (.int x2), none, none]) (st' := [.int (J_38 3 4), .int 4, .ref 3]) (I' := (zx_uI J_38 3 0 ((J_38 3 0) + v70))) (L' := L) (R' := zw_RM) rfl ?_
            obtain rfl := Option.some.inj h
            exact k87
          · have h := mo_t h c87
            refine zv_run 7 (pc' := 107) (lo' := [some (.ref 0), some (.int x1), some (.int x2), none, none]) (st' := [.int ((J_38 3 4) / 2), .int 4, .ref 3]) (I' := (zx_uI J_38 3 0 ((J_38 3 0) + v70))) (L' := L) (R' := zw_RM) rfl ?_
            obtain rfl := Option.some.inj h
            exact k87
        have h := e70
        refine zv_if_ne (tgt := 77) (zs_at rfl) (by decide) (fun c70 => ?_) (fun c70 => ?_)
        · have h := mo_f h c70
          refine zv_run 1 (pc' := 78) (lo' := [some (.ref 0), some (.int x1), some (.int x2), none, none]) (st' := [.int 0, .int (J_38 3 0), .int 0, .ref 3]) (I' := J_38) (L' := L) (R' := zw_RM) rfl ?_
          obtain rfl := Option.some.inj h
          exact k70 (Or.inl rfl)
        · have h := mo_t h c70
          refine zv_run 2 (pc' := 78) (lo' := [some (.ref 0), some (.int x1), some (.int x2), none, none]) (st' := [.int 1, .int (J_38 3 0), .int 0, .ref 3]) (I' := J_38) (L' := L) (R' := zw_RM) rfl ?_
          obtain rfl := Option.some.inj h
          exact k70 (Or.inr rfl)
      · have h := mo_t h c19
        refine zv_run 5 (pc' := 30) (lo' := [some (.ref 0), some (.int x1), some (.int x2), none, none]) (st' := [.int 6, .int (J 3 0)]) (I' := J) (L' := L) (R' := zw_RM) rfl ?_
        refine zv_icmp_ne (tgt := 36) (zs_at rfl) (by decide) (fun c30 => ?_) (fun c30 => ?_)
        · have h := mo_f h c30
          refine zv_run 2 (pc' := 38) (lo' := [some (.ref 0), some (.int x1), some (.int x2), some (.int 0), none]) (st' := []) (I' := J) (L' := L) (R' := zw_RM) rfl ?_
          refine ml_bigger_38 (fun J_38 p h => ?_) n _ _ p h
          refine zv_run 6 (pc' := 70) (lo' := [some (.ref 0), some (.int x1), some (.int x2), none, none]) (st' := [.int x2, .int (J_38 3 0), .int 0, .ref 3]) (I' := J_38) (L' := L) (R' := zw_RM) rfl ?_
          obtain ⟨v70, e70, h⟩ := mo_b h
          have k70 : (v70 = 0 ∨ v70 = 1) → zx_V mm_X10_bigger (d + 7) z0 (zw_ret (some (.int p.1)) zw_SM p.2 L zw_RM) zw_SM 78 [some (.ref 0), some (.int x1), some (.int x2), none, none] [.int v70, .int (J_38 3 0), .int 0, .ref 3] J_38 L zw_RM := by
            intro b70_0
            clear e70
            refine zv_run 7 (pc' := 87) (lo' := [some (.ref 0), some (.int x1), some (.int x2), none, none]) (st' := [.int 1, .int x2, .int 4, .ref 3]) (I' := (zx_uI J_38 3 0 ((J_38 3 0) + v70))) (L' := L) (R' := zw_RM) rfl ?_
            obtain ⟨v87, e87, h⟩ := mo_b h
            have k87 : zx_V mm_X10_bigger (d + 7) z0 (zw_ret (some (.int p.1)) zw_SM p.2 L zw_RM) zw_SM 107 [some (.ref 0), some (.int x1), some (.int x2), none, none] [.int v87, .int 4, .ref 3] (zx_uI J_38 3 0 ((J_38 3 0) + v70)) L zw_RM := by
              clear e87
              refine zv_run 3 (pc' := 110) (lo' := [some (.ref 0), some (.int x1), some (.int x2), some (.int 0), none]) (st' := []) (I' := (zx_uI (zx_uI J_38 3 0 ((J_38 3 0) + v70)) 3 4 v87)) (L' := L) (R' := zw_RM) rfl ?_
              refine ml_bigger_110 (fun J_110 p h => ?_) n _ _ p h
              refine zv_run 5 (pc' := 160) (lo' := [some (.ref 0), some (.int x1), some (.int x2), none, none]) (st' := [.int 3, .int x2, .int 13, .ref 3]) (I' := J_110) (L' := L) (R' := zw_RM) rfl ?_
              obtain ⟨v160, e160, h⟩ := mo_b h
              have k160 : zx_V mm_X10_bigger (d + 7) z0 (zw_ret (some (.int p.1)) zw_SM p.2 L zw_RM) zw_SM 203 [some (.ref 0), some (.int x1), none, none, none] [.int v160, .int 13, .ref 3] J_110 L zw_RM := by
                clear e160
                refine zv_run 3 (pc' := 206) (lo' := [some (.ref 0), some (.int x1), none, none, none]) (st' := [.int x1, .ref 0]) (I' := (zx_uI J_110 3 13 v160)) (L' := L) (R' := zw_RM) rfl ?_
                obtain ⟨p206, e206, h⟩ := mo_b h
                refine zv_cV (M' := mm_X10_scoreOf) (ci := 10) (a := 0) (av := [.int x1]) (st := []) (r := some (.int p206.1)) (I' := p206.2) (L' := L) (R' := zw_RM) rfl zc_10_222 gd_X10_scoreOf rfl rfl rfl (Nat.le_of_ble_eq_true rfl) (mt_scoreOf (d := _) e206) ⟨Nat.le_refl _, Nat.le_refl _⟩ ?_
                refine zv_run 0 (pc' := 209) (lo' := [some (.ref 0), some (.int x1), none, none, none]) (st' := [.int p206.1]) (I' := p206.2) (L' := L) (R' := zw_RM) rfl ?_
                refine zv_run 3 (pc' := 213) (lo' := [some (.ref 0), some (.int x1), none, some (.int p206.1), some (.int 0)]) (st' := []) (I' := p206.2) (L' := L) (R' := zw_RM) rfl ?_
                refine zv_fg (lo' := [some (.ref 0), none, none, some (.int p206.1), some (.int 0)]) (And.intro rfl (And.intro trivial (And.intro trivial (And.intro rfl (And.intro rfl rfl))))) ?_
                refine ml_bigger_213 (fun J_213 p h => ?_) n _ _ p h
                refine zv_run 1 (pc' := 241) (lo' := [some (.ref 0), none, none, some (.int p206.1), none]) (st' := [.int p206.1]) (I' := J_213) (L' := L) (R' := zw_RM) rfl ?_
                obtain rfl := Option.some.inj h
                exact zv_iret (zs_at rfl) rfl ⟨Nat.le_refl _, Nat.le_refl _⟩ zw_here
              have h := e160
              refine zv_icmp_ne (tgt := 196) (zs_at rfl) (by decide) (fun c160 => ?_) (fun c160 => ?_)
              · have h := mo_f h c160
                refine zv_run 4 (pc' := 203) (lo' := [some (.ref 0), some (.int x1), some (.int x2), none, none]) (st' := [.int (J_110 3 13), .int 13, .ref 3]) (I' := J_110) (L' := L) (R' := zw_RM) rfl ?_
                obtain rfl := Option.some.inj h
                refine zv_fg (lo' := [some (.ref 0), some (.int x1), none, none, none]) (And.intro rfl (And.intro rfl (And.intro trivial (And.intro trivial (And.intro trivial rfl))))) ?_
                exact k160
              · have h := mo_t h c160
                refine zv_run 7 (pc' := 175) (lo' := [some (.ref 0), some (.int x1), some (.int x2), none, none]) (st' := [.int 30, .int ((J_110 3 13) + 10), .int 13, .ref 3]) (I' := J_110) (L' := L) (R' := zw_RM) rfl ?_
                refine zv_icmp_le (tgt := 183) (zs_at rfl) (by decide) (fun c175 => ?_) (fun c175 => ?_)
                · have h := mo_t h c175
                  refine zv_run 7 (pc' := 203) (lo' := [some (.ref 0), some (.int x1), some (.int x2), none, none]) (st' := [.int ((J_110 3 13) + 10), .int 13, .ref 3]) (I' := J_110) (L' := L) (R' := zw_RM) rfl ?_
                  obtain rfl := Option.some.inj h
                  refine zv_fg (lo' := [some (.ref 0), some (.int x1), none, none, none]) (And.intro rfl (And.intro rfl (And.intro trivial (And.intro trivial (And.intro trivial rfl))))) ?_
                  exact k160
                · have h := mo_f h c175
                  refine zv_run 2 (pc' := 203) (lo' := [some (.ref 0), some (.int x1), some (.int x2), none, none]) (st' := [.int 30, .int 13, .ref 3]) (I' := J_110) (L' := L) (R' := zw_RM) rfl ?_
                  obtain rfl := Option.some.inj h
                  refine zv_fg (lo' := [some (.ref 0), some (.int x1), none, none, none]) (And.intro rfl (And.intro rfl (And.intro trivial (And.intro trivial (And.intro trivial rfl))))) ?_
                  exact k160
            have h := e87
            refine zv_icmp_ne (tgt := 101) (zs_at rfl) (by decide) (fun c87 => ?_) (fun c87 => ?_)
            · have h := mo_f h c87
              refine zv_run 4 (pc' := 107) (lo' := [some (.ref 0), some (.int x1), some (.int x2), none, none]) (st' := [.int (J_38 3 4), .int 4, .ref 3]) (I' := (zx_uI J_38 3 0 ((J_38 3 0) + v70))) (L' := L) (R' := zw_RM) rfl ?_
              obtain rfl := Option.some.inj h
              exact k87
            · have h := mo_t h c87
              refine zv_run 7 (pc' := 107) (lo' := [some (.ref 0), some (.int x1), some (.int x2), none, none]) (st' := [.int ((J_38 3 4) / 2), .int 4, .ref 3]) (I' := (zx_uI J_38 3 0 ((J_38 3 0) + v70))) (L' := L) (R' := zw_RM) rfl ?_
              obtain rfl := Option.some.inj h
              exact k87
          have h := e70
          refine zv_if_ne (tgt := 77) (zs_at rfl) (by decide) (fun c70 => ?_) (fun c70 => ?_)
          · have h := mo_f h c70
            refine zv_run 1 (pc' := 78) (lo' := [some (.ref 0), some (.int x1), some (.int x2), none, none]) (st' := [.int 0, .int (J_38 3 0), .int 0, .ref 3]) (I' := J_38) (L' := L) (R' := zw_RM) rfl ?_
            obtain rfl := Option.some.inj h
            exact k70 (Or.inl rfl)
          · have h := mo_t h c70
            refine zv_run 2 (pc' := 78) (lo' := [some (.ref 0), some (.int x1), some (.int x2), none, none]) (st' := [.int 1, .int (J_38 3 0), .int 0, .ref 3]) (I' := J_38) (L' := L) (R' := zw_RM) rfl ?_
            obtain rfl := Option.some.inj h
            exact k70 (Or.inr rfl)
        · have h := mo_t h c30
          refine zv_run 1 (pc' := 35) (lo' := [some (.ref 0), some (.int x1), some (.int x2), none, none]) (st' := [.int (-2)]) (I' := J) (L' := L) (R' := zw_RM) rfl ?_
          obtain rfl := Option.some.inj h
          exact zv_iret (zs_at rfl) rfl ⟨Nat.le_refl _, Nat.le_refl _⟩ zw_here
    · have h := mo_t h c13
      refine zv_run 1 (pc' := 17) (lo' := [some (.ref 0), some (.int x1), some (.int x2), none, none]) (st' := [.int (-1)]) (I' := J) (L' := L) (R' := zw_RM) rfl ?_
      obtain rfl := Option.some.inj h
      exact zv_iret (zs_at rfl) rfl ⟨Nat.le_refl _, Nat.le_refl _⟩ zw_here
def mf_tap (n : Nat) (x1 : Int32) (x2 : Int32) (x3 : Int32) (x4 : Int32) (J : zx_I) (L : zx_L) : Option (Int32 × zx_I) := (if (mf_isRule x1) = 0 then some ((-1 : Int32), J) else (if (mf_in x2 (0 : Int32) (59 : Int32)) = 0 then some ((-1 : Int32), J) else (if (mf_in x3 (1 : Int32) (60 : Int32)) = 0 then some ((-1 : Int32), J) else (if (mf_in x4 (1 : Int32) (99 : Int32)) = 0 then some ((-1 : Int32), J) else ((mf_asTold n J).bind fun p41 => ((mf_goThrough n x1 (L 0 9) (p41 3 11) (zx_uI (zx_uI (zx_uI p41 0 28 x2) 0 29 x3) 0 30 x4)).bind fun p73 => some (p73.1, p73.2)))))))
theorem mt_tap {d n : Nat} {x1 : Int32} {x2 : Int32} {x3 : Int32} {x4 : Int32} {J : zx_I} {L : zx_L} {p : Int32 × zx_I} (h : mf_tap n x1 x2 x3 x4 J L = some p) : zx_M0 mm_X10_tap (d + 6) 0 0 [.ref 0, .int x1, .int x2, .int x3, .int x4] zw_SM J L zw_RM (zw_ret (some (.int p.1)) zw_SM p.2 L zw_RM) := by
  unfold mf_tap at h
  refine zv_entry gd_X10_tap (Nat.le_of_ble_eq_true rfl) ?_
  refine zv_run 1 (pc' := 1) (lo' := [some (.ref 0), some (.int x1), some (.int x2), some (.int x3), some (.int x4)]) (st' := [.int x1]) (I' := J) (L' := L) (R' := zw_RM) rfl ?_
  refine zv_cSz (M' := mm_X10_isRule) (av := [.int x1]) (st := []) (v := (mf_isRule x1)) (I' := J) (L' := L) (R' := zw_RM) rfl zc_10_219 gd_X10_isRule rfl (Nat.le_of_ble_eq_true rfl) (mt_isRule (d := _) rfl) ⟨Nat.le_refl _, Nat.le_refl _⟩ ?_
  intro b1
  refine zv_run 0 (pc' := 4) (lo' := [some (.ref 0), some (.int x1), some (.int x2), some (.int x3), some (.int x4)]) (st' := [.int (mf_isRule x1)]) (I' := J) (L' := L) (R' := zw_RM) rfl ?_
  refine zv_if_eq (tgt := 38) (zs_at rfl) (by decide) (fun c4 => ?_) (fun c4 => ?_)
  · have h := mo_t h c4
    refine zv_run 1 (pc' := 39) (lo' := [some (.ref 0), some (.int x1), some (.int x2), some (.int x3), some (.int x4)]) (st' := [.int (-1)]) (I' := J) (L' := L) (R' := zw_RM) rfl ?_
    obtain rfl := Option.some.inj h
    exact zv_iret (zs_at rfl) rfl ⟨Nat.le_refl _, Nat.le_refl _⟩ zw_here
  · have h := mo_f h c4
    refine zv_run 3 (pc' := 11) (lo' := [some (.ref 0), some (.int x1), some (.int x2), some (.int x3), some (.int x4)]) (st' := [.int 59, .int 0, .int x2]) (I' := J) (L' := L) (R' := zw_RM) rfl ?_
    refine zv_cSz (M' := mm_X10_in) (av := [.int x2, .int 0, .int 59]) (st := []) (v := (mf_in x2 (0 : Int32) (59 : Int32))) (I' := J) (L' := L) (R' := zw_RM) rfl zc_10_86 gd_X10_in rfl (Nat.le_of_ble_eq_true rfl) (mt_in (d := _) rfl) ⟨Nat.le_refl _, Nat.le_refl _⟩ ?_
    intro b11
    refine zv_run 0 (pc' := 14) (lo' := [some (.ref 0), some (.int x1), some (.int x2), some (.int x3), some (.int x4)]) (st' := [.int (mf_in x2 (0 : Int32) (59 : Int32))]) (I' := J) (L' := L) (R' := zw_RM) rfl ?_
    refine zv_if_eq (tgt := 38) (zs_at rfl) (by decide) (fun c14 => ?_) (fun c14 => ?_)
    · have h := mo_t h c14
      refine zv_run 1 (pc' := 39) (lo' := [some (.ref 0), some (.int x1), some (.int x2), some (.int x3), some (.int x4)]) (st' := [.int (-1)]) (I' := J) (L' := L) (R' := zw_RM) rfl ?_
      obtain rfl := Option.some.inj h
      exact zv_iret (zs_at rfl) rfl ⟨Nat.le_refl _, Nat.le_refl _⟩ zw_here
    · have h := mo_f h c14
      refine zv_run 3 (pc' := 21) (lo' := [some (.ref 0), some (.int x1), some (.int x2), some (.int x3), some (.int x4)]) (st' := [.int 60, .int 1, .int x3]) (I' := J) (L' := L) (R' := zw_RM) rfl ?_
      refine zv_cSz (M' := mm_X10_in) (av := [.int x3, .int 1, .int 60]) (st := []) (v := (mf_in x3 (1 : Int32) (60 : Int32))) (I' := J) (L' := L) (R' := zw_RM) rfl zc_10_86 gd_X10_in rfl (Nat.le_of_ble_eq_true rfl) (mt_in (d := _) rfl) ⟨Nat.le_refl _, Nat.le_refl _⟩ ?_
      intro b21
      refine zv_run 0 (pc' := 24) (lo' := [some (.ref 0), some (.int x1), some (.int x2), some (.int x3), some (.int x4)]) (st' := [.int (mf_in x3 (1 : Int32) (60 : Int32))]) (I' := J) (L' := L) (R' := zw_RM) rfl ?_
      refine zv_if_eq (tgt := 38) (zs_at rfl) (by decide) (fun c24 => ?_) (fun c24 => ?_)
      · have h := mo_t h c24
        refine zv_run 1 (pc' := 39) (lo' := [some (.ref 0), some (.int x1), some (.int x2), some (.int x3), some (.int x4)]) (st' := [.int (-1)]) (I' := J) (L' := L) (R' := zw_RM) rfl ?_
        obtain rfl := Option.some.inj h
        exact zv_iret (zs_at rfl) rfl ⟨Nat.le_refl _, Nat.le_refl _⟩ zw_here
      · have h := mo_f h c24
        refine zv_run 3 (pc' := 32) (lo' := [some (.ref 0), some (.int x1), some (.int x2), some (.int x3), some (.int x4)]) (st' := [.int 99, .int 1, .int x4]) (I' := J) (L' := L) (R' := zw_RM) rfl ?_
        refine zv_cSz (M' := mm_X10_in) (av := [.int x4, .int 1, .int 99]) (st := []) (v := (mf_in x4 (1 : Int32) (99 : Int32))) (I' := J) (L' := L) (R' := zw_RM) rfl zc_10_86 gd_X10_in rfl (Nat.le_of_ble_eq_true rfl) (mt_in (d := _) rfl) ⟨Nat.le_refl _, Nat.le_refl _⟩ ?_
        intro b32
        refine zv_run 0 (pc' := 35) (lo' := [some (.ref 0), some (.int x1), some (.int x2), some (.int x3), some (.int x4)]) (st' := [.int (mf_in x4 (1 : Int32) (99 : Int32))]) (I' := J) (L' := L) (R' := zw_RM) rfl ?_
        refine zv_if_ne (tgt := 40) (zs_at rfl) (by decide) (fun c35 => ?_) (fun c35 => ?_)
        · have h := mo_f h c35
          refine zv_run 1 (pc' := 41) (lo' := [some (.ref 0), some (.int x1), some (.int x2), some (.int x3), some (.int x4)]) (st' := [.ref 0]) (I' := J) (L' := L) (R' := zw_RM) rfl ?_
          obtain ⟨p41, e41, h⟩ := mo_b h
          refine zv_cV (M' := mm_X10_asTold) (ci := 10) (a := 0) (av := []) (st := []) (r := none) (I' := p41) (L' := L) (R' := zw_RM) rfl zc_10_212 gd_X10_asTold rfl rfl rfl (Nat.le_of_ble_eq_true rfl) (mt_asTold (d := _) e41) ⟨Nat.le_refl _, Nat.le_refl _⟩ ?_
          refine zv_run 0 (pc' := 44) (lo' := [some (.ref 0), some (.int x1), some (.int x2), some (.int x3), some (.int x4)]) (st' := []) (I' := p41) (L' := L) (R' := zw_RM) rfl ?_
          refine zv_run 17 (pc' := 73) (lo' := [some (.ref 0), some (.int x1), some (.int x2), some (.int x3), some (.int x4)]) (st' := [.int (p41 3 11), .long (L 0 9), .int x1, .ref 0]) (I' := (zx_uI (zx_uI (zx_uI p41 0 28 x2) 0 29 x3) 0 30 x4)) (L' := L) (R' := zw_RM) rfl ?_
          obtain ⟨p73, e73, h⟩ := mo_b h
          refine zv_cV (M' := mm_X10_goThrough) (ci := 10) (a := 0) (av := [.int x1, .long (L 0 9), .int (p41 3 11)]) (st := []) (r := some (.int p73.1)) (I' := p73.2) (L' := L) (R' := zw_RM) rfl zc_10_215 gd_X10_goThrough rfl rfl rfl (Nat.le_of_ble_eq_true rfl) (mt_goThrough (d := _) e73) ⟨Nat.le_refl _, Nat.le_refl _⟩ ?_
          refine zv_run 0 (pc' := 76) (lo' := [some (.ref 0), some (.int x1), some (.int x2), some (.int x3), some (.int x4)]) (st' := [.int p73.1]) (I' := p73.2) (L' := L) (R' := zw_RM) rfl ?_
          obtain rfl := Option.some.inj h
          exact zv_iret (zs_at rfl) rfl ⟨Nat.le_refl _, Nat.le_refl _⟩ zw_here
        · have h := mo_t h c35
          refine zv_run 1 (pc' := 39) (lo' := [some (.ref 0), some (.int x1), some (.int x2), some (.int x3), some (.int x4)]) (st' := [.int (-1)]) (I' := J) (L' := L) (R' := zw_RM) rfl ?_
          obtain rfl := Option.some.inj h
          exact zv_iret (zs_at rfl) rfl ⟨Nat.le_refl _, Nat.le_refl _⟩ zw_here
def mf_tenths (x1 : Int32) (x2 : Int32) (J : zx_I) : Option (Int32 × zx_I) := (if (mf_in x1 (0 : Int32) (5 : Int32)) = 0 then some ((-1 : Int32), J) else (if (mf_in x2 (0 : Int32) (10 : Int32)) = 0 then some ((-1 : Int32), J) else (mo_g (mo_in x1 6) (mo_g (mo_in x1 6) (some ((J 5 x1.toNatClampNeg), (zx_uI J 5 x1.toNatClampNeg x2)))))))
theorem mt_tenths {d : Nat} {x1 : Int32} {x2 : Int32} {J : zx_I} {L : zx_L} {p : Int32 × zx_I} (h : mf_tenths x1 x2 J = some p) : zx_M0 mm_X10_tenths (d + 1) 0 0 [.ref 0, .int x1, .int x2] zw_SM J L zw_RM (zw_ret (some (.int p.1)) zw_SM p.2 L zw_RM) := by
  unfold mf_tenths at h
  refine zv_entry gd_X10_tenths (Nat.le_of_ble_eq_true rfl) ?_
  refine zv_run 3 (pc' := 3) (lo' := [some (.ref 0), some (.int x1), some (.int x2), none]) (st' := [.int 5, .int 0, .int x1]) (I' := J) (L' := L) (R' := zw_RM) rfl ?_
  refine zv_cSz (M' := mm_X10_in) (av := [.int x1, .int 0, .int 5]) (st := []) (v := (mf_in x1 (0 : Int32) (5 : Int32))) (I' := J) (L' := L) (R' := zw_RM) rfl zc_10_86 gd_X10_in rfl (Nat.le_of_ble_eq_true rfl) (mt_in (d := _) rfl) ⟨Nat.le_refl _, Nat.le_refl _⟩ ?_
  intro b3
  refine zv_run 0 (pc' := 6) (lo' := [some (.ref 0), some (.int x1), some (.int x2), none]) (st' := [.int (mf_in x1 (0 : Int32) (5 : Int32))]) (I' := J) (L' := L) (R' := zw_RM) rfl ?_
  refine zv_if_eq (tgt := 19) (zs_at rfl) (by decide) (fun c6 => ?_) (fun c6 => ?_)
  · have h := mo_t h c6
    refine zv_run 1 (pc' := 20) (lo' := [some (.ref 0), some (.int x1), some (.int x2), none]) (st' := [.int (-1)]) (I' := J) (L' := L) (R' := zw_RM) rfl ?_
    obtain rfl := Option.some.inj h
    exact zv_iret (zs_at rfl) rfl ⟨Nat.le_refl _, Nat.le_refl _⟩ zw_here
  · have h := mo_f h c6
    refine zv_run 3 (pc' := 13) (lo' := [some (.ref 0), some (.int x1), some (.int x2), none]) (st' := [.int 10, .int 0, .int x2]) (I' := J) (L' := L) (R' := zw_RM) rfl ?_
    refine zv_cSz (M' := mm_X10_in) (av := [.int x2, .int 0, .int 10]) (st := []) (v := (mf_in x2 (0 : Int32) (10 : Int32))) (I' := J) (L' := L) (R' := zw_RM) rfl zc_10_86 gd_X10_in rfl (Nat.le_of_ble_eq_true rfl) (mt_in (d := _) rfl) ⟨Nat.le_refl _, Nat.le_refl _⟩ ?_
    intro b13
    refine zv_run 0 (pc' := 16) (lo' := [some (.ref 0), some (.int x1), some (.int x2), none]) (st' := [.int (mf_in x2 (0 : Int32) (10 : Int32))]) (I' := J) (L' := L) (R' := zw_RM) rfl ?_
    refine zv_if_ne (tgt := 21) (zs_at rfl) (by decide) (fun c16 => ?_) (fun c16 => ?_)
    · have h := mo_f h c16
      refine zv_run 3 (pc' := 26) (lo' := [some (.ref 0), some (.int x1), some (.int x2), none]) (st' := [.int x1, .ref 5]) (I' := J) (L' := L) (R' := zw_RM) rfl ?_
      obtain ⟨g26, h⟩ := mo_gs h
      refine zv_iald (zs_at rfl) rfl (mo_in_vp g26) ?_
      refine zv_run 0 (pc' := 27) (lo' := [some (.ref 0), some (.int x1), some (.int x2), none]) (st' := [.int (J 5 x1.toNatClampNeg)]) (I' := J) (L' := L) (R' := zw_RM) rfl ?_
      refine zv_run 5 (pc' := 34) (lo' := [some (.ref 0), some (.int x1), some (.int x2), some (.int (J 5 x1.toNatClampNeg))]) (st' := [.int x2, .int x1, .ref 5]) (I' := J) (L' := L) (R' := zw_RM) rfl ?_
      obtain ⟨g34, h⟩ := mo_gs h
      refine zv_iast (zs_at rfl) rfl (mo_in_vp g34) ?_
      refine zv_run 1 (pc' := 36) (lo' := [some (.ref 0), some (.int x1), some (.int x2), some (.int (J 5 x1.toNatClampNeg))]) (st' := [.int (J 5 x1.toNatClampNeg)]) (I' := (zx_uI J 5 x1.toNatClampNeg x2)) (L' := L) (R' := zw_RM) rfl ?_
      obtain rfl := Option.some.inj h
      exact zv_iret (zs_at rfl) rfl ⟨Nat.le_refl _, Nat.le_refl _⟩ zw_here
    · have h := mo_t h c16
      refine zv_run 1 (pc' := 20) (lo' := [some (.ref 0), some (.int x1), some (.int x2), none]) (st' := [.int (-1)]) (I' := J) (L' := L) (R' := zw_RM) rfl ?_
      obtain rfl := Option.some.inj h
      exact zv_iret (zs_at rfl) rfl ⟨Nat.le_refl _, Nat.le_refl _⟩ zw_here
def mf_told_32_b (n : Nat) (x1 : Int32) (x2 : Int32) (x3 : Int32) (J : zx_I) (L : zx_L) (K : Int32 → Option (Int32 × zx_I)) (Z : Int32 → Int32 → Option (Int32 × zx_I)) (x4 : Int32) (x5 : Int32) : Option (Int32 × zx_I) := (if (6 : Int32) ≤ x5 then K x4 else (mo_g (mo_in x5 6) (Z (x4 + (J 5 x5.toNatClampNeg)) (x5 + 1))))
def mf_told_32 (n : Nat) (x1 : Int32) (x2 : Int32) (x3 : Int32) (J : zx_I) (L : zx_L) (K : Int32 → Option (Int32 × zx_I)) : Nat → Int32 → Int32 → Option (Int32 × zx_I)
  | 0 => fun _ _ => none
  | k + 1 => mf_told_32_b n x1 x2 x3 J L K (mf_told_32 n x1 x2 x3 J L K k)
def mf_told_98_b (n : Nat) (x1 : Int32) (x2 : Int32) (x3 : Int32) (x5 : Int32) (x6 : Int32) (x7 : Int32) (L : zx_L) (K : Int32 → zx_I → Option (Int32 × zx_I)) (Z : Int32 → Int32 → zx_I → Option (Int32 × zx_I)) (x8 : Int32) (x9 : Int32) (J : zx_I) : Option (Int32 × zx_I) := (if (6 : Int32) ≤ x9 then K x8 J else (mo_g (mo_in x2 6) (mo_g (mo_in x9 6) (if (J 5 x9.toNatClampNeg) = 0 then Z (x8 + 0) (x9 + 1) (zx_uI J 12 x2.toNatClampNeg (x7 + x9)) else (mo_g (mo_in x9 6) ((mf_goThrough n x1 (L 0 9) (J 3 11) (zx_uI J 12 x2.toNatClampNeg (x7 + x9))).bind fun p152 => Z (x8 + ((J 5 x9.toNatClampNeg) * p152.1)) (x9 + 1) p152.2))))))
def mf_told_98 (n : Nat) (x1 : Int32) (x2 : Int32) (x3 : Int32) (x5 : Int32) (x6 : Int32) (x7 : Int32) (L : zx_L) (K : Int32 → zx_I → Option (Int32 × zx_I)) : Nat → Int32 → Int32 → zx_I → Option (Int32 × zx_I)
  | 0 => fun _ _ _ => none
  | k + 1 => mf_told_98_b n x1 x2 x3 x5 x6 x7 L K (mf_told_98 n x1 x2 x3 x5 x6 x7 L K k)
def mf_told_81_b (n : Nat) (x1 : Int32) (x2 : Int32) (x3 : Int32) (L : zx_L) (K : Int32 → Int32 → zx_I → Option (Int32 × zx_I)) (Z : Int32 → Int32 → Int32 → zx_I → Option (Int32 × zx_I)) (x5 : Int32) (x6 : Int32) (x7 : Int32) (J : zx_I) : Option (Int32 × zx_I) := ((mf_of x2 (4 : Int32) J).bind fun p86 => (if p86 < x7 then K x5 x6 J else (mf_told_98 n x1 x2 x3 x5 x6 x7 L (fun x8_98 J_98 => (if x5 = (-4 : Int32) then Z x7 x8_98 (x7 + 1) J_98 else (if x6 < x8_98 then Z x5 x6 (x7 + 1) J_98 else Z x7 x8_98 (x7 + 1) J_98))) n (0 : Int32) (0 : Int32) J)))
def mf_told_81 (n : Nat) (x1 : Int32) (x2 : Int32) (x3 : Int32) (L : zx_L) (K : Int32 → Int32 → zx_I → Option (Int32 × zx_I)) : Nat → Int32 → Int32 → Int32 → zx_I → Option (Int32 × zx_I)
  | 0 => fun _ _ _ _ => none
  | k + 1 => mf_told_81_b n x1 x2 x3 L K (mf_told_81 n x1 x2 x3 L K k)
def mf_told (n : Nat) (x1 : Int32) (x2 : Int32) (x3 : Int32) (J : zx_I) (L : zx_L) : Option (Int32 × zx_I) := (if (mf_isRule x1) = 0 then some ((-1 : Int32), J) else (if (mf_isBatherOf x2 J) = 0 then some ((-1 : Int32), J) else (if (mf_in x3 (0 : Int32) (1 : Int32)) = 0 then some ((-1 : Int32), J) else (mf_told_32 n x1 x2 x3 J L (fun x4_32 => (if x4_32 = (10 : Int32) then ((mf_asTold n J).bind fun p68 => (mf_told_81 n x1 x2 x3 L (fun x5_81 x6_81 J_81 => (if x3 = 0 then some (x5_81, J_81) else some (x6_81, J_81))) n (-4 : Int32) (0 : Int32) (0 : Int32) p68)) else some ((-2 : Int32), J))) n (0 : Int32) (0 : Int32)))))
theorem ml_told_32 {n d : Nat} {x1 : Int32} {x2 : Int32} {x3 : Int32} {J : zx_I} {L : zx_L} {K : Int32 → Option (Int32 × zx_I)} (hK : ∀ (x4 : Int32) (p : Int32 × zx_I), K x4 = some p → zx_V mm_X10_told (d + 6) z0 (zw_ret (some (.int p.1)) zw_SM p.2 L zw_RM) zw_SM 57 [some (.ref 0), some (.int x1), some (.int x2), some (.int x3), some (.int x4), none, none, none, none, none] [] J L zw_RM) : ∀ (k : Nat) (x4 : Int32) (x5 : Int32) (p : Int32 × zx_I), mf_told_32 n x1 x2 x3 J L K k x4 x5 = some p → zx_V mm_X10_told (d + 6) z0 (zw_ret (some (.int p.1)) zw_SM p.2 L zw_RM) zw_SM 32 [some (.ref 0), some (.int x1), some (.int x2), some (.int x3), some (.int x4), some (.int x5), none, none, none, none] [] J L zw_RM := by
  intro k
  induction k with
  | zero =>
    intro x4 x5 p h
    exact absurd (show (none : Option (Int32 × zx_I)) = some p from h) (by intro q; cases q)
  | succ k ih =>
    intro x4 x5 p h
    have h : mf_told_32_b n x1 x2 x3 J L K (mf_told_32 n x1 x2 x3 J L K k) x4 x5 = some p := h
    unfold mf_told_32_b at h
    refine zv_run 2 (pc' := 36) (lo' := [some (.ref 0), some (.int x1), some (.int x2), some (.int x3), some (.int x4), some (.int x5), none, none, none, none]) (st' := [.int 6, .int x5]) (I' := J) (L' := L) (R' := zw_RM) rfl ?_
    refine zv_icmp_ge (tgt := 57) (zs_at rfl) (by decide) (fun c36 => ?_) (fun c36 => ?_)
    · have h := mo_t h c36
      refine zv_fg (lo' := [some (.ref 0), some (.int x1), some (.int x2), some (.int x3), some (.int x4), none, none, none, none, none]) (And.intro rfl (And.intro rfl (And.intro rfl (And.intro rfl (And.intro rfl (And.intro trivial (And.intro trivial (And.intro trivial (And.intro trivial (And.intro trivial rfl)))))))))) ?_
      exact hK _ p h
    · have h := mo_f h c36
      refine zv_run 4 (pc' := 47) (lo' := [some (.ref 0), some (.int x1), some (.int x2), some (.int x3), some (.int x4), some (.int x5), none, none, none, none]) (st' := [.int x5, .ref 5, .int x4]) (I' := J) (L' := L) (R' := zw_RM) rfl ?_
      obtain ⟨g47, h⟩ := mo_gs h
      refine zv_iald (zs_at rfl) rfl (mo_in_vp g47) ?_
      refine zv_run 0 (pc' := 48) (lo' := [some (.ref 0), some (.int x1), some (.int x2), some (.int x3), some (.int x4), some (.int x5), none, none, none, none]) (st' := [.int (J 5 x5.toNatClampNeg), .int x4]) (I' := J) (L' := L) (R' := zw_RM) rfl ?_
      refine zv_run 4 (pc' := 32) (lo' := [some (.ref 0), some (.int x1), some (.int x2), some (.int x3), some (.int (x4 + (J 5 x5.toNatClampNeg))), some (.int (x5 + 1)), none, none, none, none]) (st' := []) (I' := J) (L' := L) (R' := zw_RM) rfl ?_
      exact ih _ _ p h
theorem ml_told_98 {n d : Nat} {x1 : Int32} {x2 : Int32} {x3 : Int32} {x5 : Int32} {x6 : Int32} {x7 : Int32} {L : zx_L} {K : Int32 → zx_I → Option (Int32 × zx_I)} (hK : ∀ (x8 : Int32) (J : zx_I) (p : Int32 × zx_I), K x8 J = some p → zx_V mm_X10_told (d + 6) z0 (zw_ret (some (.int p.1)) zw_SM p.2 L zw_RM) zw_SM 165 [some (.ref 0), some (.int x1), some (.int x2), some (.int x3), none, some (.int x5), some (.int x6), some (.int x7), some (.int x8), none] [] J L zw_RM) : ∀ (k : Nat) (x8 : Int32) (x9 : Int32) (J : zx_I) (p : Int32 × zx_I), mf_told_98 n x1 x2 x3 x5 x6 x7 L K k x8 x9 J = some p → zx_V mm_X10_told (d + 6) z0 (zw_ret (some (.int p.1)) zw_SM p.2 L zw_RM) zw_SM 98 [some (.ref 0), some (.int x1), some (.int x2), some (.int x3), none, some (.int x5), some (.int x6), some (.int x7), some (.int x8), some (.int x9)] [] J L zw_RM := by
  intro k
  induction k with
  | zero =>
    intro x8 x9 J p h
    exact absurd (show (none : Option (Int32 × zx_I)) = some p from h) (by intro q; cases q)
  | succ k ih =>
    intro x8 x9 J p h
    have h : mf_told_98_b n x1 x2 x3 x5 x6 x7 L K (mf_told_98 n x1 x2 x3 x5 x6 x7 L K k) x8 x9 J = some p := h
    unfold mf_told_98_b at h
    refine zv_run 2 (pc' := 102) (lo' := [some (.ref 0), some (.int x1), some (.int x2), some (.int x3), none, some (.int x5), some (.int x6), some (.int x7), some (.int x8), some (.int x9)]) (st' := [.int 6, .int x9]) (I' := J) (L' := L) (R' := zw_RM) rfl ?_
    refine zv_icmp_ge (tgt := 165) (zs_at rfl) (by decide) (fun c102 => ?_) (fun c102 => ?_)
    · have h := mo_t h c102
      refine zv_fg (lo' := [some (.ref 0), some (.int x1), some (.int x2), some (.int x3), none, some (.int x5), some (.int x6), some (.int x7), some (.int x8), none]) (And.intro rfl (And.intro rfl (And.intro rfl (And.intro rfl (And.intro trivial (And.intro rfl (And.intro rfl (And.intro rfl (And.intro rfl (And.intro trivial rfl)))))))))) ?_
      exact hK _ _ p h
    · have h := mo_f h c102
      refine zv_run 6 (pc' := 115) (lo' := [some (.ref 0), some (.int x1), some (.int x2), some (.int x3), none, some (.int x5), some (.int x6), some (.int x7), some (.int x8), some (.int x9)]) (st' := [.int (x7 + x9), .int x2, .ref 12]) (I' := J) (L' := L) (R' := zw_RM) rfl ?_
      obtain ⟨g115, h⟩ := mo_gs h
      refine zv_iast (zs_at rfl) rfl (mo_in_vp g115) ?_
      refine zv_run 4 (pc' := 124) (lo' := [some (.ref 0), some (.int x1), some (.int x2), some (.int x3), none, some (.int x5), some (.int x6), some (.int x7), some (.int x8), some (.int x9)]) (st' := [.int x9, .ref 5, .int x8]) (I' := (zx_uI J 12 x2.toNatClampNeg (x7 + x9))) (L' := L) (R' := zw_RM) rfl ?_
      obtain ⟨g124, h⟩ := mo_gs h
      refine zv_iald (zs_at rfl) rfl (mo_in_vp g124) ?_
      refine zv_run 0 (pc' := 125) (lo' := [some (.ref 0), some (.int x1), some (.int x2), some (.int x3), none, some (.int x5), some (.int x6), some (.int x7), some (.int x8), some (.int x9)]) (st' := [.int (J 5 x9.toNatClampNeg), .int x8]) (I' := (zx_uI J 12 x2.toNatClampNeg (x7 + x9))) (L' := L) (R' := zw_RM) rfl ?_
      refine zv_if_ne (tgt := 132) (zs_at rfl) (by decide) (fun c125 => ?_) (fun c125 => ?_)
      · have h := mo_f h c125
        refine zv_run 3 (pc' := 138) (lo' := [some (.ref 0), some (.int x1), some (.int x2), some (.int x3), none, some (.int x5), some (.int x6), some (.int x7), some (.int x8), some (.int x9)]) (st' := [.int x9, .ref 5, .int x8]) (I' := (zx_uI J 12 x2.toNatClampNeg (x7 + x9))) (L' := L) (R' := zw_RM) rfl ?_
        obtain ⟨g138, h⟩ := mo_gs h
        refine zv_iald (zs_at rfl) rfl (mo_in_vp g138) ?_
        refine zv_run 0 (pc' := 139) (lo' := [some (.ref 0), some (.int x1), some (.int x2), some (.int x3), none, some (.int x5), some (.int x6), some (.int x7), some (.int x8), some (.int x9)]) (st' := [.int (J 5 x9.toNatClampNeg), .int x8]) (I' := (zx_uI J 12 x2.toNatClampNeg (x7 + x9))) (L' := L) (R' := zw_RM) rfl ?_
        refine zv_run 8 (pc' := 152) (lo' := [some (.ref 0), some (.int x1), some (.int x2), some (.int x3), none, some (.int x5), some (.int x6), some (.int x7), some (.int x8), some (.int x9)]) (st' := [.int (J 3 11), .long (L 0 9), .int x1, .ref 0, .int (J 5 x9.toNatClampNeg), .int x8]) (I' := (zx_uI J 12 x2.toNatClampNeg (x7 + x9))) (L' := L) (R' := zw_RM) rfl ?_
        obtain ⟨p152, e152, h⟩ := mo_b h
        refine zv_cV (M' := mm_X10_goThrough) (ci := 10) (a := 0) (av := [.int x1, .long (L 0 9), .int (J 3 11)]) (st := [.int (J 5 x9.toNatClampNeg), .int x8]) (r := some (.int p152.1)) (I' := p152.2) (L' := L) (R' := zw_RM) rfl zc_10_215 gd_X10_goThrough rfl rfl rfl (Nat.le_of_ble_eq_true rfl) (mt_goThrough (d := _) e152) ⟨Nat.le_refl _, Nat.le_refl _⟩ ?_
        refine zv_run 0 (pc' := 155) (lo' := [some (.ref 0), some (.int x1), some (.int x2), some (.int x3), none, some (.int x5), some (.int x6), some (.int x7), some (.int x8), some (.int x9)]) (st' := [.int p152.1, .int (J 5 x9.toNatClampNeg), .int x8]) (I' := p152.2) (L' := L) (R' := zw_RM) rfl ?_
        refine zv_run 5 (pc' := 98) (lo' := [some (.ref 0), some (.int x1), some (.int x2), some (.int x3), none, some (.int x5), some (.int x6), some (.int x7), some (.int (x8 + ((J 5 x9.toNatClampNeg) * p152.1))), some (.int (x9 + 1))]) (st' := []) (I' := p152.2) (L' := L) (R' := zw_RM) rfl ?_
        exact ih _ _ _ p h
      · have h := mo_t h c125
        refine zv_run 2 (pc' := 156) (lo' := [some (.ref 0), some (.int x1), some (.int x2), some (.int x3), none, some (.int x5), some (.int x6), some (.int x7), some (.int x8), some (.int x9)]) (st' := [.int 0, .int x8]) (I' := (zx_uI J 12 x2.toNatClampNeg (x7 + x9))) (L' := L) (R' := zw_RM) rfl ?_
        refine zv_run 4 (pc' := 98) (lo' := [some (.ref 0), some (.int x1), some (.int x2), some (.int x3), none, some (.int x5), some (.int x6), some (.int x7), some (.int (x8 + 0)), some (.int (x9 + 1))]) (st' := []) (I' := (zx_uI J 12 x2.toNatClampNeg (x7 + x9))) (L' := L) (R' := zw_RM) rfl ?_
        exact ih _ _ _ p h
theorem ml_told_81 {n d : Nat} {x1 : Int32} {x2 : Int32} {x3 : Int32} {L : zx_L} {K : Int32 → Int32 → zx_I → Option (Int32 × zx_I)} (hK : ∀ (x5 : Int32) (x6 : Int32) (J : zx_I) (p : Int32 × zx_I), K x5 x6 J = some p → zx_V mm_X10_told (d + 6) z0 (zw_ret (some (.int p.1)) zw_SM p.2 L zw_RM) zw_SM 193 [some (.ref 0), some (.int x1), some (.int x2), some (.int x3), none, some (.int x5), some (.int x6), none, none, none] [] J L zw_RM) : ∀ (k : Nat) (x5 : Int32) (x6 : Int32) (x7 : Int32) (J : zx_I) (p : Int32 × zx_I), mf_told_81 n x1 x2 x3 L K k x5 x6 x7 J = some p → zx_V mm_X10_told (d + 6) z0 (zw_ret (some (.int p.1)) zw_SM p.2 L zw_RM) zw_SM 81 [some (.ref 0), some (.int x1), some (.int x2), some (.int x3), none, some (.int x5), some (.int x6), some (.int x7), none, none] [] J L zw_RM := by
  intro k
  induction k with
  | zero =>
    intro x5 x6 x7 J p h
    exact absurd (show (none : Option (Int32 × zx_I)) = some p from h) (by intro q; cases q)
  | succ k ih =>
    intro x5 x6 x7 J p h
    have h : mf_told_81_b n x1 x2 x3 L K (mf_told_81 n x1 x2 x3 L K k) x5 x6 x7 J = some p := h
    unfold mf_told_81_b at h
    refine zv_run 4 (pc' := 86) (lo' := [some (.ref 0), some (.int x1), some (.int x2), some (.int x3), none, some (.int x5), some (.int x6), some (.int x7), none, none]) (st' := [.int 4, .int x2, .ref 0, .int x7]) (I' := J) (L' := L) (R' := zw_RM) rfl ?_
    obtain ⟨p86, e86, h⟩ := mo_b h
    refine zv_cV (M' := mm_X10_of) (ci := 10) (a := 0) (av := [.int x2, .int 4]) (st := [.int x7]) (r := some (.int p86)) (I' := J) (L' := L) (R' := zw_RM) rfl zc_10_139 gd_X10_of rfl rfl rfl (Nat.le_of_ble_eq_true rfl) (mt_of (d := _) e86) ⟨Nat.le_refl _, Nat.le_refl _⟩ ?_
    refine zv_run 0 (pc' := 89) (lo' := [some (.ref 0), some (.int x1), some (.int x2), some (.int x3), none, some (.int x5), some (.int x6), some (.int x7), none, none]) (st' := [.int p86, .int x7]) (I' := J) (L' := L) (R' := zw_RM) rfl ?_
    refine zv_icmp_gt (tgt := 193) (zs_at rfl) (by decide) (fun c89 => ?_) (fun c89 => ?_)
    · have h := mo_t h c89
      refine zv_fg (lo' := [some (.ref 0), some (.int x1), some (.int x2), some (.int x3), none, some (.int x5), some (.int x6), none, none, none]) (And.intro rfl (And.intro rfl (And.intro rfl (And.intro rfl (And.intro trivial (And.intro rfl (And.intro rfl (And.intro trivial (And.intro trivial (And.intro trivial rfl)))))))))) ?_
      exact hK _ _ _ p h
    · have h := mo_f h c89
      refine zv_run 4 (pc' := 98) (lo' := [some (.ref 0), some (.int x1), some (.int x2), some (.int x3), none, some (.int x5), some (.int x6), some (.int x7), some (.int 0), some (.int 0)]) (st' := []) (I' := J) (L' := L) (R' := zw_RM) rfl ?_
      refine ml_told_98 (fun x8_98 J_98 p h => ?_) n _ _ _ p h
      refine zv_run 2 (pc' := 169) (lo' := [some (.ref 0), some (.int x1), some (.int x2), some (.int x3), none, some (.int x5), some (.int x6), some (.int x7), some (.int x8_98), none]) (st' := [.int (-4), .int x5]) (I' := J_98) (L' := L) (R' := zw_RM) rfl ?_
      refine zv_icmp_eq (tgt := 179) (zs_at rfl) (by decide) (fun c169 => ?_) (fun c169 => ?_)
      · have h := mo_t h c169
        refine zv_run 6 (pc' := 81) (lo' := [some (.ref 0), some (.int x1), some (.int x2), some (.int x3), none, some (.int x7), some (.int x8_98), some (.int (x7 + 1)), some (.int x8_98), none]) (st' := []) (I' := J_98) (L' := L) (R' := zw_RM) rfl ?_
        refine zv_fg (lo' := [some (.ref 0), some (.int x1), some (.int x2), some (.int x3), none, some (.int x7), some (.int x8_98), some (.int (x7 + 1)), none, none]) (And.intro rfl (And.intro rfl (And.intro rfl (And.intro rfl (And.intro trivial (And.intro rfl (And.intro rfl (And.intro rfl (And.intro trivial (And.intro trivial rfl)))))))))) ?_
        exact ih _ _ _ _ p h
      · have h := mo_f h c169
        refine zv_run 2 (pc' := 176) (lo' := [some (.ref 0), some (.int x1), some (.int x2), some (.int x3), none, some (.int x5), some (.int x6), some (.int x7), some (.int x8_98), none]) (st' := [.int x6, .int x8_98]) (I' := J_98) (L' := L) (R' := zw_RM) rfl ?_
        refine zv_icmp_gt (tgt := 187) (zs_at rfl) (by decide) (fun c176 => ?_) (fun c176 => ?_)
        · have h := mo_t h c176
          refine zv_run 2 (pc' := 81) (lo' := [some (.ref 0), some (.int x1), some (.int x2), some (.int x3), none, some (.int x5), some (.int x6), some (.int (x7 + 1)), some (.int x8_98), none]) (st' := []) (I' := J_98) (L' := L) (R' := zw_RM) rfl ?_
          refine zv_fg (lo' := [some (.ref 0), some (.int x1), some (.int x2), some (.int x3), none, some (.int x5), some (.int x6), some (.int (x7 + 1)), none, none]) (And.intro rfl (And.intro rfl (And.intro rfl (And.intro rfl (And.intro trivial (And.intro rfl (And.intro rfl (And.intro rfl (And.intro trivial (And.intro trivial rfl)))))))))) ?_
          exact ih _ _ _ _ p h
        · have h := mo_f h c176
          refine zv_run 6 (pc' := 81) (lo' := [some (.ref 0), some (.int x1), some (.int x2), some (.int x3), none, some (.int x7), some (.int x8_98), some (.int (x7 + 1)), some (.int x8_98), none]) (st' := []) (I' := J_98) (L' := L) (R' := zw_RM) rfl ?_
          refine zv_fg (lo' := [some (.ref 0), some (.int x1), some (.int x2), some (.int x3), none, some (.int x7), some (.int x8_98), some (.int (x7 + 1)), none, none]) (And.intro rfl (And.intro rfl (And.intro rfl (And.intro rfl (And.intro trivial (And.intro rfl (And.intro rfl (And.intro rfl (And.intro trivial (And.intro trivial rfl)))))))))) ?_
          exact ih _ _ _ _ p h
theorem mt_told {d n : Nat} {x1 : Int32} {x2 : Int32} {x3 : Int32} {J : zx_I} {L : zx_L} {p : Int32 × zx_I} (h : mf_told n x1 x2 x3 J L = some p) : zx_M0 mm_X10_told (d + 6) 0 0 [.ref 0, .int x1, .int x2, .int x3] zw_SM J L zw_RM (zw_ret (some (.int p.1)) zw_SM p.2 L zw_RM) := by
  unfold mf_told at h
  refine zv_entry gd_X10_told (Nat.le_of_ble_eq_true rfl) ?_
  refine zv_run 1 (pc' := 1) (lo' := [some (.ref 0), some (.int x1), some (.int x2), some (.int x3), none, none, none, none, none, none]) (st' := [.int x1]) (I' := J) (L' := L) (R' := zw_RM) rfl ?_
  refine zv_cSz (M' := mm_X10_isRule) (av := [.int x1]) (st := []) (v := (mf_isRule x1)) (I' := J) (L' := L) (R' := zw_RM) rfl zc_10_219 gd_X10_isRule rfl (Nat.le_of_ble_eq_true rfl) (mt_isRule (d := _) rfl) ⟨Nat.le_refl _, Nat.le_refl _⟩ ?_
  intro b1
  refine zv_run 0 (pc' := 4) (lo' := [some (.ref 0), some (.int x1), some (.int x2), some (.int x3), none, none, none, none, none, none]) (st' := [.int (mf_isRule x1)]) (I' := J) (L' := L) (R' := zw_RM) rfl ?_
  refine zv_if_eq (tgt := 24) (zs_at rfl) (by decide) (fun c4 => ?_) (fun c4 => ?_)
  · have h := mo_t h c4
    refine zv_run 1 (pc' := 25) (lo' := [some (.ref 0), some (.int x1), some (.int x2), some (.int x3), none, none, none, none, none, none]) (st' := [.int (-1)]) (I' := J) (L' := L) (R' := zw_RM) rfl ?_
    obtain rfl := Option.some.inj h
    exact zv_iret (zs_at rfl) rfl ⟨Nat.le_refl _, Nat.le_refl _⟩ zw_here
  · have h := mo_f h c4
    refine zv_run 2 (pc' := 9) (lo' := [some (.ref 0), some (.int x1), some (.int x2), some (.int x3), none, none, none, none, none, none]) (st' := [.int x2, .ref 0]) (I' := J) (L' := L) (R' := zw_RM) rfl ?_
    refine zv_cVz (M' := mm_X10_isBatherOf) (ci := 10) (a := 0) (av := [.int x2]) (st := []) (v := (mf_isBatherOf x2 J)) (I' := J) (L' := L) (R' := zw_RM) rfl zc_10_136 gd_X10_isBatherOf rfl rfl rfl (Nat.le_of_ble_eq_true rfl) (mt_isBatherOf (d := _) rfl) ⟨Nat.le_refl _, Nat.le_refl _⟩ ?_
    intro b9
    refine zv_run 0 (pc' := 12) (lo' := [some (.ref 0), some (.int x1), some (.int x2), some (.int x3), none, none, none, none, none, none]) (st' := [.int (mf_isBatherOf x2 J)]) (I' := J) (L' := L) (R' := zw_RM) rfl ?_
    refine zv_if_eq (tgt := 24) (zs_at rfl) (by decide) (fun c12 => ?_) (fun c12 => ?_)
    · have h := mo_t h c12
      refine zv_run 1 (pc' := 25) (lo' := [some (.ref 0), some (.int x1), some (.int x2), some (.int x3), none, none, none, none, none, none]) (st' := [.int (-1)]) (I' := J) (L' := L) (R' := zw_RM) rfl ?_
      obtain rfl := Option.some.inj h
      exact zv_iret (zs_at rfl) rfl ⟨Nat.le_refl _, Nat.le_refl _⟩ zw_here
    · have h := mo_f h c12
      refine zv_run 3 (pc' := 18) (lo' := [some (.ref 0), some (.int x1), some (.int x2), some (.int x3), none, none, none, none, none, none]) (st' := [.int 1, .int 0, .int x3]) (I' := J) (L' := L) (R' := zw_RM) rfl ?_
      refine zv_cSz (M' := mm_X10_in) (av := [.int x3, .int 0, .int 1]) (st := []) (v := (mf_in x3 (0 : Int32) (1 : Int32))) (I' := J) (L' := L) (R' := zw_RM) rfl zc_10_86 gd_X10_in rfl (Nat.le_of_ble_eq_true rfl) (mt_in (d := _) rfl) ⟨Nat.le_refl _, Nat.le_refl _⟩ ?_
      intro b18
      refine zv_run 0 (pc' := 21) (lo' := [some (.ref 0), some (.int x1), some (.int x2), some (.int x3), none, none, none, none, none, none]) (st' := [.int (mf_in x3 (0 : Int32) (1 : Int32))]) (I' := J) (L' := L) (R' := zw_RM) rfl ?_
      refine zv_if_ne (tgt := 26) (zs_at rfl) (by decide) (fun c21 => ?_) (fun c21 => ?_)
      · have h := mo_f h c21
        refine zv_run 4 (pc' := 32) (lo' := [some (.ref 0), some (.int x1), some (.int x2), some (.int x3), some (.int 0), some (.int 0), none, none, none, none]) (st' := []) (I' := J) (L' := L) (R' := zw_RM) rfl ?_
        refine ml_told_32 (fun x4_32 p h => ?_) n _ _ p h
        refine zv_run 2 (pc' := 61) (lo' := [some (.ref 0), some (.int x1), some (.int x2), some (.int x3), some (.int x4_32), none, none, none, none, none]) (st' := [.int 10, .int x4_32]) (I' := J) (L' := L) (R' := zw_RM) rfl ?_
        refine zv_icmp_eq (tgt := 67) (zs_at rfl) (by decide) (fun c61 => ?_) (fun c61 => ?_)
        · have h := mo_t h c61
          refine zv_run 1 (pc' := 68) (lo' := [some (.ref 0), some (.int x1), some (.int x2), some (.int x3), some (.int x4_32), none, none, none, none, none]) (st' := [.ref 0]) (I' := J) (L' := L) (R' := zw_RM) rfl ?_
          obtain ⟨p68, e68, h⟩ := mo_b h
          refine zv_cV (M' := mm_X10_asTold) (ci := 10) (a := 0) (av := []) (st := []) (r := none) (I' := p68) (L' := L) (R' := zw_RM) rfl zc_10_212 gd_X10_asTold rfl rfl rfl (Nat.le_of_ble_eq_true rfl) (mt_asTold (d := _) e68) ⟨Nat.le_refl _, Nat.le_refl _⟩ ?_
          refine zv_run 0 (pc' := 71) (lo' := [some (.ref 0), some (.int x1), some (.int x2), some (.int x3), some (.int x4_32), none, none, none, none, none]) (st' := []) (I' := p68) (L' := L) (R' := zw_RM) rfl ?_
          refine zv_run 6 (pc' := 81) (lo' := [some (.ref 0), some (.int x1), some (.int x2), some (.int x3), some (.int x4_32), some (.int (-4)), some (.int 0), some (.int 0), none, none]) (st' := []) (I' := p68) (L' := L) (R' := zw_RM) rfl ?_
          refine zv_fg (lo' := [some (.ref 0), some (.int x1), some (.int x2), some (.int x3), none, some (.int (-4)), some (.int 0), some (.int 0), none, none]) (And.intro rfl (And.intro rfl (And.intro rfl (And.intro rfl (And.intro trivial (And.intro rfl (And.intro rfl (And.intro rfl (And.intro trivial (And.intro trivial rfl)))))))))) ?_
          refine ml_told_81 (fun x5_81 x6_81 J_81 p h => ?_) n _ _ _ _ p h
          refine zv_run 1 (pc' := 194) (lo' := [some (.ref 0), some (.int x1), some (.int x2), some (.int x3), none, some (.int x5_81), some (.int x6_81), none, none, none]) (st' := [.int x3]) (I' := J_81) (L' := L) (R' := zw_RM) rfl ?_
          refine zv_if_ne (tgt := 202) (zs_at rfl) (by decide) (fun c194 => ?_) (fun c194 => ?_)
          · have h := mo_f h c194
            refine zv_run 1 (pc' := 204) (lo' := [some (.ref 0), some (.int x1), some (.int x2), some (.int x3), none, some (.int x5_81), some (.int x6_81), none, none, none]) (st' := [.int x6_81]) (I' := J_81) (L' := L) (R' := zw_RM) rfl ?_
            obtain rfl := Option.some.inj h
            exact zv_iret (zs_at rfl) rfl ⟨Nat.le_refl _, Nat.le_refl _⟩ zw_here
          · have h := mo_t h c194
            refine zv_run 2 (pc' := 204) (lo' := [some (.ref 0), some (.int x1), some (.int x2), some (.int x3), none, some (.int x5_81), some (.int x6_81), none, none, none]) (st' := [.int x5_81]) (I' := J_81) (L' := L) (R' := zw_RM) rfl ?_
            obtain rfl := Option.some.inj h
            exact zv_iret (zs_at rfl) rfl ⟨Nat.le_refl _, Nat.le_refl _⟩ zw_here
        · have h := mo_f h c61
          refine zv_run 1 (pc' := 66) (lo' := [some (.ref 0), some (.int x1), some (.int x2), some (.int x3), some (.int x4_32), none, none, none, none, none]) (st' := [.int (-2)]) (I' := J) (L' := L) (R' := zw_RM) rfl ?_
          obtain rfl := Option.some.inj h
          exact zv_iret (zs_at rfl) rfl ⟨Nat.le_refl _, Nat.le_refl _⟩ zw_here
      · have h := mo_t h c21
        refine zv_run 1 (pc' := 25) (lo' := [some (.ref 0), some (.int x1), some (.int x2), some (.int x3), none, none, none, none, none, none]) (st' := [.int (-1)]) (I' := J) (L' := L) (R' := zw_RM) rfl ?_
        obtain rfl := Option.some.inj h
        exact zv_iret (zs_at rfl) rfl ⟨Nat.le_refl _, Nat.le_refl _⟩ zw_here
def mf_grief (n : Nat) (x1 : Int32) (J : zx_I) (L : zx_L) : Option (Int32 × zx_I) := ((mf_goThrough n (1 : Int32) (L 0 9) (J 3 11) J).bind fun p13 => (mo_g (mo_in x1 6) (if (p13.2 14 x1.toNatClampNeg) = (-4 : Int32) then some ((198 : Int32), p13.2) else (mo_g (mo_in x1 6) (mo_g (mo_in x1 6) (mo_g (mo_in x1 6) (some ((((p13.2 14 x1.toNatClampNeg) + (p13.2 13 x1.toNatClampNeg)) - (p13.2 12 x1.toNatClampNeg)), p13.2))))))))
theorem mt_grief {d n : Nat} {x1 : Int32} {J : zx_I} {L : zx_L} {p : Int32 × zx_I} (h : mf_grief n x1 J L = some p) : zx_M0 mm_X10_grief (d + 6) 0 0 [.ref 0, .int x1] zw_SM J L zw_RM (zw_ret (some (.int p.1)) zw_SM p.2 L zw_RM) := by
  unfold mf_grief at h
  refine zv_entry gd_X10_grief (Nat.le_of_ble_eq_true rfl) ?_
  refine zv_run 8 (pc' := 13) (lo' := [some (.ref 0), some (.int x1)]) (st' := [.int (J 3 11), .long (L 0 9), .int 1, .ref 0]) (I' := J) (L' := L) (R' := zw_RM) rfl ?_
  obtain ⟨p13, e13, h⟩ := mo_b h
  refine zv_cV (M' := mm_X10_goThrough) (ci := 10) (a := 0) (av := [.int 1, .long (L 0 9), .int (J 3 11)]) (st := []) (r := some (.int p13.1)) (I' := p13.2) (L' := L) (R' := zw_RM) rfl zc_10_215 gd_X10_goThrough rfl rfl rfl (Nat.le_of_ble_eq_true rfl) (mt_goThrough (d := _) e13) ⟨Nat.le_refl _, Nat.le_refl _⟩ ?_
  refine zv_run 0 (pc' := 16) (lo' := [some (.ref 0), some (.int x1)]) (st' := [.int p13.1]) (I' := p13.2) (L' := L) (R' := zw_RM) rfl ?_
  refine zv_run 4 (pc' := 22) (lo' := [some (.ref 0), some (.int x1)]) (st' := [.int x1, .ref 14]) (I' := p13.2) (L' := L) (R' := zw_RM) rfl ?_
  obtain ⟨g22, h⟩ := mo_gs h
  refine zv_iald (zs_at rfl) rfl (mo_in_vp g22) ?_
  refine zv_run 0 (pc' := 23) (lo' := [some (.ref 0), some (.int x1)]) (st' := [.int (p13.2 14 x1.toNatClampNeg)]) (I' := p13.2) (L' := L) (R' := zw_RM) rfl ?_
  refine zv_run 1 (pc' := 25) (lo' := [some (.ref 0), some (.int x1)]) (st' := [.int (-4), .int (p13.2 14 x1.toNatClampNeg)]) (I' := p13.2) (L' := L) (R' := zw_RM) rfl ?_
  refine zv_icmp_ne (tgt := 34) (zs_at rfl) (by decide) (fun c25 => ?_) (fun c25 => ?_)
  · have h := mo_f h c25
    refine zv_run 3 (pc' := 39) (lo' := [some (.ref 0), some (.int x1)]) (st' := [.int x1, .ref 14]) (I' := p13.2) (L' := L) (R' := zw_RM) rfl ?_
    obtain ⟨g39, h⟩ := mo_gs h
    refine zv_iald (zs_at rfl) rfl (mo_in_vp g39) ?_
    refine zv_run 0 (pc' := 40) (lo' := [some (.ref 0), some (.int x1)]) (st' := [.int (p13.2 14 x1.toNatClampNeg)]) (I' := p13.2) (L' := L) (R' := zw_RM) rfl ?_
    refine zv_run 3 (pc' := 45) (lo' := [some (.ref 0), some (.int x1)]) (st' := [.int x1, .ref 13, .int (p13.2 14 x1.toNatClampNeg)]) (I' := p13.2) (L' := L) (R' := zw_RM) rfl ?_
    obtain ⟨g45, h⟩ := mo_gs h
    refine zv_iald (zs_at rfl) rfl (mo_in_vp g45) ?_
    refine zv_run 0 (pc' := 46) (lo' := [some (.ref 0), some (.int x1)]) (st' := [.int (p13.2 13 x1.toNatClampNeg), .int (p13.2 14 x1.toNatClampNeg)]) (I' := p13.2) (L' := L) (R' := zw_RM) rfl ?_
    refine zv_run 4 (pc' := 52) (lo' := [some (.ref 0), some (.int x1)]) (st' := [.int x1, .ref 12, .int ((p13.2 14 x1.toNatClampNeg) + (p13.2 13 x1.toNatClampNeg))]) (I' := p13.2) (L' := L) (R' := zw_RM) rfl ?_
    obtain ⟨g52, h⟩ := mo_gs h
    refine zv_iald (zs_at rfl) rfl (mo_in_vp g52) ?_
    refine zv_run 0 (pc' := 53) (lo' := [some (.ref 0), some (.int x1)]) (st' := [.int (p13.2 12 x1.toNatClampNeg), .int ((p13.2 14 x1.toNatClampNeg) + (p13.2 13 x1.toNatClampNeg))]) (I' := p13.2) (L' := L) (R' := zw_RM) rfl ?_
    refine zv_run 1 (pc' := 54) (lo' := [some (.ref 0), some (.int x1)]) (st' := [.int (((p13.2 14 x1.toNatClampNeg) + (p13.2 13 x1.toNatClampNeg)) - (p13.2 12 x1.toNatClampNeg))]) (I' := p13.2) (L' := L) (R' := zw_RM) rfl ?_
    obtain rfl := Option.some.inj h
    exact zv_iret (zs_at rfl) rfl ⟨Nat.le_refl _, Nat.le_refl _⟩ zw_here
  · have h := mo_t h c25
    refine zv_run 2 (pc' := 54) (lo' := [some (.ref 0), some (.int x1)]) (st' := [.int 198]) (I' := p13.2) (L' := L) (R' := zw_RM) rfl ?_
    obtain rfl := Option.some.inj h
    exact zv_iret (zs_at rfl) rfl ⟨Nat.le_refl _, Nat.le_refl _⟩ zw_here
