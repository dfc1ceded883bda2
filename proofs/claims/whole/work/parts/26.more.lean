/-! bigger, when, fewest: evenings over and over -/
def zw_any (r : Option Value) (I : zx_I) (L : zx_L) (h sp : Nat) : zx_Qt := fun r' S' I' L' R' => r' = r ∧ S' = zw_SC ∧ I' = I ∧ L' = L ∧ ∃ la, R' = zw_RC h sp la
theorem zw_toa {r r' : Option Value} {I I' : zx_I} {L L' : zx_L} {h sp : Nat} {la : Option Nat} (h1 : r' = r) (h2 : I' = I) (h3 : L' = L) : zw_any r I L h sp r' zw_SC I' L' (zw_RC h sp la) := ⟨h1, rfl, h2, h3, la, rfl⟩
theorem zv_cVa {M : zx_M} {d : Nat} {b : zx_B} {Q : zx_Qt} {pc : Nat} {lo : List (Option Value)} {st : List Value} {I I' : zx_I} {L L' : zx_L} {R : zx_R} {h sp : Nat} {M' : zx_M} {idx np a ci n N : Nat} {T : u_T} {av : List Value} {r : Option Value} (hd : (zs_from M.2.2.2.2.2 pc).head? = some (pc, .invokevirtual idx, 3)) (hl : zcV M.2.2.2.2.1 idx M'.1 np) (hg' : zx_good M') (hs : zw_SC[a]? = some (ci, n)) (hcn : vwCl[ci]? = some (M'.1.cls, T, N)) (hnp : av.length = np)
    (hw : (st.map fun v => v.category).sum ≤ 8) (hc : zx_M0 M' d 0 0 (.ref a :: av) zw_SC I L R (zw_any r I' L' h sp)) (hb : b.1 ≤ b.2.2.1 ∧ b.2.1 ≤ b.2.2.2) (kk : ∀ la, zx_V M (d + 1) b Q zw_SC (pc + 3) lo (r.toList ++ st) I' L' (zw_RC h sp la)) : zx_V M (d + 1) b Q zw_SC pc lo (av.reverse ++ .ref a :: st) I L R :=
  zv_callV (zs_at hd) hl hg' hs hcn hnp hc hb hw (fun r1 S1 I1 L1 R1 hq => by obtain ⟨rfl, rfl, rfl, rfl, la, rfl⟩ := hq; exact kk la)
/-- a set of states in which an evening does no harm, and which it keeps -/
def kr (K : zx_I → Prop) (h : Nat) : Prop := ∀ J L, K J → rn_ok J L h ∧ K (fr_end J L h).1
def q_bgok (I : zx_I) (h : Nat) (rule k : Int32) : Prop := ¬ q_rule rule = 0 ∧ ¬ k < 0 ∧ k ≤ 3
def q_bgm (I : zx_I) (h sp : Nat) (rule k : Int32) : zx_I := fh_grow (fh_like (q_ask I h rule) sp h) sp k
theorem ct_X9_bigger_bad_4 {d : Nat} {I : zx_I} {L : zx_L} {la : Option Nat} {rule k : Int32} (hno : ¬ q_bgok I 4 rule k) : zx_M0 mm_X9_bigger (d + 1) 0 0 [.ref 0, .int rule, .int k] zw_SC I L (zw_RC 4 14 la) (zw_ret (some (.int (-1))) zw_SC I L (zw_RC 4 14 la)) := by
  refine zv_entry gd_X9_bigger (Nat.le_of_ble_eq_true rfl) ?_
  refine zv_run 1 (pc' := 1) (lo' := [some (.ref 0), some (.int rule), some (.int k)]) (st' := [.int rule]) (I' := I) (L' := L) (R' := zw_RC 4 14 la) rfl ?_
  refine zv_cS (M' := mm_X9_isRule) (av := [.int rule]) (st := []) (r := some (.int (q_rule rule))) (I' := I) (L' := L) (R' := zw_RC 4 14 la) rfl zc_9_152 gd_X9_isRule rfl (Nat.le_of_ble_eq_true rfl) (ct_X9_isRule (d := _)) ⟨Nat.le_refl _, Nat.le_refl _⟩ ?_
  refine zv_run 0 (pc' := 4) (lo' := [some (.ref 0), some (.int rule), some (.int k)]) (st' := [.int (q_rule rule)]) (I' := I) (L' := L) (R' := zw_RC 4 14 la) rfl ?_
  refine zv_if_eq (tgt := 16) (zs_at rfl) (by decide) (fun c4 => ?_) (fun c4 => ?_)
  · have _c := c4
    refine zv_run 1 (pc' := 17) (lo' := [some (.ref 0), some (.int rule), some (.int k)]) (st' := [.int (-1)]) (I' := I) (L' := L) (R' := zw_RC 4 14 la) rfl ?_
    exact zv_iret (zs_at rfl) rfl ⟨Nat.le_refl _, Nat.le_refl _⟩ (zw_to rfl rfl rfl rfl)
  · have _c := c4
    refine zv_run 1 (pc' := 8) (lo' := [some (.ref 0), some (.int rule), some (.int k)]) (st' := [.int k]) (I' := I) (L' := L) (R' := zw_RC 4 14 la) rfl ?_
    refine zv_if_lt (tgt := 16) (zs_at rfl) (by decide) (fun c8 => ?_) (fun c8 => ?_)
    · have _c := c8
      refine zv_run 1 (pc' := 17) (lo' := [some (.ref 0), some (.int rule), some (.int k)]) (st' := [.int (-1)]) (I' := I) (L' := L) (R' := zw_RC 4 14 la) rfl ?_
      exact zv_iret (zs_at rfl) rfl ⟨Nat.le_refl _, Nat.le_refl _⟩ (zw_to rfl rfl rfl rfl)
    · have _c := c8
      refine zv_run 2 (pc' := 13) (lo' := [some (.ref 0), some (.int rule), some (.int k)]) (st' := [.int 3, .int k]) (I' := I) (L' := L) (R' := zw_RC 4 14 la) rfl ?_
      refine zv_icmp_le (tgt := 18) (zs_at rfl) (by decide) (fun c13 => ?_) (fun c13 => ?_)
      · have _c := c13
        exact absurd ⟨c4, c8, c13⟩ hno
      · have _c := c13
        refine zv_run 1 (pc' := 17) (lo' := [some (.ref 0), some (.int rule), some (.int k)]) (st' := [.int (-1)]) (I' := I) (L' := L) (R' := zw_RC 4 14 la) rfl ?_
        exact zv_iret (zs_at rfl) rfl ⟨Nat.le_refl _, Nat.le_refl _⟩ (zw_to rfl rfl rfl rfl)
theorem ct_X9_bigger_bad_14 {d : Nat} {I : zx_I} {L : zx_L} {la : Option Nat} {rule k : Int32} (hno : ¬ q_bgok I 14 rule k) : zx_M0 mm_X9_bigger (d + 1) 0 0 [.ref 0, .int rule, .int k] zw_SC I L (zw_RC 14 4 la) (zw_ret (some (.int (-1))) zw_SC I L (zw_RC 14 4 la)) := by
  refine zv_entry gd_X9_bigger (Nat.le_of_ble_eq_true rfl) ?_
  refine zv_run 1 (pc' := 1) (lo' := [some (.ref 0), some (.int rule), some (.int k)]) (st' := [.int rule]) (I' := I) (L' := L) (R' := zw_RC 14 4 la) rfl ?_
  refine zv_cS (M' := mm_X9_isRule) (av := [.int rule]) (st := []) (r := some (.int (q_rule rule))) (I' := I) (L' := L) (R' := zw_RC 14 4 la) rfl zc_9_152 gd_X9_isRule rfl (Nat.le_of_ble_eq_true rfl) (ct_X9_isRule (d := _)) ⟨Nat.le_refl _, Nat.le_refl _⟩ ?_
  refine zv_run 0 (pc' := 4) (lo' := [some (.ref 0), some (.int rule), some (.int k)]) (st' := [.int (q_rule rule)]) (I' := I) (L' := L) (R' := zw_RC 14 4 la) rfl ?_
  refine zv_if_eq (tgt := 16) (zs_at rfl) (by decide) (fun c4 => ?_) (fun c4 => ?_)
  · have _c := c4
    refine zv_run 1 (pc' := 17) (lo' := [some (.ref 0), some (.int rule), some (.int k)]) (st' := [.int (-1)]) (I' := I) (L' := L) (R' := zw_RC 14 4 la) rfl ?_
    exact zv_iret (zs_at rfl) rfl ⟨Nat.le_refl _, Nat.le_refl _⟩ (zw_to rfl rfl rfl rfl)
  · have _c := c4
    refine zv_run 1 (pc' := 8) (lo' := [some (.ref 0), some (.int rule), some (.int k)]) (st' := [.int k]) (I' := I) (L' := L) (R' := zw_RC 14 4 la) rfl ?_
    refine zv_if_lt (tgt := 16) (zs_at rfl) (by decide) (fun c8 => ?_) (fun c8 => ?_)
    · have _c := c8
      refine zv_run 1 (pc' := 17) (lo' := [some (.ref 0), some (.int rule), some (.int k)]) (st' := [.int (-1)]) (I' := I) (L' := L) (R' := zw_RC 14 4 la) rfl ?_
      exact zv_iret (zs_at rfl) rfl ⟨Nat.le_refl _, Nat.le_refl _⟩ (zw_to rfl rfl rfl rfl)
    · have _c := c8
      refine zv_run 2 (pc' := 13) (lo' := [some (.ref 0), some (.int rule), some (.int k)]) (st' := [.int 3, .int k]) (I' := I) (L' := L) (R' := zw_RC 14 4 la) rfl ?_
      refine zv_icmp_le (tgt := 18) (zs_at rfl) (by decide) (fun c13 => ?_) (fun c13 => ?_)
      · have _c := c13
        exact absurd ⟨c4, c8, c13⟩ hno
      · have _c := c13
        refine zv_run 1 (pc' := 17) (lo' := [some (.ref 0), some (.int rule), some (.int k)]) (st' := [.int (-1)]) (I' := I) (L' := L) (R' := zw_RC 14 4 la) rfl ?_
        exact zv_iret (zs_at rfl) rfl ⟨Nat.le_refl _, Nat.le_refl _⟩ (zw_to rfl rfl rfl rfl)
theorem ct_X9_bigger_bad {d : Nat} {I : zx_I} {L : zx_L} {h sp : Nat} {la : Option Nat} {rule k : Int32} (hh : hsp h sp) (hno : ¬ q_bgok I h rule k) : zx_M0 mm_X9_bigger (d + 1) 0 0 [.ref 0, .int rule, .int k] zw_SC I L (zw_RC h sp la) (zw_ret (some (.int (-1))) zw_SC I L (zw_RC h sp la)) := by
  rcases hh with ⟨rfl, rfl⟩ | ⟨rfl, rfl⟩
  · exact ct_X9_bigger_bad_4 hno
  · exact ct_X9_bigger_bad_14 hno
theorem ct_X9_bigger_six_4 {d : Nat} {I : zx_I} {L : zx_L} {la : Option Nat} {rule k : Int32} (hok : q_bgok I 4 rule k) (hk : k = 0) (h6 : ¬ I 4 1 < 6) : zx_M0 mm_X9_bigger (d + 1) 0 0 [.ref 0, .int rule, .int k] zw_SC I L (zw_RC 4 14 la) (zw_ret (some (.int (-2))) zw_SC I L (zw_RC 4 14 la)) := by
  refine zv_entry gd_X9_bigger (Nat.le_of_ble_eq_true rfl) ?_
  refine zv_run 1 (pc' := 1) (lo' := [some (.ref 0), some (.int rule), some (.int k)]) (st' := [.int rule]) (I' := I) (L' := L) (R' := zw_RC 4 14 la) rfl ?_
  refine zv_cS (M' := mm_X9_isRule) (av := [.int rule]) (st := []) (r := some (.int (q_rule rule))) (I' := I) (L' := L) (R' := zw_RC 4 14 la) rfl zc_9_152 gd_X9_isRule rfl (Nat.le_of_ble_eq_true rfl) (ct_X9_isRule (d := _)) ⟨Nat.le_refl _, Nat.le_refl _⟩ ?_
  refine zv_run 0 (pc' := 4) (lo' := [some (.ref 0), some (.int rule), some (.int k)]) (st' := [.int (q_rule rule)]) (I' := I) (L' := L) (R' := zw_RC 4 14 la) rfl ?_
  refine zv_if_eq (tgt := 16) (zs_at rfl) (by decide) (fun c4 => ?_) (fun c4 => ?_)
  · have _c := c4
    refine zv_run 1 (pc' := 17) (lo' := [some (.ref 0), some (.int rule), some (.int k)]) (st' := [.int (-1)]) (I' := I) (L' := L) (R' := zw_RC 4 14 la) rfl ?_
    exact zv_iret (zs_at rfl) rfl ⟨Nat.le_refl _, Nat.le_refl _⟩ (absurd hok (fun q => by first | exact q.1 c4 | exact q.2.1 c8 | exact c13 q.2.2))
  · have _c := c4
    refine zv_run 1 (pc' := 8) (lo' := [some (.ref 0), some (.int rule), some (.int k)]) (st' := [.int k]) (I' := I) (L' := L) (R' := zw_RC 4 14 la) rfl ?_
    refine zv_if_lt (tgt := 16) (zs_at rfl) (by decide) (fun c8 => ?_) (fun c8 => ?_)
    · have _c := c8
      refine zv_run 1 (pc' := 17) (lo' := [some (.ref 0), some (.int rule), some (.int k)]) (st' := [.int (-1)]) (I' := I) (L' := L) (R' := zw_RC 4 14 la) rfl ?_
      exact zv_iret (zs_at rfl) rfl ⟨Nat.le_refl _, Nat.le_refl _⟩ (absurd hok (fun q => by first | exact q.1 c4 | exact q.2.1 c8 | exact c13 q.2.2))
    · have _c := c8
      refine zv_run 2 (pc' := 13) (lo' := [some (.ref 0), some (.int rule), some (.int k)]) (st' := [.int 3, .int k]) (I' := I) (L' := L) (R' := zw_RC 4 14 la) rfl ?_
      refine zv_icmp_le (tgt := 18) (zs_at rfl) (by decide) (fun c13 => ?_) (fun c13 => ?_)
      · have _c := c13
        refine zv_run 1 (pc' := 19) (lo' := [some (.ref 0), some (.int rule), some (.int k)]) (st' := [.int k]) (I' := I) (L' := L) (R' := zw_RC 4 14 la) rfl ?_
        refine zv_if_ne (tgt := 37) (zs_at rfl) (by decide) (fun c19 => ?_) (fun c19 => ?_)
        · exact absurd hk c19
        · have _c := c19
          refine zv_run 4 (pc' := 31) (lo' := [some (.ref 0), some (.int rule), some (.int k)]) (st' := [.int 6, .int (I 4 1)]) (I' := I) (L' := L) (R' := zw_RC 4 14 la) rfl ?_
          refine zv_icmp_lt (tgt := 37) (zs_at rfl) (by decide) (fun c31 => ?_) (fun c31 => ?_)
          · exact absurd c31 h6
          · have _c := c31
            refine zv_run 1 (pc' := 36) (lo' := [some (.ref 0), some (.int rule), some (.int k)]) (st' := [.int (-2)]) (I' := I) (L' := L) (R' := zw_RC 4 14 la) rfl ?_
            exact zv_iret (zs_at rfl) rfl ⟨Nat.le_refl _, Nat.le_refl _⟩ (zw_to rfl rfl rfl rfl)
      · have _c := c13
        refine zv_run 1 (pc' := 17) (lo' := [some (.ref 0), some (.int rule), some (.int k)]) (st' := [.int (-1)]) (I' := I) (L' := L) (R' := zw_RC 4 14 la) rfl ?_
        exact zv_iret (zs_at rfl) rfl ⟨Nat.le_refl _, Nat.le_refl _⟩ (absurd hok (fun q => by first | exact q.1 c4 | exact q.2.1 c8 | exact c13 q.2.2))
theorem ct_X9_bigger_six_14 {d : Nat} {I : zx_I} {L : zx_L} {la : Option Nat} {rule k : Int32} (hok : q_bgok I 14 rule k) (hk : k = 0) (h6 : ¬ I 14 1 < 6) : zx_M0 mm_X9_bigger (d + 1) 0 0 [.ref 0, .int rule, .int k] zw_SC I L (zw_RC 14 4 la) (zw_ret (some (.int (-2))) zw_SC I L (zw_RC 14 4 la)) := by
  refine zv_entry gd_X9_bigger (Nat.le_of_ble_eq_true rfl) ?_
  refine zv_run 1 (pc' := 1) (lo' := [some (.ref 0), some (.int rule), some (.int k)]) (st' := [.int rule]) (I' := I) (L' := L) (R' := zw_RC 14 4 la) rfl ?_
  refine zv_cS (M' := mm_X9_isRule) (av := [.int rule]) (st := []) (r := some (.int (q_rule rule))) (I' := I) (L' := L) (R' := zw_RC 14 4 la) rfl zc_9_152 gd_X9_isRule rfl (Nat.le_of_ble_eq_true rfl) (ct_X9_isRule (d := _)) ⟨Nat.le_refl _, Nat.le_refl _⟩ ?_
  refine zv_run 0 (pc' := 4) (lo' := [some (.ref 0), some (.int rule), some (.int k)]) (st' := [.int (q_rule rule)]) (I' := I) (L' := L) (R' := zw_RC 14 4 la) rfl ?_
  refine zv_if_eq (tgt := 16) (zs_at rfl) (by decide) (fun c4 => ?_) (fun c4 => ?_)
  · have _c := c4
    refine zv_run 1 (pc' := 17) (lo' := [some (.ref 0), some (.int rule), some (.int k)]) (st' := [.int (-1)]) (I' := I) (L' := L) (R' := zw_RC 14 4 la) rfl ?_
    exact zv_iret (zs_at rfl) rfl ⟨Nat.le_refl _, Nat.le_refl _⟩ (absurd hok (fun q => by first | exact q.1 c4 | exact q.2.1 c8 | exact c13 q.2.2))
  · have _c := c4
    refine zv_run 1 (pc' := 8) (lo' := [some (.ref 0), some (.int rule), some (.int k)]) (st' := [.int k]) (I' := I) (L' := L) (R' := zw_RC 14 4 la) rfl ?_
    refine zv_if_lt (tgt := 16) (zs_at rfl) (by decide) (fun c8 => ?_) (fun c8 => ?_)
    · have _c := c8
      refine zv_run 1 (pc' := 17) (lo' := [some (.ref 0), some (.int rule), some (.int k)]) (st' := [.int (-1)]) (I' := I) (L' := L) (R' := zw_RC 14 4 la) rfl ?_
      exact zv_iret (zs_at rfl) rfl ⟨Nat.le_refl _, Nat.le_refl _⟩ (absurd hok (fun q => by first | exact q.1 c4 | exact q.2.1 c8 | exact c13 q.2.2))
    · have _c := c8
      refine zv_run 2 (pc' := 13) (lo' := [some (.ref 0), some (.int rule), some (.int k)]) (st' := [.int 3, .int k]) (I' := I) (L' := L) (R' := zw_RC 14 4 la) rfl ?_
      refine zv_icmp_le (tgt := 18) (zs_at rfl) (by decide) (fun c13 => ?_) (fun c13 => ?_)
      · have _c := c13
        refine zv_run 1 (pc' := 19) (lo' := [some (.ref 0), some (.int rule), some (.int k)]) (st' := [.int k]) (I' := I) (L' := L) (R' := zw_RC 14 4 la) rfl ?_
        refine zv_if_ne (tgt := 37) (zs_at rfl) (by decide) (fun c19 => ?_) (fun c19 => ?_)
        · exact absurd hk c19
        · have _c := c19
          refine zv_run 4 (pc' := 31) (lo' := [some (.ref 0), some (.int rule), some (.int k)]) (st' := [.int 6, .int (I 14 1)]) (I' := I) (L' := L) (R' := zw_RC 14 4 la) rfl ?_
          refine zv_icmp_lt (tgt := 37) (zs_at rfl) (by decide) (fun c31 => ?_) (fun c31 => ?_)
          · exact absurd c31 h6
          · have _c := c31
            refine zv_run 1 (pc' := 36) (lo' := [some (.ref 0), some (.int rule), some (.int k)]) (st' := [.int (-2)]) (I' := I) (L' := L) (R' := zw_RC 14 4 la) rfl ?_
            exact zv_iret (zs_at rfl) rfl ⟨Nat.le_refl _, Nat.le_refl _⟩ (zw_to rfl rfl rfl rfl)
      · have _c := c13
        refine zv_run 1 (pc' := 17) (lo' := [some (.ref 0), some (.int rule), some (.int k)]) (st' := [.int (-1)]) (I' := I) (L' := L) (R' := zw_RC 14 4 la) rfl ?_
        exact zv_iret (zs_at rfl) rfl ⟨Nat.le_refl _, Nat.le_refl _⟩ (absurd hok (fun q => by first | exact q.1 c4 | exact q.2.1 c8 | exact c13 q.2.2))
theorem ct_X9_bigger_six {d : Nat} {I : zx_I} {L : zx_L} {h sp : Nat} {la : Option Nat} {rule k : Int32} (hh : hsp h sp) (hok : q_bgok I h rule k) (hk : k = 0) (h6 : ¬ I h 1 < 6) : zx_M0 mm_X9_bigger (d + 1) 0 0 [.ref 0, .int rule, .int k] zw_SC I L (zw_RC h sp la) (zw_ret (some (.int (-2))) zw_SC I L (zw_RC h sp la)) := by
  rcases hh with ⟨rfl, rfl⟩ | ⟨rfl, rfl⟩
  · exact ct_X9_bigger_six_4 hok hk h6
  · exact ct_X9_bigger_six_14 hok hk h6
theorem ct_X9_bigger_4 {d : Nat} {I : zx_I} {L : zx_L} {la : Option Nat} {rule k : Int32} (hok : q_bgok I 4 rule k) (hk : k = 0 → I 4 1 < 6) (hr : rn_ok (q_bgm I 4 14 rule k) (q_L L) 14) : zx_M0 mm_X9_bigger (d + 5) 0 0 [.ref 0, .int rule, .int k] zw_SC I L (zw_RC 4 14 la) (zw_ret (some (.int (fr_score (q_bgm I 4 14 rule k) (q_L L) 14))) zw_SC (fr_end (q_bgm I 4 14 rule k) (q_L L) 14).1 (q_L L) (zw_RC 4 14 (fr_end (q_bgm I 4 14 rule k) (q_L L) 14).2)) := by
  refine zv_entry gd_X9_bigger (Nat.le_of_ble_eq_true rfl) ?_
  refine zv_run 1 (pc' := 1) (lo' := [some (.ref 0), some (.int rule), some (.int k)]) (st' := [.int rule]) (I' := I) (L' := L) (R' := zw_RC 4 14 la) rfl ?_
  refine zv_cS (M' := mm_X9_isRule) (av := [.int rule]) (st := []) (r := some (.int (q_rule rule))) (I' := I) (L' := L) (R' := zw_RC 4 14 la) rfl zc_9_152 gd_X9_isRule rfl (Nat.le_of_ble_eq_true rfl) (ct_X9_isRule (d := _)) ⟨Nat.le_refl _, Nat.le_refl _⟩ ?_
  refine zv_run 0 (pc' := 4) (lo' := [some (.ref 0), some (.int rule), some (.int k)]) (st' := [.int (q_rule rule)]) (I' := I) (L' := L) (R' := zw_RC 4 14 la) rfl ?_
  refine zv_if_eq (tgt := 16) (zs_at rfl) (by decide) (fun c4 => ?_) (fun c4 => ?_)
  · have _c := c4
    refine zv_run 1 (pc' := 17) (lo' := [some (.ref 0), some (.int rule), some (.int k)]) (st' := [.int (-1)]) (I' := I) (L' := L) (R' := zw_RC 4 14 la) rfl ?_
    exact zv_iret (zs_at rfl) rfl ⟨Nat.le_refl _, Nat.le_refl _⟩ (absurd hok (fun q => by first | exact q.1 c4 | exact q.2.1 c8 | exact c13 q.2.2))
  · have _c := c4
    refine zv_run 1 (pc' := 8) (lo' := [some (.ref 0), some (.int rule), some (.int k)]) (st' := [.int k]) (I' := I) (L' := L) (R' := zw_RC 4 14 la) rfl ?_
    refine zv_if_lt (tgt := 16) (zs_at rfl) (by decide) (fun c8 => ?_) (fun c8 => ?_)
    · have _c := c8
      refine zv_run 1 (pc' := 17) (lo' := [some (.ref 0), some (.int rule), some (.int k)]) (st' := [.int (-1)]) (I' := I) (L' := L) (R' := zw_RC 4 14 la) rfl ?_
      exact zv_iret (zs_at rfl) rfl ⟨Nat.le_refl _, Nat.le_refl _⟩ (absurd hok (fun q => by first | exact q.1 c4 | exact q.2.1 c8 | exact c13 q.2.2))
    · have _c := c8
      refine zv_run 2 (pc' := 13) (lo' := [some (.ref 0), some (.int rule), some (.int k)]) (st' := [.int 3, .int k]) (I' := I) (L' := L) (R' := zw_RC 4 14 la) rfl ?_
      refine zv_icmp_le (tgt := 18) (zs_at rfl) (by decide) (fun c13 => ?_) (fun c13 => ?_)
      · have _c := c13
        refine zv_run 1 (pc' := 19) (lo' := [some (.ref 0), some (.int rule), some (.int k)]) (st' := [.int k]) (I' := I) (L' := L) (R' := zw_RC 4 14 la) rfl ?_
        refine zv_if_ne (tgt := 37) (zs_at rfl) (by decide) (fun c19 => ?_) (fun c19 => ?_)
        · have _c := c19
          refine zv_run 2 (pc' := 39) (lo' := [some (.ref 0), some (.int rule), some (.int k)]) (st' := [.int rule, .ref 0]) (I' := I) (L' := L) (R' := zw_RC 4 14 la) rfl ?_
          refine zv_cV (M' := mm_X9_ask) (ci := 9) (a := 0) (av := [.int rule]) (st := []) (r := none) (I' := (q_ask I 4 rule)) (L' := (q_L L)) (R' := zw_RC 4 14 la) rfl zc_9_156 gd_X9_ask rfl rfl rfl (Nat.le_of_ble_eq_true rfl) (ct_X9_ask_4 (d := _)) ⟨Nat.le_refl _, Nat.le_refl _⟩ ?_
          refine zv_run 0 (pc' := 42) (lo' := [some (.ref 0), some (.int rule), some (.int k)]) (st' := []) (I' := (q_ask I 4 rule)) (L' := (q_L L)) (R' := zw_RC 4 14 la) rfl ?_
          refine zv_run 4 (pc' := 50) (lo' := [some (.ref 0), some (.int rule), some (.int k)]) (st' := [.ref 4, .ref 14]) (I' := (q_ask I 4 rule)) (L' := (q_L L)) (R' := zw_RC 4 14 la) rfl ?_
          refine zv_cV (M' := mm_X5_becomeLike) (ci := 5) (a := 14) (av := [.ref 4]) (st := []) (r := none) (I' := (fh_like (q_ask I 4 rule) 14 4)) (L' := (q_L L)) (R' := zw_RC 4 14 la) rfl zc_9_215 gd_X5_becomeLike rfl rfl rfl (Nat.le_of_ble_eq_true rfl) (ct_X5_becomeLike_14 (d := _)) ⟨Nat.le_refl _, Nat.le_refl _⟩ ?_
          refine zv_run 0 (pc' := 53) (lo' := [some (.ref 0), some (.int rule), some (.int k)]) (st' := []) (I' := (fh_like (q_ask I 4 rule) 14 4)) (L' := (q_L L)) (R' := zw_RC 4 14 la) rfl ?_
          refine zv_run 3 (pc' := 58) (lo' := [some (.ref 0), some (.int rule), some (.int k)]) (st' := [.int k, .ref 14]) (I' := (fh_like (q_ask I 4 rule) 14 4)) (L' := (q_L L)) (R' := zw_RC 4 14 la) rfl ?_
          refine zv_cV (M' := mm_X5_grow) (ci := 5) (a := 14) (av := [.int k]) (st := []) (r := none) (I' := (fh_grow (fh_like (q_ask I 4 rule) 14 4) 14 k)) (L' := (q_L L)) (R' := zw_RC 4 14 la) rfl zc_9_218 gd_X5_grow rfl rfl rfl (Nat.le_of_ble_eq_true rfl) (ct_X5_grow (d := _) (Or.inr rfl)) ⟨Nat.le_refl _, Nat.le_refl _⟩ ?_
          refine zv_run 0 (pc' := 61) (lo' := [some (.ref 0), some (.int rule), some (.int k)]) (st' := []) (I' := (fh_grow (fh_like (q_ask I 4 rule) 14 4) 14 k)) (L' := (q_L L)) (R' := zw_RC 4 14 la) rfl ?_
          refine zv_run 6 (pc' := 73) (lo' := [some (.ref 0), some (.int rule), some (.int k)]) (st' := [.ref 34, .ref 14, .ref 36]) (I' := (fh_grow (fh_like (q_ask I 4 rule) 14 4) 14 k)) (L' := (q_L L)) (R' := zw_RC 4 14 la) rfl ?_
          refine zv_cV (M' := mm_X3_run) (ci := 3) (a := 36) (av := [.ref 14, .ref 34]) (st := []) (r := some (.int (fr_score (fh_grow (fh_like (q_ask I 4 rule) 14 4) 14 k) (q_L L) 14))) (I' := (fr_end (fh_grow (fh_like (q_ask I 4 rule) 14 4) 14 k) (q_L L) 14).1) (L' := (q_L L)) (R' := zw_RC 4 14 (fr_end (fh_grow (fh_like (q_ask I 4 rule) 14 4) 14 k) (q_L L) 14).2) rfl zc_9_159 gd_X3_run rfl rfl rfl (Nat.le_of_ble_eq_true rfl) (ct_X3_run (d := _) (Or.inr rfl) hr) ⟨Nat.le_refl _, Nat.le_refl _⟩ ?_
          refine zv_run 0 (pc' := 76) (lo' := [some (.ref 0), some (.int rule), some (.int k)]) (st' := [.int (fr_score (fh_grow (fh_like (q_ask I 4 rule) 14 4) 14 k) (q_L L) 14)]) (I' := (fr_end (fh_grow (fh_like (q_ask I 4 rule) 14 4) 14 k) (q_L L) 14).1) (L' := (q_L L)) (R' := zw_RC 4 14 (fr_end (fh_grow (fh_like (q_ask I 4 rule) 14 4) 14 k) (q_L L) 14).2) rfl ?_
          exact zv_iret (zs_at rfl) rfl ⟨Nat.le_refl _, Nat.le_refl _⟩ (zw_to rfl rfl rfl rfl)
        · have _c := c19
          refine zv_run 4 (pc' := 31) (lo' := [some (.ref 0), some (.int rule), some (.int k)]) (st' := [.int 6, .int (I 4 1)]) (I' := I) (L' := L) (R' := zw_RC 4 14 la) rfl ?_
          refine zv_icmp_lt (tgt := 37) (zs_at rfl) (by decide) (fun c31 => ?_) (fun c31 => ?_)
          · have _c := c31
            refine zv_run 2 (pc' := 39) (lo' := [some (.ref 0), some (.int rule), some (.int k)]) (st' := [.int rule, .ref 0]) (I' := I) (L' := L) (R' := zw_RC 4 14 la) rfl ?_
            refine zv_cV (M' := mm_X9_ask) (ci := 9) (a := 0) (av := [.int rule]) (st := []) (r := none) (I' := (q_ask I 4 rule)) (L' := (q_L L)) (R' := zw_RC 4 14 la) rfl zc_9_156 gd_X9_ask rfl rfl rfl (Nat.le_of_ble_eq_true rfl) (ct_X9_ask_4 (d := _)) ⟨Nat.le_refl _, Nat.le_refl _⟩ ?_
            refine zv_run 0 (pc' := 42) (lo' := [some (.ref 0), some (.int rule), some (.int k)]) (st' := []) (I' := (q_ask I 4 rule)) (L' := (q_L L)) (R' := zw_RC 4 14 la) rfl ?_
            refine zv_run 4 (pc' := 50) (lo' := [some (.ref 0), some (.int rule), some (.int k)]) (st' := [.ref 4, .ref 14]) (I' := (q_ask I 4 rule)) (L' := (q_L L)) (R' := zw_RC 4 14 la) rfl ?_
            refine zv_cV (M' := mm_X5_becomeLike) (ci := 5) (a := 14) (av := [.ref 4]) (st := []) (r := none) (I' := (fh_like (q_ask I 4 rule) 14 4)) (L' := (q_L L)) (R' := zw_RC 4 14 la) rfl zc_9_215 gd_X5_becomeLike rfl rfl rfl (Nat.le_of_ble_eq_true rfl) (ct_X5_becomeLike_14 (d := _)) ⟨Nat.le_refl _, Nat.le_refl _⟩ ?_
            refine zv_run 0 (pc' := 53) (lo' := [some (.ref 0), some (.int rule), some (.int k)]) (st' := []) (I' := (fh_like (q_ask I 4 rule) 14 4)) (L' := (q_L L)) (R' := zw_RC 4 14 la) rfl ?_
            refine zv_run 3 (pc' := 58) (lo' := [some (.ref 0), some (.int rule), some (.int k)]) (st' := [.int k, .ref 14]) (I' := (fh_like (q_ask I 4 rule) 14 4)) (L' := (q_L L)) (R' := zw_RC 4 14 la) rfl ?_
            refine zv_cV (M' := mm_X5_grow) (ci := 5) (a := 14) (av := [.int k]) (st := []) (r := none) (I' := (fh_grow (fh_like (q_ask I 4 rule) 14 4) 14 k)) (L' := (q_L L)) (R' := zw_RC 4 14 la) rfl zc_9_218 gd_X5_grow rfl rfl rfl (Nat.le_of_ble_eq_true rfl) (ct_X5_grow (d := _) (Or.inr rfl)) ⟨Nat.le_refl _, Nat.le_refl _⟩ ?_
            refine zv_run 0 (pc' := 61) (lo' := [some (.ref 0), some (.int rule), some (.int k)]) (st' := []) (I' := (fh_grow (fh_like (q_ask I 4 rule) 14 4) 14 k)) (L' := (q_L L)) (R' := zw_RC 4 14 la) rfl ?_
            refine zv_run 6 (pc' := 73) (lo' := [some (.ref 0), some (.int rule), some (.int k)]) (st' := [.ref 34, .ref 14, .ref 36]) (I' := (fh_grow (fh_like (q_ask I 4 rule) 14 4) 14 k)) (L' := (q_L L)) (R' := zw_RC 4 14 la) rfl ?_
            refine zv_cV (M' := mm_X3_run) (ci := 3) (a := 36) (av := [.ref 14, .ref 34]) (st := []) (r := some (.int (fr_score (fh_grow (fh_like (q_ask I 4 rule) 14 4) 14 k) (q_L L) 14))) (I' := (fr_end (fh_grow (fh_like (q_ask I 4 rule) 14 4) 14 k) (q_L L) 14).1) (L' := (q_L L)) (R' := zw_RC 4 14 (fr_end (fh_grow (fh_like (q_ask I 4 rule) 14 4) 14 k) (q_L L) 14).2) rfl zc_9_159 gd_X3_run rfl rfl rfl (Nat.le_of_ble_eq_true rfl) (ct_X3_run (d := _) (Or.inr rfl) hr) ⟨Nat.le_refl _, Nat.le_refl _⟩ ?_
            refine zv_run 0 (pc' := 76) (lo' := [some (.ref 0), some (.int rule), some (.int k)]) (st' := [.int (fr_score (fh_grow (fh_like (q_ask I 4 rule) 14 4) 14 k) (q_L L) 14)]) (I' := (fr_end (fh_grow (fh_like (q_ask I 4 rule) 14 4) 14 k) (q_L L) 14).1) (L' := (q_L L)) (R' := zw_RC 4 14 (fr_end (fh_grow (fh_like (q_ask I 4 rule) 14 4) 14 k) (q_L L) 14).2) rfl ?_
            exact zv_iret (zs_at rfl) rfl ⟨Nat.le_refl _, Nat.le_refl _⟩ (zw_to rfl rfl rfl rfl)
          · have _c := c31
            refine zv_run 1 (pc' := 36) (lo' := [some (.ref 0), some (.int rule), some (.int k)]) (st' := [.int (-2)]) (I' := I) (L' := L) (R' := zw_RC 4 14 la) rfl ?_
            exact zv_iret (zs_at rfl) rfl ⟨Nat.le_refl _, Nat.le_refl _⟩ (absurd (hk c19) c31)
      · have _c := c13
        refine zv_run 1 (pc' := 17) (lo' := [some (.ref 0), some (.int rule), some (.int k)]) (st' := [.int (-1)]) (I' := I) (L' := L) (R' := zw_RC 4 14 la) rfl ?_
        exact zv_iret (zs_at rfl) rfl ⟨Nat.le_refl _, Nat.le_refl _⟩ (absurd hok (fun q => by first | exact q.1 c4 | exact q.2.1 c8 | exact c13 q.2.2))
theorem ct_X9_bigger_14 {d : Nat} {I : zx_I} {L : zx_L} {la : Option Nat} {rule k : Int32} (hok : q_bgok I 14 rule k) (hk : k = 0 → I 14 1 < 6) (hr : rn_ok (q_bgm I 14 4 rule k) (q_L L) 4) : zx_M0 mm_X9_bigger (d + 5) 0 0 [.ref 0, .int rule, .int k] zw_SC I L (zw_RC 14 4 la) (zw_ret (some (.int (fr_score (q_bgm I 14 4 rule k) (q_L L) 4))) zw_SC (fr_end (q_bgm I 14 4 rule k) (q_L L) 4).1 (q_L L) (zw_RC 14 4 (fr_end (q_bgm I 14 4 rule k) (q_L L) 4).2)) := by
  refine zv_entry gd_X9_bigger (Nat.le_of_ble_eq_true rfl) ?_
  refine zv_run 1 (pc' := 1) (lo' := [some (.ref 0), some (.int rule), some (.int k)]) (st' := [.int rule]) (I' := I) (L' := L) (R' := zw_RC 14 4 la) rfl ?_
  refine zv_cS (M' := mm_X9_isRule) (av := [.int rule]) (st := []) (r := some (.int (q_rule rule))) (I' := I) (L' := L) (R' := zw_RC 14 4 la) rfl zc_9_152 gd_X9_isRule rfl (Nat.le_of_ble_eq_true rfl) (ct_X9_isRule (d := _)) ⟨Nat.le_refl _, Nat.le_refl _⟩ ?_
  refine zv_run 0 (pc' := 4) (lo' := [some (.ref 0), some (.int rule), some (.int k)]) (st' := [.int (q_rule rule)]) (I' := I) (L' := L) (R' := zw_RC 14 4 la) rfl ?_
  refine zv_if_eq (tgt := 16) (zs_at rfl) (by decide) (fun c4 => ?_) (fun c4 => ?_)
  · have _c := c4
    refine zv_run 1 (pc' := 17) (lo' := [some (.ref 0), some (.int rule), some (.int k)]) (st' := [.int (-1)]) (I' := I) (L' := L) (R' := zw_RC 14 4 la) rfl ?_
    exact zv_iret (zs_at rfl) rfl ⟨Nat.le_refl _, Nat.le_refl _⟩ (absurd hok (fun q => by first | exact q.1 c4 | exact q.2.1 c8 | exact c13 q.2.2))
  · have _c := c4
    refine zv_run 1 (pc' := 8) (lo' := [some (.ref 0), some (.int rule), some (.int k)]) (st' := [.int k]) (I' := I) (L' := L) (R' := zw_RC 14 4 la) rfl ?_
    refine zv_if_lt (tgt := 16) (zs_at rfl) (by decide) (fun c8 => ?_) (fun c8 => ?_)
    · have _c := c8
      refine zv_run 1 (pc' := 17) (lo' := [some (.ref 0), some (.int rule), some (.int k)]) (st' := [.int (-1)]) (I' := I) (L' := L) (R' := zw_RC 14 4 la) rfl ?_
      exact zv_iret (zs_at rfl) rfl ⟨Nat.le_refl _, Nat.le_refl _⟩ (absurd hok (fun q => by first | exact q.1 c4 | exact q.2.1 c8 | exact c13 q.2.2))
    · have _c := c8
      refine zv_run 2 (pc' := 13) (lo' := [some (.ref 0), some (.int rule), some (.int k)]) (st' := [.int 3, .int k]) (I' := I) (L' := L) (R' := zw_RC 14 4 la) rfl ?_
      refine zv_icmp_le (tgt := 18) (zs_at rfl) (by decide) (fun c13 => ?_) (fun c13 => ?_)
      · have _c := c13
        refine zv_run 1 (pc' := 19) (lo' := [some (.ref 0), some (.int rule), some (.int k)]) (st' := [.int k]) (I' := I) (L' := L) (R' := zw_RC 14 4 la) rfl ?_
        refine zv_if_ne (tgt := 37) (zs_at rfl) (by decide) (fun c19 => ?_) (fun c19 => ?_)
        · have _c := c19
          refine zv_run 2 (pc' := 39) (lo' := [some (.ref 0), some (.int rule), some (.int k)]) (st' := [.int rule, .ref 0]) (I' := I) (L' := L) (R' := zw_RC 14 4 la) rfl ?_
          refine zv_cV (M' := mm_X9_ask) (ci := 9) (a := 0) (av := [.int rule]) (st := []) (r := none) (I' := (q_ask I 14 rule)) (L' := (q_L L)) (R' := zw_RC 14 4 la) rfl zc_9_156 gd_X9_ask rfl rfl rfl (Nat.le_of_ble_eq_true rfl) (ct_X9_ask_14 (d := _)) ⟨Nat.le_refl _, Nat.le_refl _⟩ ?_
          refine zv_run 0 (pc' := 42) (lo' := [some (.ref 0), some (.int rule), some (.int k)]) (st' := []) (I' := (q_ask I 14 rule)) (L' := (q_L L)) (R' := zw_RC 14 4 la) rfl ?_
          refine zv_run 4 (pc' := 50) (lo' := [some (.ref 0), some (.int rule), some (.int k)]) (st' := [.ref 14, .ref 4]) (I' := (q_ask I 14 rule)) (L' := (q_L L)) (R' := zw_RC 14 4 la) rfl ?_
          refine zv_cV (M' := mm_X5_becomeLike) (ci := 5) (a := 4) (av := [.ref 14]) (st := []) (r := none) (I' := (fh_like (q_ask I 14 rule) 4 14)) (L' := (q_L L)) (R' := zw_RC 14 4 la) rfl zc_9_215 gd_X5_becomeLike rfl rfl rfl (Nat.le_of_ble_eq_true rfl) (ct_X5_becomeLike_4 (d := _)) ⟨Nat.le_refl _, Nat.le_refl _⟩ ?_
          refine zv_run 0 (pc' := 53) (lo' := [some (.ref 0), some (.int rule), some (.int k)]) (st' := []) (I' := (fh_like (q_ask I 14 rule) 4 14)) (L' := (q_L L)) (R' := zw_RC 14 4 la) rfl ?_
          refine zv_run 3 (pc' := 58) (lo' := [some (.ref 0), some (.int rule), some (.int k)]) (st' := [.int k, .ref 4]) (I' := (fh_like (q_ask I 14 rule) 4 14)) (L' := (q_L L)) (R' := zw_RC 14 4 la) rfl ?_
          refine zv_cV (M' := mm_X5_grow) (ci := 5) (a := 4) (av := [.int k]) (st := []) (r := none) (I' := (fh_grow (fh_like (q_ask I 14 rule) 4 14) 4 k)) (L' := (q_L L)) (R' := zw_RC 14 4 la) rfl zc_9_218 gd_X5_grow rfl rfl rfl (Nat.le_of_ble_eq_true rfl) (ct_X5_grow (d := _) (Or.inl rfl)) ⟨Nat.le_refl _, Nat.le_refl _⟩ ?_
          refine zv_run 0 (pc' := 61) (lo' := [some (.ref 0), some (.int rule), some (.int k)]) (st' := []) (I' := (fh_grow (fh_like (q_ask I 14 rule) 4 14) 4 k)) (L' := (q_L L)) (R' := zw_RC 14 4 la) rfl ?_
          refine zv_run 6 (pc' := 73) (lo' := [some (.ref 0), some (.int rule), some (.int k)]) (st' := [.ref 34, .ref 4, .ref 36]) (I' := (fh_grow (fh_like (q_ask I 14 rule) 4 14) 4 k)) (L' := (q_L L)) (R' := zw_RC 14 4 la) rfl ?_
          refine zv_cV (M' := mm_X3_run) (ci := 3) (a := 36) (av := [.ref 4, .ref 34]) (st := []) (r := some (.int (fr_score (fh_grow (fh_like (q_ask I 14 rule) 4 14) 4 k) (q_L L) 4))) (I' := (fr_end (fh_grow (fh_like (q_ask I 14 rule) 4 14) 4 k) (q_L L) 4).1) (L' := (q_L L)) (R' := zw_RC 14 4 (fr_end (fh_grow (fh_like (q_ask I 14 rule) 4 14) 4 k) (q_L L) 4).2) rfl zc_9_159 gd_X3_run rfl rfl rfl (Nat.le_of_ble_eq_true rfl) (ct_X3_run (d := _) (Or.inl rfl) hr) ⟨Nat.le_refl _, Nat.le_refl _⟩ ?_
          refine zv_run 0 (pc' := 76) (lo' := [some (.ref 0), some (.int rule), some (.int k)]) (st' := [.int (fr_score (fh_grow (fh_like (q_ask I 14 rule) 4 14) 4 k) (q_L L) 4)]) (I' := (fr_end (fh_grow (fh_like (q_ask I 14 rule) 4 14) 4 k) (q_L L) 4).1) (L' := (q_L L)) (R' := zw_RC 14 4 (fr_end (fh_grow (fh_like (q_ask I 14 rule) 4 14) 4 k) (q_L L) 4).2) rfl ?_
          exact zv_iret (zs_at rfl) rfl ⟨Nat.le_refl _, Nat.le_refl _⟩ (zw_to rfl rfl rfl rfl)
        · have _c := c19
          refine zv_run 4 (pc' := 31) (lo' := [some (.ref 0), some (.int rule), some (.int k)]) (st' := [.int 6, .int (I 14 1)]) (I' := I) (L' := L) (R' := zw_RC 14 4 la) rfl ?_
          refine zv_icmp_lt (tgt := 37) (zs_at rfl) (by decide) (fun c31 => ?_) (fun c31 => ?_)
          · have _c := c31
            refine zv_run 2 (pc' := 39) (lo' := [some (.ref 0), some (.int rule), some (.int k)]) (st' := [.int rule, .ref 0]) (I' := I) (L' := L) (R' := zw_RC 14 4 la) rfl ?_
            refine zv_cV (M' := mm_X9_ask) (ci := 9) (a := 0) (av := [.int rule]) (st := []) (r := none) (I' := (q_ask I 14 rule)) (L' := (q_L L)) (R' := zw_RC 14 4 la) rfl zc_9_156 gd_X9_ask rfl rfl rfl (Nat.le_of_ble_eq_true rfl) (ct_X9_ask_14 (d := _)) ⟨Nat.le_refl _, Nat.le_refl _⟩ ?_
            refine zv_run 0 (pc' := 42) (lo' := [some (.ref 0), some (.int rule), some (.int k)]) (st' := []) (I' := (q_ask I 14 rule)) (L' := (q_L L)) (R' := zw_RC 14 4 la) rfl ?_
            refine zv_run 4 (pc' := 50) (lo' := [some (.ref 0), some (.int rule), some (.int k)]) (st' := [.ref 14, .ref 4]) (I' := (q_ask I 14 rule)) (L' := (q_L L)) (R' := zw_RC 14 4 la) rfl ?_
            refine zv_cV (M' := mm_X5_becomeLike) (ci := 5) (a := 4) (av := [.ref 14]) (st := []) (r := none) (I' := (fh_like (q_ask I 14 rule) 4 14)) (L' := (q_L L)) (R' := zw_RC 14 4 la) rfl zc_9_215 gd_X5_becomeLike rfl rfl rfl (Nat.le_of_ble_eq_true rfl) (ct_X5_becomeLike_4 (d := _)) ⟨Nat.le_refl _, Nat.le_refl _⟩ ?_
            refine zv_run 0 (pc' := 53) (lo' := [some (.ref 0), some (.int rule), some (.int k)]) (st' := []) (I' := (fh_like (q_ask I 14 rule) 4 14)) (L' := (q_L L)) (R' := zw_RC 14 4 la) rfl ?_
            refine zv_run 3 (pc' := 58) (lo' := [some (.ref 0), some (.int rule), some (.int k)]) (st' := [.int k, .ref 4]) (I' := (fh_like (q_ask I 14 rule) 4 14)) (L' := (q_L L)) (R' := zw_RC 14 4 la) rfl ?_
            refine zv_cV (M' := mm_X5_grow) (ci := 5) (a := 4) (av := [.int k]) (st := []) (r := none) (I' := (fh_grow (fh_like (q_ask I 14 rule) 4 14) 4 k)) (L' := (q_L L)) (R' := zw_RC 14 4 la) rfl zc_9_218 gd_X5_grow rfl rfl rfl (Nat.le_of_ble_eq_true rfl) (ct_X5_grow (d := _) (Or.inl rfl)) ⟨Nat.le_refl _, Nat.le_refl _⟩ ?_
            refine zv_run 0 (pc' := 61) (lo' := [some (.ref 0), some (.int rule), some (.int k)]) (st' := []) (I' := (fh_grow (fh_like (q_ask I 14 rule) 4 14) 4 k)) (L' := (q_L L)) (R' := zw_RC 14 4 la) rfl ?_
            refine zv_run 6 (pc' := 73) (lo' := [some (.ref 0), some (.int rule), some (.int k)]) (st' := [.ref 34, .ref 4, .ref 36]) (I' := (fh_grow (fh_like (q_ask I 14 rule) 4 14) 4 k)) (L' := (q_L L)) (R' := zw_RC 14 4 la) rfl ?_
            refine zv_cV (M' := mm_X3_run) (ci := 3) (a := 36) (av := [.ref 4, .ref 34]) (st := []) (r := some (.int (fr_score (fh_grow (fh_like (q_ask I 14 rule) 4 14) 4 k) (q_L L) 4))) (I' := (fr_end (fh_grow (fh_like (q_ask I 14 rule) 4 14) 4 k) (q_L L) 4).1) (L' := (q_L L)) (R' := zw_RC 14 4 (fr_end (fh_grow (fh_like (q_ask I 14 rule) 4 14) 4 k) (q_L L) 4).2) rfl zc_9_159 gd_X3_run rfl rfl rfl (Nat.le_of_ble_eq_true rfl) (ct_X3_run (d := _) (Or.inl rfl) hr) ⟨Nat.le_refl _, Nat.le_refl _⟩ ?_
            refine zv_run 0 (pc' := 76) (lo' := [some (.ref 0), some (.int rule), some (.int k)]) (st' := [.int (fr_score (fh_grow (fh_like (q_ask I 14 rule) 4 14) 4 k) (q_L L) 4)]) (I' := (fr_end (fh_grow (fh_like (q_ask I 14 rule) 4 14) 4 k) (q_L L) 4).1) (L' := (q_L L)) (R' := zw_RC 14 4 (fr_end (fh_grow (fh_like (q_ask I 14 rule) 4 14) 4 k) (q_L L) 4).2) rfl ?_
            exact zv_iret (zs_at rfl) rfl ⟨Nat.le_refl _, Nat.le_refl _⟩ (zw_to rfl rfl rfl rfl)
          · have _c := c31
            refine zv_run 1 (pc' := 36) (lo' := [some (.ref 0), some (.int rule), some (.int k)]) (st' := [.int (-2)]) (I' := I) (L' := L) (R' := zw_RC 14 4 la) rfl ?_
            exact zv_iret (zs_at rfl) rfl ⟨Nat.le_refl _, Nat.le_refl _⟩ (absurd (hk c19) c31)
      · have _c := c13
        refine zv_run 1 (pc' := 17) (lo' := [some (.ref 0), some (.int rule), some (.int k)]) (st' := [.int (-1)]) (I' := I) (L' := L) (R' := zw_RC 14 4 la) rfl ?_
        exact zv_iret (zs_at rfl) rfl ⟨Nat.le_refl _, Nat.le_refl _⟩ (absurd hok (fun q => by first | exact q.1 c4 | exact q.2.1 c8 | exact c13 q.2.2))
theorem ct_X9_bigger {d : Nat} {I : zx_I} {L : zx_L} {h sp : Nat} {la : Option Nat} {rule k : Int32} (hh : hsp h sp) (hok : q_bgok I h rule k) (hk : k = 0 → I h 1 < 6) (hr : rn_ok (q_bgm I h sp rule k) (q_L L) sp) : zx_M0 mm_X9_bigger (d + 5) 0 0 [.ref 0, .int rule, .int k] zw_SC I L (zw_RC h sp la) (zw_ret (some (.int (fr_score (q_bgm I h sp rule k) (q_L L) sp))) zw_SC (fr_end (q_bgm I h sp rule k) (q_L L) sp).1 (q_L L) (zw_RC h sp (fr_end (q_bgm I h sp rule k) (q_L L) sp).2)) := by
  rcases hh with ⟨rfl, rfl⟩ | ⟨rfl, rfl⟩
  · exact ct_X9_bigger_4 hok hk hr
  · exact ct_X9_bigger_14 hok hk hr
def wh_L (L : zx_L) (t : Nat) : zx_L := zx_uL L 34 3 (L 24 2 ||| ((1 : Int64) <<< ((nI t).toInt64 &&& 63)))
def wh_loop (h : Nat) : Nat → Nat → Int32 → Int32 → zx_I → zx_L → Int32 × Int32 × zx_I × zx_L
  | 0, _, s, m, J, L => (s, m, J, L)
  | n + 1, t, s, m, J, L => if lg_cmp (L 24 2 ||| ((1 : Int64) <<< ((nI t).toInt64 &&& 63))) (L 24 2) ≠ 0 then (if s = -4 ∨ ¬ fr_score J (wh_L L t) h ≥ m then wh_loop h n (t + 1) (nI t) (fr_score J (wh_L L t) h) (fr_end J (wh_L L t) h).1 (wh_L L t) else wh_loop h n (t + 1) s m (fr_end J (wh_L L t) h).1 (wh_L L t)) else wh_loop h n (t + 1) s m J (wh_L L t)
def q_whok (rule what : Int32) : Prop := ¬ q_rule rule = 0 ∧ ¬ what < 0 ∧ what ≤ 1
def q_whm (I : zx_I) (h : Nat) (rule : Int32) : zx_I := zx_uI (q_ask I h rule) 34 2 (q_ask I h rule h 8 + 1)
def q_wh (I : zx_I) (L : zx_L) (h N : Nat) (rule : Int32) : Int32 × Int32 × zx_I × zx_L := wh_loop h N 0 (-4) (-4) (q_whm I h rule) (q_L L)
theorem lp_X9_when_4 {d : Nat} {rule what : Int32} {K : zx_I → Prop} {N : Nat} (hK : kr K 4) (hN : N ≤ 60) (hst : ∀ J, K J → J 4 12 = nI N) : ∀ (n t : Nat) (s m : Int32) (J : zx_I) (L : zx_L) (la : Option Nat) (x6 : Option Value), t + n = N → K J → zx_V mm_X9_when (d + 5) z0 (zw_any (some (.int (if what ≠ 0 then (wh_loop 4 n t s m J L).2.1 else (wh_loop 4 n t s m J L).1))) (wh_loop 4 n t s m J L).2.2.1 (wh_loop 4 n t s m J L).2.2.2 4 14) zw_SC 49 [some (.ref 0), some (.int rule), some (.int what), some (.int s), some (.int m), some (.int (nI t)), x6] [] J L (zw_RC 4 14 la) := by
  intro n
  induction n with
  | zero =>
    intro t s m J L la x6 ht hJ
    refine zv_run 4 (pc' := 58) (lo' := [some (.ref 0), some (.int rule), some (.int what), some (.int s), some (.int m), some (.int (nI t)), x6]) (st' := [.int (J 4 12), .int (nI t)]) (I' := J) (L' := L) (R' := zw_RC 4 14 la) rfl ?_
    refine zv_icmp_ge (tgt := 144) (zs_at rfl) (by decide) (fun c58 => ?_) (fun c58 => ?_)
    · have _c := c58
      refine zv_run 1 (pc' := 145) (lo' := [some (.ref 0), some (.int rule), some (.int what), some (.int s), some (.int m), some (.int (nI t)), x6]) (st' := [.int what]) (I' := J) (L' := L) (R' := zw_RC 4 14 la) rfl ?_
      refine zv_if_ne (tgt := 152) (zs_at rfl) (by decide) (fun c145 => ?_) (fun c145 => ?_)
      · have _c := c145
        refine zv_run 1 (pc' := 154) (lo' := [some (.ref 0), some (.int rule), some (.int what), some (.int s), some (.int m), some (.int (nI t)), x6]) (st' := [.int m]) (I' := J) (L' := L) (R' := zw_RC 4 14 la) rfl ?_
        exact zv_iret (zs_at rfl) rfl ⟨Nat.le_refl _, Nat.le_refl _⟩ (zw_toa (by rw [if_pos c145]; rfl) rfl rfl)
      · have _c := c145
        refine zv_run 2 (pc' := 154) (lo' := [some (.ref 0), some (.int rule), some (.int what), some (.int s), some (.int m), some (.int (nI t)), x6]) (st' := [.int s]) (I' := J) (L' := L) (R' := zw_RC 4 14 la) rfl ?_
        exact zv_iret (zs_at rfl) rfl ⟨Nat.le_refl _, Nat.le_refl _⟩ (zw_toa (by rw [if_neg (fun q => q c145)]; rfl) rfl rfl)
    · exact absurd (by rw [hst J hJ]; exact nI_le (by omega) (by omega)) c58
  | succ n ih =>
    intro t s m J L la x6 ht hJ
    refine zv_run 4 (pc' := 58) (lo' := [some (.ref 0), some (.int rule), some (.int what), some (.int s), some (.int m), some (.int (nI t)), x6]) (st' := [.int (J 4 12), .int (nI t)]) (I' := J) (L' := L) (R' := zw_RC 4 14 la) rfl ?_
    refine zv_icmp_ge (tgt := 144) (zs_at rfl) (by decide) (fun c58 => ?_) (fun c58 => ?_)
    · exact absurd c58 (by rw [hst J hJ]; exact nI_ge (by omega) (by omega))
    · have _c := c58
      refine zv_run 17 (pc' := 95) (lo' := [some (.ref 0), some (.int rule), some (.int what), some (.int s), some (.int m), some (.int (nI t)), x6]) (st' := [.int (lg_cmp ((L 24 2) ||| ((1 : Int64) <<< ((nI t).toInt64 &&& 63))) (L 24 2))]) (I' := J) (L' := (zx_uL L 34 3 ((L 24 2) ||| ((1 : Int64) <<< ((nI t).toInt64 &&& 63))))) (R' := zw_RC 4 14 la) rfl ?_
      refine zv_if_ne (tgt := 101) (zs_at rfl) (by decide) (fun c95 => ?_) (fun c95 => ?_)
      · have _c := c95
        refine zv_run 6 (pc' := 113) (lo' := [some (.ref 0), some (.int rule), some (.int what), some (.int s), some (.int m), some (.int (nI t)), x6]) (st' := [.ref 34, .ref 4, .ref 36]) (I' := J) (L' := (zx_uL L 34 3 ((L 24 2) ||| ((1 : Int64) <<< ((nI t).toInt64 &&& 63))))) (R' := zw_RC 4 14 la) rfl ?_
        refine zv_cV (M' := mm_X3_run) (ci := 3) (a := 36) (av := [.ref 4, .ref 34]) (st := []) (r := some (.int (fr_score J (zx_uL L 34 3 ((L 24 2) ||| ((1 : Int64) <<< ((nI t).toInt64 &&& 63)))) 4))) (I' := (fr_end J (zx_uL L 34 3 ((L 24 2) ||| ((1 : Int64) <<< ((nI t).toInt64 &&& 63)))) 4).1) (L' := (zx_uL L 34 3 ((L 24 2) ||| ((1 : Int64) <<< ((nI t).toInt64 &&& 63))))) (R' := zw_RC 4 14 (fr_end J (zx_uL L 34 3 ((L 24 2) ||| ((1 : Int64) <<< ((nI t).toInt64 &&& 63)))) 4).2) rfl zc_9_159 gd_X3_run rfl rfl rfl (Nat.le_of_ble_eq_true rfl) (ct_X3_run (d := _) (Or.inl rfl) (hK _ _ hJ).1) ⟨Nat.le_refl _, Nat.le_refl _⟩ ?_
        refine zv_run 0 (pc' := 116) (lo' := [some (.ref 0), some (.int rule), some (.int what), some (.int s), some (.int m), some (.int (nI t)), x6]) (st' := [.int (fr_score J (zx_uL L 34 3 ((L 24 2) ||| ((1 : Int64) <<< ((nI t).toInt64 &&& 63)))) 4)]) (I' := (fr_end J (zx_uL L 34 3 ((L 24 2) ||| ((1 : Int64) <<< ((nI t).toInt64 &&& 63)))) 4).1) (L' := (zx_uL L 34 3 ((L 24 2) ||| ((1 : Int64) <<< ((nI t).toInt64 &&& 63))))) (R' := zw_RC 4 14 (fr_end J (zx_uL L 34 3 ((L 24 2) ||| ((1 : Int64) <<< ((nI t).toInt64 &&& 63)))) 4).2) rfl ?_
        refine zv_run 3 (pc' := 121) (lo' := [some (.ref 0), some (.int rule), some (.int what), some (.int s), some (.int m), some (.int (nI t)), some (.int (fr_score J (zx_uL L 34 3 ((L 24 2) ||| ((1 : Int64) <<< ((nI t).toInt64 &&& 63)))) 4))]) (st' := [.int (-4), .int s]) (I' := (fr_end J (zx_uL L 34 3 ((L 24 2) ||| ((1 : Int64) <<< ((nI t).toInt64 &&& 63)))) 4).1) (L' := (zx_uL L 34 3 ((L 24 2) ||| ((1 : Int64) <<< ((nI t).toInt64 &&& 63))))) (R' := zw_RC 4 14 (fr_end J (zx_uL L 34 3 ((L 24 2) ||| ((1 : Int64) <<< ((nI t).toInt64 &&& 63)))) 4).2) rfl ?_
        refine zv_icmp_eq (tgt := 131) (zs_at rfl) (by decide) (fun c121 => ?_) (fun c121 => ?_)
        · have _c := c121
          refine zv_run 6 (pc' := 49) (lo' := [some (.ref 0), some (.int rule), some (.int what), some (.int (nI t)), some (.int (fr_score J (zx_uL L 34 3 ((L 24 2) ||| ((1 : Int64) <<< ((nI t).toInt64 &&& 63)))) 4)), some (.int ((nI t) + 1)), some (.int (fr_score J (zx_uL L 34 3 ((L 24 2) ||| ((1 : Int64) <<< ((nI t).toInt64 &&& 63)))) 4))]) (st' := []) (I' := (fr_end J (zx_uL L 34 3 ((L 24 2) ||| ((1 : Int64) <<< ((nI t).toInt64 &&& 63)))) 4).1) (L' := (zx_uL L 34 3 ((L 24 2) ||| ((1 : Int64) <<< ((nI t).toInt64 &&& 63))))) (R' := zw_RC 4 14 (fr_end J (zx_uL L 34 3 ((L 24 2) ||| ((1 : Int64) <<< ((nI t).toInt64 &&& 63)))) 4).2) rfl ?_
          have e : wh_loop 4 (n + 1) t s m J L = wh_loop 4 n (t + 1) (nI t) (fr_score J (wh_L L t) 4) (fr_end J (wh_L L t) 4).1 (wh_L L t) := by rw [wh_loop]; rw [if_pos c95, if_pos (show s = -4 ∨ ¬ fr_score J (wh_L L t) 4 ≥ m from by first | exact Or.inl c121 | exact Or.inr c128)]
          rw [e, ← nI_succ]
          exact ih (t + 1) _ _ _ _ _ _ (by omega) (by first | exact hJ | exact (hK _ _ hJ).2)
        · have _c := c121
          refine zv_run 2 (pc' := 128) (lo' := [some (.ref 0), some (.int rule), some (.int what), some (.int s), some (.int m), some (.int (nI t)), some (.int (fr_score J (zx_uL L 34 3 ((L 24 2) ||| ((1 : Int64) <<< ((nI t).toInt64 &&& 63)))) 4))]) (st' := [.int m, .int (fr_score J (zx_uL L 34 3 ((L 24 2) ||| ((1 : Int64) <<< ((nI t).toInt64 &&& 63)))) 4)]) (I' := (fr_end J (zx_uL L 34 3 ((L 24 2) ||| ((1 : Int64) <<< ((nI t).toInt64 &&& 63)))) 4).1) (L' := (zx_uL L 34 3 ((L 24 2) ||| ((1 : Int64) <<< ((nI t).toInt64 &&& 63))))) (R' := zw_RC 4 14 (fr_end J (zx_uL L 34 3 ((L 24 2) ||| ((1 : Int64) <<< ((nI t).toInt64 &&& 63)))) 4).2) rfl ?_
          refine zv_icmp_ge (tgt := 138) (zs_at rfl) (by decide) (fun c128 => ?_) (fun c128 => ?_)
          · have _c := c128
            refine zv_run 2 (pc' := 49) (lo' := [some (.ref 0), some (.int rule), some (.int what), some (.int s), some (.int m), some (.int ((nI t) + 1)), some (.int (fr_score J (zx_uL L 34 3 ((L 24 2) ||| ((1 : Int64) <<< ((nI t).toInt64 &&& 63)))) 4))]) (st' := []) (I' := (fr_end J (zx_uL L 34 3 ((L 24 2) ||| ((1 : Int64) <<< ((nI t).toInt64 &&& 63)))) 4).1) (L' := (zx_uL L 34 3 ((L 24 2) ||| ((1 : Int64) <<< ((nI t).toInt64 &&& 63))))) (R' := zw_RC 4 14 (fr_end J (zx_uL L 34 3 ((L 24 2) ||| ((1 : Int64) <<< ((nI t).toInt64 &&& 63)))) 4).2) rfl ?_
            have e : wh_loop 4 (n + 1) t s m J L = wh_loop 4 n (t + 1) s m (fr_end J (wh_L L t) 4).1 (wh_L L t) := by rw [wh_loop]; rw [if_pos c95, if_neg (show ¬ (s = -4 ∨ ¬ fr_score J (wh_L L t) 4 ≥ m) from fun q => q.elim c121 (fun q => q c128))]
            rw [e, ← nI_succ]
            exact ih (t + 1) _ _ _ _ _ _ (by omega) (by first | exact hJ | exact (hK _ _ hJ).2)
          · have _c := c128
            refine zv_run 6 (pc' := 49) (lo' := [some (.ref 0), some (.int rule), some (.int what), some (.int (nI t)), some (.int (fr_score J (zx_uL L 34 3 ((L 24 2) ||| ((1 : Int64) <<< ((nI t).toInt64 &&& 63)))) 4)), some (.int ((nI t) + 1)), some (.int (fr_score J (zx_uL L 34 3 ((L 24 2) ||| ((1 : Int64) <<< ((nI t).toInt64 &&& 63)))) 4))]) (st' := []) (I' := (fr_end J (zx_uL L 34 3 ((L 24 2) ||| ((1 : Int64) <<< ((nI t).toInt64 &&& 63)))) 4).1) (L' := (zx_uL L 34 3 ((L 24 2) ||| ((1 : Int64) <<< ((nI t).toInt64 &&& 63))))) (R' := zw_RC 4 14 (fr_end J (zx_uL L 34 3 ((L 24 2) ||| ((1 : Int64) <<< ((nI t).toInt64 &&& 63)))) 4).2) rfl ?_
            have e : wh_loop 4 (n + 1) t s m J L = wh_loop 4 n (t + 1) (nI t) (fr_score J (wh_L L t) 4) (fr_end J (wh_L L t) 4).1 (wh_L L t) := by rw [wh_loop]; rw [if_pos c95, if_pos (show s = -4 ∨ ¬ fr_score J (wh_L L t) 4 ≥ m from by first | exact Or.inl c121 | exact Or.inr c128)]
            rw [e, ← nI_succ]
            exact ih (t + 1) _ _ _ _ _ _ (by omega) (by first | exact hJ | exact (hK _ _ hJ).2)
      · have _c := c95
        refine zv_run 1 (pc' := 138) (lo' := [some (.ref 0), some (.int rule), some (.int what), some (.int s), some (.int m), some (.int (nI t)), x6]) (st' := []) (I' := J) (L' := (zx_uL L 34 3 ((L 24 2) ||| ((1 : Int64) <<< ((nI t).toInt64 &&& 63))))) (R' := zw_RC 4 14 la) rfl ?_
        refine zv_run 2 (pc' := 49) (lo' := [some (.ref 0), some (.int rule), some (.int what), some (.int s), some (.int m), some (.int ((nI t) + 1)), x6]) (st' := []) (I' := J) (L' := (zx_uL L 34 3 ((L 24 2) ||| ((1 : Int64) <<< ((nI t).toInt64 &&& 63))))) (R' := zw_RC 4 14 la) rfl ?_
        have e : wh_loop 4 (n + 1) t s m J L = wh_loop 4 n (t + 1) s m J (wh_L L t) := by rw [wh_loop]; rw [if_neg (fun q => q c95)]
        rw [e, ← nI_succ]
        exact ih (t + 1) _ _ _ _ _ _ (by omega) (by first | exact hJ | exact (hK _ _ hJ).2)
theorem lp_X9_when_14 {d : Nat} {rule what : Int32} {K : zx_I → Prop} {N : Nat} (hK : kr K 14) (hN : N ≤ 60) (hst : ∀ J, K J → J 14 12 = nI N) : ∀ (n t : Nat) (s m : Int32) (J : zx_I) (L : zx_L) (la : Option Nat) (x6 : Option Value), t + n = N → K J → zx_V mm_X9_when (d + 5) z0 (zw_any (some (.int (if what ≠ 0 then (wh_loop 14 n t s m J L).2.1 else (wh_loop 14 n t s m J L).1))) (wh_loop 14 n t s m J L).2.2.1 (wh_loop 14 n t s m J L).2.2.2 14 4) zw_SC 49 [some (.ref 0), some (.int rule), some (.int what), some (.int s), some (.int m), some (.int (nI t)), x6] [] J L (zw_RC 14 4 la) := by
  intro n
  induction n with
  | zero =>
    intro t s m J L la x6 ht hJ
    refine zv_run 4 (pc' := 58) (lo' := [some (.ref 0), some (.int rule), some (.int what), some (.int s), some (.int m), some (.int (nI t)), x6]) (st' := [.int (J 14 12), .int (nI t)]) (I' := J) (L' := L) (R' := zw_RC 14 4 la) rfl ?_
    refine zv_icmp_ge (tgt := 144) (zs_at rfl) (by decide) (fun c58 => ?_) (fun c58 => ?_)
    · have _c := c58
      refine zv_run 1 (pc' := 145) (lo' := [some (.ref 0), some (.int rule), some (.int what), some (.int s), some (.int m), some (.int (nI t)), x6]) (st' := [.int what]) (I' := J) (L' := L) (R' := zw_RC 14 4 la) rfl ?_
      refine zv_if_ne (tgt := 152) (zs_at rfl) (by decide) (fun c145 => ?_) (fun c145 => ?_)
      · have _c := c145
        refine zv_run 1 (pc' := 154) (lo' := [some (.ref 0), some (.int rule), some (.int what), some (.int s), some (.int m), some (.int (nI t)), x6]) (st' := [.int m]) (I' := J) (L' := L) (R' := zw_RC 14 4 la) rfl ?_
        exact zv_iret (zs_at rfl) rfl ⟨Nat.le_refl _, Nat.le_refl _⟩ (zw_toa (by rw [if_pos c145]; rfl) rfl rfl)
      · have _c := c145
        refine zv_run 2 (pc' := 154) (lo' := [some (.ref 0), some (.int rule), some (.int what), some (.int s), some (.int m), some (.int (nI t)), x6]) (st' := [.int s]) (I' := J) (L' := L) (R' := zw_RC 14 4 la) rfl ?_
        exact zv_iret (zs_at rfl) rfl ⟨Nat.le_refl _, Nat.le_refl _⟩ (zw_toa (by rw [if_neg (fun q => q c145)]; rfl) rfl rfl)
    · exact absurd (by rw [hst J hJ]; exact nI_le (by omega) (by omega)) c58
  | succ n ih =>
    intro t s m J L la x6 ht hJ
    refine zv_run 4 (pc' := 58) (lo' := [some (.ref 0), some (.int rule), some (.int what), some (.int s), some (.int m), some (.int (nI t)), x6]) (st' := [.int (J 14 12), .int (nI t)]) (I' := J) (L' := L) (R' := zw_RC 14 4 la) rfl ?_
    refine zv_icmp_ge (tgt := 144) (zs_at rfl) (by decide) (fun c58 => ?_) (fun c58 => ?_)
    · exact absurd c58 (by rw [hst J hJ]; exact nI_ge (by omega) (by omega))
    · have _c := c58
      refine zv_run 17 (pc' := 95) (lo' := [some (.ref 0), some (.int rule), some (.int what), some (.int s), some (.int m), some (.int (nI t)), x6]) (st' := [.int (lg_cmp ((L 24 2) ||| ((1 : Int64) <<< ((nI t).toInt64 &&& 63))) (L 24 2))]) (I' := J) (L' := (zx_uL L 34 3 ((L 24 2) ||| ((1 : Int64) <<< ((nI t).toInt64 &&& 63))))) (R' := zw_RC 14 4 la) rfl ?_
      refine zv_if_ne (tgt := 101) (zs_at rfl) (by decide) (fun c95 => ?_) (fun c95 => ?_)
      · have _c := c95
        refine zv_run 6 (pc' := 113) (lo' := [some (.ref 0), some (.int rule), some (.int what), some (.int s), some (.int m), some (.int (nI t)), x6]) (st' := [.ref 34, .ref 14, .ref 36]) (I' := J) (L' := (zx_uL L 34 3 ((L 24 2) ||| ((1 : Int64) <<< ((nI t).toInt64 &&& 63))))) (R' := zw_RC 14 4 la) rfl ?_
        refine zv_cV (M' := mm_X3_run) (ci := 3) (a := 36) (av := [.ref 14, .ref 34]) (st := []) (r := some (.int (fr_score J (zx_uL L 34 3 ((L 24 2) ||| ((1 : Int64) <<< ((nI t).toInt64 &&& 63)))) 14))) (I' := (fr_end J (zx_uL L 34 3 ((L 24 2) ||| ((1 : Int64) <<< ((nI t).toInt64 &&& 63)))) 14).1) (L' := (zx_uL L 34 3 ((L 24 2) ||| ((1 : Int64) <<< ((nI t).toInt64 &&& 63))))) (R' := zw_RC 14 4 (fr_end J (zx_uL L 34 3 ((L 24 2) ||| ((1 : Int64) <<< ((nI t).toInt64 &&& 63)))) 14).2) rfl zc_9_159 gd_X3_run rfl rfl rfl (Nat.le_of_ble_eq_true rfl) (ct_X3_run (d := _) (Or.inr rfl) (hK _ _ hJ).1) ⟨Nat.le_refl _, Nat.le_refl _⟩ ?_
        refine zv_run 0 (pc' := 116) (lo' := [some (.ref 0), some (.int rule), some (.int what), some (.int s), some (.int m), some (.int (nI t)), x6]) (st' := [.int (fr_score J (zx_uL L 34 3 ((L 24 2) ||| ((1 : Int64) <<< ((nI t).toInt64 &&& 63)))) 14)]) (I' := (fr_end J (zx_uL L 34 3 ((L 24 2) ||| ((1 : Int64) <<< ((nI t).toInt64 &&& 63)))) 14).1) (L' := (zx_uL L 34 3 ((L 24 2) ||| ((1 : Int64) <<< ((nI t).toInt64 &&& 63))))) (R' := zw_RC 14 4 (fr_end J (zx_uL L 34 3 ((L 24 2) ||| ((1 : Int64) <<< ((nI t).toInt64 &&& 63)))) 14).2) rfl ?_
        refine zv_run 3 (pc' := 121) (lo' := [some (.ref 0), some (.int rule), some (.int what), some (.int s), some (.int m), some (.int (nI t)), some (.int (fr_score J (zx_uL L 34 3 ((L 24 2) ||| ((1 : Int64) <<< ((nI t).toInt64 &&& 63)))) 14))]) (st' := [.int (-4), .int s]) (I' := (fr_end J (zx_uL L 34 3 ((L 24 2) ||| ((1 : Int64) <<< ((nI t).toInt64 &&& 63)))) 14).1) (L' := (zx_uL L 34 3 ((L 24 2) ||| ((1 : Int64) <<< ((nI t).toInt64 &&& 63))))) (R' := zw_RC 14 4 (fr_end J (zx_uL L 34 3 ((L 24 2) ||| ((1 : Int64) <<< ((nI t).toInt64 &&& 63)))) 14).2) rfl ?_
        refine zv_icmp_eq (tgt := 131) (zs_at rfl) (by decide) (fun c121 => ?_) (fun c121 => ?_)
        · have _c := c121
          refine zv_run 6 (pc' := 49) (lo' := [some (.ref 0), some (.int rule), some (.int what), some (.int (nI t)), some (.int (fr_score J (zx_uL L 34 3 ((L 24 2) ||| ((1 : Int64) <<< ((nI t).toInt64 &&& 63)))) 14)), some (.int ((nI t) + 1)), some (.int (fr_score J (zx_uL L 34 3 ((L 24 2) ||| ((1 : Int64) <<< ((nI t).toInt64 &&& 63)))) 14))]) (st' := []) (I' := (fr_end J (zx_uL L 34 3 ((L 24 2) ||| ((1 : Int64) <<< ((nI t).toInt64 &&& 63)))) 14).1) (L' := (zx_uL L 34 3 ((L 24 2) ||| ((1 : Int64) <<< ((nI t).toInt64 &&& 63))))) (R' := zw_RC 14 4 (fr_end J (zx_uL L 34 3 ((L 24 2) ||| ((1 : Int64) <<< ((nI t).toInt64 &&& 63)))) 14).2) rfl ?_
          have e : wh_loop 14 (n + 1) t s m J L = wh_loop 14 n (t + 1) (nI t) (fr_score J (wh_L L t) 14) (fr_end J (wh_L L t) 14).1 (wh_L L t) := by rw [wh_loop]; rw [if_pos c95, if_pos (show s = -4 ∨ ¬ fr_score J (wh_L L t) 14 ≥ m from by first | exact Or.inl c121 | exact Or.inr c128)]
          rw [e, ← nI_succ]
          exact ih (t + 1) _ _ _ _ _ _ (by omega) (by first | exact hJ | exact (hK _ _ hJ).2)
        · have _c := c121
          refine zv_run 2 (pc' := 128) (lo' := [some (.ref 0), some (.int rule), some (.int what), some (.int s), some (.int m), some (.int (nI t)), some (.int (fr_score J (zx_uL L 34 3 ((L 24 2) ||| ((1 : Int64) <<< ((nI t).toInt64 &&& 63)))) 14))]) (st' := [.int m, .int (fr_score J (zx_uL L 34 3 ((L 24 2) ||| ((1 : Int64) <<< ((nI t).toInt64 &&& 63)))) 14)]) (I' := (fr_end J (zx_uL L 34 3 ((L 24 2) ||| ((1 : Int64) <<< ((nI t).toInt64 &&& 63)))) 14).1) (L' := (zx_uL L 34 3 ((L 24 2) ||| ((1 : Int64) <<< ((nI t).toInt64 &&& 63))))) (R' := zw_RC 14 4 (fr_end J (zx_uL L 34 3 ((L 24 2) ||| ((1 : Int64) <<< ((nI t).toInt64 &&& 63)))) 14).2) rfl ?_
          refine zv_icmp_ge (tgt := 138) (zs_at rfl) (by decide) (fun c128 => ?_) (fun c128 => ?_)
          · have _c := c128
            refine zv_run 2 (pc' := 49) (lo' := [some (.ref 0), some (.int rule), some (.int what), some (.int s), some (.int m), some (.int ((nI t) + 1)), some (.int (fr_score J (zx_uL L 34 3 ((L 24 2) ||| ((1 : Int64) <<< ((nI t).toInt64 &&& 63)))) 14))]) (st' := []) (I' := (fr_end J (zx_uL L 34 3 ((L 24 2) ||| ((1 : Int64) <<< ((nI t).toInt64 &&& 63)))) 14).1) (L' := (zx_uL L 34 3 ((L 24 2) ||| ((1 : Int64) <<< ((nI t).toInt64 &&& 63))))) (R' := zw_RC 14 4 (fr_end J (zx_uL L 34 3 ((L 24 2) ||| ((1 : Int64) <<< ((nI t).toInt64 &&& 63)))) 14).2) rfl ?_
            have e : wh_loop 14 (n + 1) t s m J L = wh_loop 14 n (t + 1) s m (fr_end J (wh_L L t) 14).1 (wh_L L t) := by rw [wh_loop]; rw [if_pos c95, if_neg (show ¬ (s = -4 ∨ ¬ fr_score J (wh_L L t) 14 ≥ m) from fun q => q.elim c121 (fun q => q c128))]
            rw [e, ← nI_succ]
            exact ih (t + 1) _ _ _ _ _ _ (by omega) (by first | exact hJ | exact (hK _ _ hJ).2)
          · have _c := c128
            refine zv_run 6 (pc' := 49) (lo' := [some (.ref 0), some (.int rule), some (.int what), some (.int (nI t)), some (.int (fr_score J (zx_uL L 34 3 ((L 24 2) ||| ((1 : Int64) <<< ((nI t).toInt64 &&& 63)))) 14)), some (.int ((nI t) + 1)), some (.int (fr_score J (zx_uL L 34 3 ((L 24 2) ||| ((1 : Int64) <<< ((nI t).toInt64 &&& 63)))) 14))]) (st' := []) (I' := (fr_end J (zx_uL L 34 3 ((L 24 2) ||| ((1 : Int64) <<< ((nI t).toInt64 &&& 63)))) 14).1) (L' := (zx_uL L 34 3 ((L 24 2) ||| ((1 : Int64) <<< ((nI t).toInt64 &&& 63))))) (R' := zw_RC 14 4 (fr_end J (zx_uL L 34 3 ((L 24 2) ||| ((1 : Int64) <<< ((nI t).toInt64 &&& 63)))) 14).2) rfl ?_
            have e : wh_loop 14 (n + 1) t s m J L = wh_loop 14 n (t + 1) (nI t) (fr_score J (wh_L L t) 14) (fr_end J (wh_L L t) 14).1 (wh_L L t) := by rw [wh_loop]; rw [if_pos c95, if_pos (show s = -4 ∨ ¬ fr_score J (wh_L L t) 14 ≥ m from by first | exact Or.inl c121 | exact Or.inr c128)]
            rw [e, ← nI_succ]
            exact ih (t + 1) _ _ _ _ _ _ (by omega) (by first | exact hJ | exact (hK _ _ hJ).2)
      · have _c := c95
        refine zv_run 1 (pc' := 138) (lo' := [some (.ref 0), some (.int rule), some (.int what), some (.int s), some (.int m), some (.int (nI t)), x6]) (st' := []) (I' := J) (L' := (zx_uL L 34 3 ((L 24 2) ||| ((1 : Int64) <<< ((nI t).toInt64 &&& 63))))) (R' := zw_RC 14 4 la) rfl ?_
        refine zv_run 2 (pc' := 49) (lo' := [some (.ref 0), some (.int rule), some (.int what), some (.int s), some (.int m), some (.int ((nI t) + 1)), x6]) (st' := []) (I' := J) (L' := (zx_uL L 34 3 ((L 24 2) ||| ((1 : Int64) <<< ((nI t).toInt64 &&& 63))))) (R' := zw_RC 14 4 la) rfl ?_
        have e : wh_loop 14 (n + 1) t s m J L = wh_loop 14 n (t + 1) s m J (wh_L L t) := by rw [wh_loop]; rw [if_neg (fun q => q c95)]
        rw [e, ← nI_succ]
        exact ih (t + 1) _ _ _ _ _ _ (by omega) (by first | exact hJ | exact (hK _ _ hJ).2)
theorem ct_X9_when_no_4 {d : Nat} {I : zx_I} {L : zx_L} {la : Option Nat} {rule what : Int32} (hno : ¬ q_whok rule what) : zx_M0 mm_X9_when (d + 1) 0 0 [.ref 0, .int rule, .int what] zw_SC I L (zw_RC 4 14 la) (zw_ret (some (.int (-1))) zw_SC I L (zw_RC 4 14 la)) := by
  refine zv_entry gd_X9_when (Nat.le_of_ble_eq_true rfl) ?_
  refine zv_run 1 (pc' := 1) (lo' := [some (.ref 0), some (.int rule), some (.int what), none, none, none, none]) (st' := [.int rule]) (I' := I) (L' := L) (R' := zw_RC 4 14 la) rfl ?_
  refine zv_cS (M' := mm_X9_isRule) (av := [.int rule]) (st := []) (r := some (.int (q_rule rule))) (I' := I) (L' := L) (R' := zw_RC 4 14 la) rfl zc_9_152 gd_X9_isRule rfl (Nat.le_of_ble_eq_true rfl) (ct_X9_isRule (d := _)) ⟨Nat.le_refl _, Nat.le_refl _⟩ ?_
  refine zv_run 0 (pc' := 4) (lo' := [some (.ref 0), some (.int rule), some (.int what), none, none, none, none]) (st' := [.int (q_rule rule)]) (I' := I) (L' := L) (R' := zw_RC 4 14 la) rfl ?_
  refine zv_if_eq (tgt := 16) (zs_at rfl) (by decide) (fun c4 => ?_) (fun c4 => ?_)
  · have _c := c4
    refine zv_run 1 (pc' := 17) (lo' := [some (.ref 0), some (.int rule), some (.int what), none, none, none, none]) (st' := [.int (-1)]) (I' := I) (L' := L) (R' := zw_RC 4 14 la) rfl ?_
    exact zv_iret (zs_at rfl) rfl ⟨Nat.le_refl _, Nat.le_refl _⟩ (zw_to rfl rfl rfl rfl)
  · have _c := c4
    refine zv_run 1 (pc' := 8) (lo' := [some (.ref 0), some (.int rule), some (.int what), none, none, none, none]) (st' := [.int what]) (I' := I) (L' := L) (R' := zw_RC 4 14 la) rfl ?_
    refine zv_if_lt (tgt := 16) (zs_at rfl) (by decide) (fun c8 => ?_) (fun c8 => ?_)
    · have _c := c8
      refine zv_run 1 (pc' := 17) (lo' := [some (.ref 0), some (.int rule), some (.int what), none, none, none, none]) (st' := [.int (-1)]) (I' := I) (L' := L) (R' := zw_RC 4 14 la) rfl ?_
      exact zv_iret (zs_at rfl) rfl ⟨Nat.le_refl _, Nat.le_refl _⟩ (zw_to rfl rfl rfl rfl)
    · have _c := c8
      refine zv_run 2 (pc' := 13) (lo' := [some (.ref 0), some (.int rule), some (.int what), none, none, none, none]) (st' := [.int 1, .int what]) (I' := I) (L' := L) (R' := zw_RC 4 14 la) rfl ?_
      refine zv_icmp_le (tgt := 18) (zs_at rfl) (by decide) (fun c13 => ?_) (fun c13 => ?_)
      · have _c := c13
        exact absurd ⟨c4, c8, c13⟩ hno
      · have _c := c13
        refine zv_run 1 (pc' := 17) (lo' := [some (.ref 0), some (.int rule), some (.int what), none, none, none, none]) (st' := [.int (-1)]) (I' := I) (L' := L) (R' := zw_RC 4 14 la) rfl ?_
        exact zv_iret (zs_at rfl) rfl ⟨Nat.le_refl _, Nat.le_refl _⟩ (zw_to rfl rfl rfl rfl)
theorem ct_X9_when_no_14 {d : Nat} {I : zx_I} {L : zx_L} {la : Option Nat} {rule what : Int32} (hno : ¬ q_whok rule what) : zx_M0 mm_X9_when (d + 1) 0 0 [.ref 0, .int rule, .int what] zw_SC I L (zw_RC 14 4 la) (zw_ret (some (.int (-1))) zw_SC I L (zw_RC 14 4 la)) := by
  refine zv_entry gd_X9_when (Nat.le_of_ble_eq_true rfl) ?_
  refine zv_run 1 (pc' := 1) (lo' := [some (.ref 0), some (.int rule), some (.int what), none, none, none, none]) (st' := [.int rule]) (I' := I) (L' := L) (R' := zw_RC 14 4 la) rfl ?_
  refine zv_cS (M' := mm_X9_isRule) (av := [.int rule]) (st := []) (r := some (.int (q_rule rule))) (I' := I) (L' := L) (R' := zw_RC 14 4 la) rfl zc_9_152 gd_X9_isRule rfl (Nat.le_of_ble_eq_true rfl) (ct_X9_isRule (d := _)) ⟨Nat.le_refl _, Nat.le_refl _⟩ ?_
  refine zv_run 0 (pc' := 4) (lo' := [some (.ref 0), some (.int rule), some (.int what), none, none, none, none]) (st' := [.int (q_rule rule)]) (I' := I) (L' := L) (R' := zw_RC 14 4 la) rfl ?_
  refine zv_if_eq (tgt := 16) (zs_at rfl) (by decide) (fun c4 => ?_) (fun c4 => ?_)
  · have _c := c4
    refine zv_run 1 (pc' := 17) (lo' := [some (.ref 0), some (.int rule), some (.int what), none, none, none, none]) (st' := [.int (-1)]) (I' := I) (L' := L) (R' := zw_RC 14 4 la) rfl ?_
    exact zv_iret (zs_at rfl) rfl ⟨Nat.le_refl _, Nat.le_refl _⟩ (zw_to rfl rfl rfl rfl)
  · have _c := c4
    refine zv_run 1 (pc' := 8) (lo' := [some (.ref 0), some (.int rule), some (.int what), none, none, none, none]) (st' := [.int what]) (I' := I) (L' := L) (R' := zw_RC 14 4 la) rfl ?_
    refine zv_if_lt (tgt := 16) (zs_at rfl) (by decide) (fun c8 => ?_) (fun c8 => ?_)
    · have _c := c8
      refine zv_run 1 (pc' := 17) (lo' := [some (.ref 0), some (.int rule), some (.int what), none, none, none, none]) (st' := [.int (-1)]) (I' := I) (L' := L) (R' := zw_RC 14 4 la) rfl ?_
      exact zv_iret (zs_at rfl) rfl ⟨Nat.le_refl _, Nat.le_refl _⟩ (zw_to rfl rfl rfl rfl)
    · have _c := c8
      refine zv_run 2 (pc' := 13) (lo' := [some (.ref 0), some (.int rule), some (.int what), none, none, none, none]) (st' := [.int 1, .int what]) (I' := I) (L' := L) (R' := zw_RC 14 4 la) rfl ?_
      refine zv_icmp_le (tgt := 18) (zs_at rfl) (by decide) (fun c13 => ?_) (fun c13 => ?_)
      · have _c := c13
        exact absurd ⟨c4, c8, c13⟩ hno
      · have _c := c13
        refine zv_run 1 (pc' := 17) (lo' := [some (.ref 0), some (.int rule), some (.int what), none, none, none, none]) (st' := [.int (-1)]) (I' := I) (L' := L) (R' := zw_RC 14 4 la) rfl ?_
        exact zv_iret (zs_at rfl) rfl ⟨Nat.le_refl _, Nat.le_refl _⟩ (zw_to rfl rfl rfl rfl)
theorem ct_X9_when_no {d : Nat} {I : zx_I} {L : zx_L} {h sp : Nat} {la : Option Nat} {rule what : Int32} (hh : hsp h sp) (hno : ¬ q_whok rule what) : zx_M0 mm_X9_when (d + 1) 0 0 [.ref 0, .int rule, .int what] zw_SC I L (zw_RC h sp la) (zw_ret (some (.int (-1))) zw_SC I L (zw_RC h sp la)) := by
  rcases hh with ⟨rfl, rfl⟩ | ⟨rfl, rfl⟩
  · exact ct_X9_when_no_4 hno
  · exact ct_X9_when_no_14 hno
theorem ct_X9_when_4 {d : Nat} {I : zx_I} {L : zx_L} {la : Option Nat} {rule what : Int32} {K : zx_I → Prop} {N : Nat} (hok : q_whok rule what) (hK : kr K 4) (hN : N ≤ 60) (hst : ∀ J, K J → J 4 12 = nI N) (h0 : K (q_whm I 4 rule)) : zx_M0 mm_X9_when (d + 5) 0 0 [.ref 0, .int rule, .int what] zw_SC I L (zw_RC 4 14 la) (zw_any (some (.int (if what ≠ 0 then (q_wh I L 4 N rule).2.1 else (q_wh I L 4 N rule).1))) (q_wh I L 4 N rule).2.2.1 (q_wh I L 4 N rule).2.2.2 4 14) := by
  refine zv_entry gd_X9_when (Nat.le_of_ble_eq_true rfl) ?_
  refine zv_run 1 (pc' := 1) (lo' := [some (.ref 0), some (.int rule), some (.int what), none, none, none, none]) (st' := [.int rule]) (I' := I) (L' := L) (R' := zw_RC 4 14 la) rfl ?_
  refine zv_cS (M' := mm_X9_isRule) (av := [.int rule]) (st := []) (r := some (.int (q_rule rule))) (I' := I) (L' := L) (R' := zw_RC 4 14 la) rfl zc_9_152 gd_X9_isRule rfl (Nat.le_of_ble_eq_true rfl) (ct_X9_isRule (d := _)) ⟨Nat.le_refl _, Nat.le_refl _⟩ ?_
  refine zv_run 0 (pc' := 4) (lo' := [some (.ref 0), some (.int rule), some (.int what), none, none, none, none]) (st' := [.int (q_rule rule)]) (I' := I) (L' := L) (R' := zw_RC 4 14 la) rfl ?_
  refine zv_if_eq (tgt := 16) (zs_at rfl) (by decide) (fun c4 => ?_) (fun c4 => ?_)
  · have _c := c4
    refine zv_run 1 (pc' := 17) (lo' := [some (.ref 0), some (.int rule), some (.int what), none, none, none, none]) (st' := [.int (-1)]) (I' := I) (L' := L) (R' := zw_RC 4 14 la) rfl ?_
    exact zv_iret (zs_at rfl) rfl ⟨Nat.le_refl _, Nat.le_refl _⟩ (absurd hok (fun q => by first | exact q.1 c4 | exact q.2.1 c8 | exact c13 q.2.2))
  · have _c := c4
    refine zv_run 1 (pc' := 8) (lo' := [some (.ref 0), some (.int rule), some (.int what), none, none, none, none]) (st' := [.int what]) (I' := I) (L' := L) (R' := zw_RC 4 14 la) rfl ?_
    refine zv_if_lt (tgt := 16) (zs_at rfl) (by decide) (fun c8 => ?_) (fun c8 => ?_)
    · have _c := c8
      refine zv_run 1 (pc' := 17) (lo' := [some (.ref 0), some (.int rule), some (.int what), none, none, none, none]) (st' := [.int (-1)]) (I' := I) (L' := L) (R' := zw_RC 4 14 la) rfl ?_
      exact zv_iret (zs_at rfl) rfl ⟨Nat.le_refl _, Nat.le_refl _⟩ (absurd hok (fun q => by first | exact q.1 c4 | exact q.2.1 c8 | exact c13 q.2.2))
    · have _c := c8
      refine zv_run 2 (pc' := 13) (lo' := [some (.ref 0), some (.int rule), some (.int what), none, none, none, none]) (st' := [.int 1, .int what]) (I' := I) (L' := L) (R' := zw_RC 4 14 la) rfl ?_
      refine zv_icmp_le (tgt := 18) (zs_at rfl) (by decide) (fun c13 => ?_) (fun c13 => ?_)
      · have _c := c13
        refine zv_run 2 (pc' := 20) (lo' := [some (.ref 0), some (.int rule), some (.int what), none, none, none, none]) (st' := [.int rule, .ref 0]) (I' := I) (L' := L) (R' := zw_RC 4 14 la) rfl ?_
        refine zv_cV (M' := mm_X9_ask) (ci := 9) (a := 0) (av := [.int rule]) (st := []) (r := none) (I' := (q_ask I 4 rule)) (L' := (q_L L)) (R' := zw_RC 4 14 la) rfl zc_9_156 gd_X9_ask rfl rfl rfl (Nat.le_of_ble_eq_true rfl) (ct_X9_ask_4 (d := _)) ⟨Nat.le_refl _, Nat.le_refl _⟩ ?_
        refine zv_run 0 (pc' := 23) (lo' := [some (.ref 0), some (.int rule), some (.int what), none, none, none, none]) (st' := []) (I' := (q_ask I 4 rule)) (L' := (q_L L)) (R' := zw_RC 4 14 la) rfl ?_
        refine zv_run 14 (pc' := 49) (lo' := [some (.ref 0), some (.int rule), some (.int what), some (.int (-4)), some (.int (-4)), some (.int 0), none]) (st' := []) (I' := (zx_uI (q_ask I 4 rule) 34 2 (((q_ask I 4 rule) 4 8) + 1))) (L' := (q_L L)) (R' := zw_RC 4 14 la) rfl ?_
        exact lp_X9_when_4 hK hN hst N 0 _ _ _ _ _ none (Nat.zero_add N) h0
      · have _c := c13
        refine zv_run 1 (pc' := 17) (lo' := [some (.ref 0), some (.int rule), some (.int what), none, none, none, none]) (st' := [.int (-1)]) (I' := I) (L' := L) (R' := zw_RC 4 14 la) rfl ?_
        exact zv_iret (zs_at rfl) rfl ⟨Nat.le_refl _, Nat.le_refl _⟩ (absurd hok (fun q => by first | exact q.1 c4 | exact q.2.1 c8 | exact c13 q.2.2))
theorem ct_X9_when_14 {d : Nat} {I : zx_I} {L : zx_L} {la : Option Nat} {rule what : Int32} {K : zx_I → Prop} {N : Nat} (hok : q_whok rule what) (hK : kr K 14) (hN : N ≤ 60) (hst : ∀ J, K J → J 14 12 = nI N) (h0 : K (q_whm I 14 rule)) : zx_M0 mm_X9_when (d + 5) 0 0 [.ref 0, .int rule, .int what] zw_SC I L (zw_RC 14 4 la) (zw_any (some (.int (if what ≠ 0 then (q_wh I L 14 N rule).2.1 else (q_wh I L 14 N rule).1))) (q_wh I L 14 N rule).2.2.1 (q_wh I L 14 N rule).2.2.2 14 4) := by
  refine zv_entry gd_X9_when (Nat.le_of_ble_eq_true rfl) ?_
  refine zv_run 1 (pc' := 1) (lo' := [some (.ref 0), some (.int rule), some (.int what), none, none, none, none]) (st' := [.int rule]) (I' := I) (L' := L) (R' := zw_RC 14 4 la) rfl ?_
  refine zv_cS (M' := mm_X9_isRule) (av := [.int rule]) (st := []) (r := some (.int (q_rule rule))) (I' := I) (L' := L) (R' := zw_RC 14 4 la) rfl zc_9_152 gd_X9_isRule rfl (Nat.le_of_ble_eq_true rfl) (ct_X9_isRule (d := _)) ⟨Nat.le_refl _, Nat.le_refl _⟩ ?_
  refine zv_run 0 (pc' := 4) (lo' := [some (.ref 0), some (.int rule), some (.int what), none, none, none, none]) (st' := [.int (q_rule rule)]) (I' := I) (L' := L) (R' := zw_RC 14 4 la) rfl ?_
  refine zv_if_eq (tgt := 16) (zs_at rfl) (by decide) (fun c4 => ?_) (fun c4 => ?_)
  · have _c := c4
    refine zv_run 1 (pc' := 17) (lo' := [some (.ref 0), some (.int rule), some (.int what), none, none, none, none]) (st' := [.int (-1)]) (I' := I) (L' := L) (R' := zw_RC 14 4 la) rfl ?_
    exact zv_iret (zs_at rfl) rfl ⟨Nat.le_refl _, Nat.le_refl _⟩ (absurd hok (fun q => by first | exact q.1 c4 | exact q.2.1 c8 | exact c13 q.2.2))
  · have _c := c4
    refine zv_run 1 (pc' := 8) (lo' := [some (.ref 0), some (.int rule), some (.int what), none, none, none, none]) (st' := [.int what]) (I' := I) (L' := L) (R' := zw_RC 14 4 la) rfl ?_
    refine zv_if_lt (tgt := 16) (zs_at rfl) (by decide) (fun c8 => ?_) (fun c8 => ?_)
    · have _c := c8
      refine zv_run 1 (pc' := 17) (lo' := [some (.ref 0), some (.int rule), some (.int what), none, none, none, none]) (st' := [.int (-1)]) (I' := I) (L' := L) (R' := zw_RC 14 4 la) rfl ?_
      exact zv_iret (zs_at rfl) rfl ⟨Nat.le_refl _, Nat.le_refl _⟩ (absurd hok (fun q => by first | exact q.1 c4 | exact q.2.1 c8 | exact c13 q.2.2))
    · have _c := c8
      refine zv_run 2 (pc' := 13) (lo' := [some (.ref 0), some (.int rule), some (.int what), none, none, none, none]) (st' := [.int 1, .int what]) (I' := I) (L' := L) (R' := zw_RC 14 4 la) rfl ?_
      refine zv_icmp_le (tgt := 18) (zs_at rfl) (by decide) (fun c13 => ?_) (fun c13 => ?_)
      · have _c := c13
        refine zv_run 2 (pc' := 20) (lo' := [some (.ref 0), some (.int rule), some (.int what), none, none, none, none]) (st' := [.int rule, .ref 0]) (I' := I) (L' := L) (R' := zw_RC 14 4 la) rfl ?_
        refine zv_cV (M' := mm_X9_ask) (ci := 9) (a := 0) (av := [.int rule]) (st := []) (r := none) (I' := (q_ask I 14 rule)) (L' := (q_L L)) (R' := zw_RC 14 4 la) rfl zc_9_156 gd_X9_ask rfl rfl rfl (Nat.le_of_ble_eq_true rfl) (ct_X9_ask_14 (d := _)) ⟨Nat.le_refl _, Nat.le_refl _⟩ ?_
        refine zv_run 0 (pc' := 23) (lo' := [some (.ref 0), some (.int rule), some (.int what), none, none, none, none]) (st' := []) (I' := (q_ask I 14 rule)) (L' := (q_L L)) (R' := zw_RC 14 4 la) rfl ?_
        refine zv_run 14 (pc' := 49) (lo' := [some (.ref 0), some (.int rule), some (.int what), some (.int (-4)), some (.int (-4)), some (.int 0), none]) (st' := []) (I' := (zx_uI (q_ask I 14 rule) 34 2 (((q_ask I 14 rule) 14 8) + 1))) (L' := (q_L L)) (R' := zw_RC 14 4 la) rfl ?_
        exact lp_X9_when_14 hK hN hst N 0 _ _ _ _ _ none (Nat.zero_add N) h0
      · have _c := c13
        refine zv_run 1 (pc' := 17) (lo' := [some (.ref 0), some (.int rule), some (.int what), none, none, none, none]) (st' := [.int (-1)]) (I' := I) (L' := L) (R' := zw_RC 14 4 la) rfl ?_
        exact zv_iret (zs_at rfl) rfl ⟨Nat.le_refl _, Nat.le_refl _⟩ (absurd hok (fun q => by first | exact q.1 c4 | exact q.2.1 c8 | exact c13 q.2.2))
theorem ct_X9_when {d : Nat} {I : zx_I} {L : zx_L} {h sp : Nat} {la : Option Nat} {rule what : Int32} {K : zx_I → Prop} {N : Nat} (hh : hsp h sp) (hok : q_whok rule what) (hK : kr K h) (hN : N ≤ 60) (hst : ∀ J, K J → J h 12 = nI N) (h0 : K (q_whm I h rule)) : zx_M0 mm_X9_when (d + 5) 0 0 [.ref 0, .int rule, .int what] zw_SC I L (zw_RC h sp la) (zw_any (some (.int (if what ≠ 0 then (q_wh I L h N rule).2.1 else (q_wh I L h N rule).1))) (q_wh I L h N rule).2.2.1 (q_wh I L h N rule).2.2.2 h sp) := by
  rcases hh with ⟨rfl, rfl⟩ | ⟨rfl, rfl⟩
  · exact ct_X9_when_4 hok hK hN hst h0
  · exact ct_X9_when_14 hok hK hN hst h0
def fw_L1 (L : zx_L) (t : Nat) : zx_L := zx_uL L 34 3 ((1 : Int64) <<< ((nI t).toInt64 &&& 63))
def fw_L2 (L : zx_L) (t u : Nat) : zx_L := zx_uL L 34 3 ((1 : Int64) <<< ((nI t).toInt64 &&& 63) ||| ((1 : Int64) <<< ((nI u).toInt64 &&& 63)))
def fw_1 (h : Nat) : Nat → Nat → zx_I → zx_L → Option Nat × zx_I × zx_L
  | 0, _, J, L => (none, J, L)
  | n + 1, t, J, L => if fr_score J (fw_L1 L t) h ≥ 100 then fw_1 h n (t + 1) (fr_end J (fw_L1 L t) h).1 (fw_L1 L t) else (some t, (fr_end J (fw_L1 L t) h).1, fw_L1 L t)
def fw_3 (h t : Nat) : Nat → Nat → zx_I → zx_L → Option Nat × zx_I × zx_L
  | 0, _, J, L => (none, J, L)
  | n + 1, u, J, L => if fr_score J (fw_L2 L t u) h ≥ 100 then fw_3 h t n (u + 1) (fr_end J (fw_L2 L t u) h).1 (fw_L2 L t u) else (some u, (fr_end J (fw_L2 L t u) h).1, fw_L2 L t u)
def fw_2 (h N : Nat) : Nat → Nat → zx_I → zx_L → Option (Nat × Nat) × zx_I × zx_L
  | 0, _, J, L => (none, J, L)
  | n + 1, t, J, L => match fw_3 h t (N - (t + 1)) (t + 1) J L with
    | (some u, J', L') => (some (t, u), J', L')
    | (none, J', L') => fw_2 h N n (t + 1) J' L'
def fw_v1 (what : Int32) (t : Nat) : Int32 := if what ≠ 0 then (if what ≠ 1 then -4 else nI t) else 1
def fw_v2 (what : Int32) (t u : Nat) : Int32 := if what ≠ 0 then (if what ≠ 1 then nI u else nI t) else 2
def q_few (I : zx_I) (L : zx_L) (h N : Nat) (rule what : Int32) : Int32 × zx_I × zx_L :=
  if fr_score (q_ask I h rule) (zx_uL (q_L L) 34 3 0) h ≥ 100 then (match fw_1 h N 0 (fr_end (q_ask I h rule) (zx_uL (q_L L) 34 3 0) h).1 (zx_uL (q_L L) 34 3 0) with
    | (some t, J, L') => (fw_v1 what t, J, L')
    | (none, J, L') => match fw_2 h N N 0 J L' with
      | (some (t, u), J', L'') => (fw_v2 what t u, J', L'')
      | (none, J', L'') => (-4, J', L''))
  else (if what ≠ 0 then -4 else 0, (fr_end (q_ask I h rule) (zx_uL (q_L L) 34 3 0) h).1, zx_uL (q_L L) 34 3 0)
theorem fw_b {s : Int32} (h : ¬ (if s ≥ 100 then (0 : Int32) else 1) = 0) : ¬ s ≥ 100 := fun q => h (if_pos q)
theorem fw_c {s : Int32} (h : (if s ≥ 100 then (0 : Int32) else 1) = 0) : s ≥ 100 := by
  by_cases q : s ≥ 100
  · exact q
  · rw [if_neg q] at h
    exact absurd h (by decide)
theorem lp1_X9_few_4 {d : Nat} {rule what : Int32} {K : zx_I → Prop} {N : Nat} {Q : zx_Qt} (hK : kr K 4) (hN : N ≤ 60) (hst : ∀ J, K J → J 4 12 = nI N) : ∀ (n t : Nat) (J : zx_I) (L : zx_L) (la x4), t + n = N → K J → (∀ u la, (fw_1 4 n t J L).1 = some u → Q (some (.int (fw_v1 what u))) zw_SC (fw_1 4 n t J L).2.1 (fw_1 4 n t J L).2.2 (zw_RC 4 14 la)) → (∀ la, (fw_1 4 n t J L).1 = none → K (fw_1 4 n t J L).2.1 → zx_V mm_X9_fewest (d + 6) z0 Q zw_SC 91 [some (.ref 0), some (.int rule), some (.int what), some (.int (nI N)), x4] [] (fw_1 4 n t J L).2.1 (fw_1 4 n t J L).2.2 (zw_RC 4 14 la)) → zx_V mm_X9_fewest (d + 6) z0 Q zw_SC 44 [some (.ref 0), some (.int rule), some (.int what), some (.int (nI t)), x4] [] J L (zw_RC 4 14 la) := by
  intro n
  induction n with
  | zero =>
    intro t J L la x4 ht hJ hQ hk
    refine zv_run 4 (pc' := 52) (lo' := [some (.ref 0), some (.int rule), some (.int what), some (.int (nI t)), x4]) (st' := [.int (J 4 12), .int (nI t)]) (I' := J) (L' := L) (R' := zw_RC 4 14 la) rfl ?_
    refine zv_icmp_ge (tgt := 91) (zs_at rfl) (by decide) (fun c52 => ?_) (fun c52 => ?_)
    · have _c := c52
      rw [show nI t = nI N by rw [show t = N by omega]]
      exact hk la rfl hJ
    · exact absurd (by rw [hst J hJ]; exact nI_le (by omega) (by omega)) c52
  | succ n ih =>
    intro t J L la x4 ht hJ hQ hk
    refine zv_run 4 (pc' := 52) (lo' := [some (.ref 0), some (.int rule), some (.int what), some (.int (nI t)), x4]) (st' := [.int (J 4 12), .int (nI t)]) (I' := J) (L' := L) (R' := zw_RC 4 14 la) rfl ?_
    refine zv_icmp_ge (tgt := 91) (zs_at rfl) (by decide) (fun c52 => ?_) (fun c52 => ?_)
    · exact absurd c52 (by rw [hst J hJ]; exact nI_ge (by omega) (by omega))
    · have _c := c52
      refine zv_run 4 (pc' := 59) (lo' := [some (.ref 0), some (.int rule), some (.int what), some (.int (nI t)), x4]) (st' := [.long ((1 : Int64) <<< ((nI t).toInt64 &&& 63)), .ref 0]) (I' := J) (L' := L) (R' := zw_RC 4 14 la) rfl ?_
      refine zv_cV (M' := mm_X9_nobodyLate) (ci := 9) (a := 0) (av := [.long ((1 : Int64) <<< ((nI t).toInt64 &&& 63))]) (st := []) (r := some (.int (if fr_score J (zx_uL L 34 3 ((1 : Int64) <<< ((nI t).toInt64 &&& 63))) 4 ≥ 100 then 0 else 1))) (I' := (fr_end J (zx_uL L 34 3 ((1 : Int64) <<< ((nI t).toInt64 &&& 63))) 4).1) (L' := (zx_uL L 34 3 ((1 : Int64) <<< ((nI t).toInt64 &&& 63)))) (R' := zw_RC 4 14 (fr_end J (zx_uL L 34 3 ((1 : Int64) <<< ((nI t).toInt64 &&& 63))) 4).2) rfl zc_9_211 gd_X9_nobodyLate rfl rfl rfl (Nat.le_of_ble_eq_true rfl) (ct_X9_nobodyLate_4 (d := _) (hK _ _ hJ).1) ⟨Nat.le_refl _, Nat.le_refl _⟩ ?_
      refine zv_run 0 (pc' := 62) (lo' := [some (.ref 0), some (.int rule), some (.int what), some (.int (nI t)), x4]) (st' := [.int (if fr_score J (zx_uL L 34 3 ((1 : Int64) <<< ((nI t).toInt64 &&& 63))) 4 ≥ 100 then 0 else 1)]) (I' := (fr_end J (zx_uL L 34 3 ((1 : Int64) <<< ((nI t).toInt64 &&& 63))) 4).1) (L' := (zx_uL L 34 3 ((1 : Int64) <<< ((nI t).toInt64 &&& 63)))) (R' := zw_RC 4 14 (fr_end J (zx_uL L 34 3 ((1 : Int64) <<< ((nI t).toInt64 &&& 63))) 4).2) rfl ?_
      refine zv_if_eq (tgt := 85) (zs_at rfl) (by decide) (fun c62 => ?_) (fun c62 => ?_)
      · have _c := c62
        refine zv_run 2 (pc' := 44) (lo' := [some (.ref 0), some (.int rule), some (.int what), some (.int ((nI t) + 1)), x4]) (st' := []) (I' := (fr_end J (zx_uL L 34 3 ((1 : Int64) <<< ((nI t).toInt64 &&& 63))) 4).1) (L' := (zx_uL L 34 3 ((1 : Int64) <<< ((nI t).toInt64 &&& 63)))) (R' := zw_RC 4 14 (fr_end J (zx_uL L 34 3 ((1 : Int64) <<< ((nI t).toInt64 &&& 63))) 4).2) rfl ?_
        have e : fw_1 4 (n + 1) t J L = fw_1 4 n (t + 1) (fr_end J (fw_L1 L t) 4).1 (fw_L1 L t) := by rw [fw_1, if_pos (show fr_score J (fw_L1 L t) 4 ≥ 100 from fw_c c62)]
        rw [e] at hQ hk
        rw [← nI_succ]
        exact ih (t + 1) _ _ _ _ (by omega) (hK _ _ hJ).2 hQ hk
      · have _c := c62
        refine zv_run 1 (pc' := 66) (lo' := [some (.ref 0), some (.int rule), some (.int what), some (.int (nI t)), x4]) (st' := [.int what]) (I' := (fr_end J (zx_uL L 34 3 ((1 : Int64) <<< ((nI t).toInt64 &&& 63))) 4).1) (L' := (zx_uL L 34 3 ((1 : Int64) <<< ((nI t).toInt64 &&& 63)))) (R' := zw_RC 4 14 (fr_end J (zx_uL L 34 3 ((1 : Int64) <<< ((nI t).toInt64 &&& 63))) 4).2) rfl ?_
        refine zv_if_ne (tgt := 73) (zs_at rfl) (by decide) (fun c66 => ?_) (fun c66 => ?_)
        · have _c := c66
          refine zv_run 2 (pc' := 75) (lo' := [some (.ref 0), some (.int rule), some (.int what), some (.int (nI t)), x4]) (st' := [.int 1, .int what]) (I' := (fr_end J (zx_uL L 34 3 ((1 : Int64) <<< ((nI t).toInt64 &&& 63))) 4).1) (L' := (zx_uL L 34 3 ((1 : Int64) <<< ((nI t).toInt64 &&& 63)))) (R' := zw_RC 4 14 (fr_end J (zx_uL L 34 3 ((1 : Int64) <<< ((nI t).toInt64 &&& 63))) 4).2) rfl ?_
          refine zv_icmp_ne (tgt := 82) (zs_at rfl) (by decide) (fun c75 => ?_) (fun c75 => ?_)
          · have _c := c75
            refine zv_run 1 (pc' := 84) (lo' := [some (.ref 0), some (.int rule), some (.int what), some (.int (nI t)), x4]) (st' := [.int (-4)]) (I' := (fr_end J (zx_uL L 34 3 ((1 : Int64) <<< ((nI t).toInt64 &&& 63))) 4).1) (L' := (zx_uL L 34 3 ((1 : Int64) <<< ((nI t).toInt64 &&& 63)))) (R' := zw_RC 4 14 (fr_end J (zx_uL L 34 3 ((1 : Int64) <<< ((nI t).toInt64 &&& 63))) 4).2) rfl ?_
            exact zv_iret (zs_at rfl) rfl ⟨Nat.le_refl _, Nat.le_refl _⟩ (by have e : fw_1 4 (n + 1) t J L = (some t, (fr_end J (fw_L1 L t) 4).1, fw_L1 L t) := (by rw [fw_1, if_neg (show ¬ fr_score J (fw_L1 L t) 4 ≥ 100 from fw_b c62)]); rw [e] at hQ; have q := hQ t (fr_end J (fw_L1 L t) 4).2 rfl; have ev : fw_v1 what t = -4 := (by unfold fw_v1; rw [if_pos c66, if_pos c75]); rw [ev] at q; exact q)
          · have _c := c75
            refine zv_run 2 (pc' := 84) (lo' := [some (.ref 0), some (.int rule), some (.int what), some (.int (nI t)), x4]) (st' := [.int (nI t)]) (I' := (fr_end J (zx_uL L 34 3 ((1 : Int64) <<< ((nI t).toInt64 &&& 63))) 4).1) (L' := (zx_uL L 34 3 ((1 : Int64) <<< ((nI t).toInt64 &&& 63)))) (R' := zw_RC 4 14 (fr_end J (zx_uL L 34 3 ((1 : Int64) <<< ((nI t).toInt64 &&& 63))) 4).2) rfl ?_
            exact zv_iret (zs_at rfl) rfl ⟨Nat.le_refl _, Nat.le_refl _⟩ (by have e : fw_1 4 (n + 1) t J L = (some t, (fr_end J (fw_L1 L t) 4).1, fw_L1 L t) := (by rw [fw_1, if_neg (show ¬ fr_score J (fw_L1 L t) 4 ≥ 100 from fw_b c62)]); rw [e] at hQ; have q := hQ t (fr_end J (fw_L1 L t) 4).2 rfl; have ev : fw_v1 what t = nI t := (by unfold fw_v1; rw [if_pos c66, if_neg (fun q => q c75)]); rw [ev] at q; exact q)
        · have _c := c66
          refine zv_run 2 (pc' := 84) (lo' := [some (.ref 0), some (.int rule), some (.int what), some (.int (nI t)), x4]) (st' := [.int 1]) (I' := (fr_end J (zx_uL L 34 3 ((1 : Int64) <<< ((nI t).toInt64 &&& 63))) 4).1) (L' := (zx_uL L 34 3 ((1 : Int64) <<< ((nI t).toInt64 &&& 63)))) (R' := zw_RC 4 14 (fr_end J (zx_uL L 34 3 ((1 : Int64) <<< ((nI t).toInt64 &&& 63))) 4).2) rfl ?_
          exact zv_iret (zs_at rfl) rfl ⟨Nat.le_refl _, Nat.le_refl _⟩ (by have e : fw_1 4 (n + 1) t J L = (some t, (fr_end J (fw_L1 L t) 4).1, fw_L1 L t) := (by rw [fw_1, if_neg (show ¬ fr_score J (fw_L1 L t) 4 ≥ 100 from fw_b c62)]); rw [e] at hQ; have q := hQ t (fr_end J (fw_L1 L t) 4).2 rfl; have ev : fw_v1 what t = 1 := (by unfold fw_v1; rw [if_neg (fun q => q c66)]); rw [ev] at q; exact q)
theorem lp3_X9_few_4 {d : Nat} {rule what : Int32} {K : zx_I → Prop} {N : Nat} {Q : zx_Qt} (hK : kr K 4) (hN : N ≤ 60) (hst : ∀ J, K J → J 4 12 = nI N) {t : Nat} (ht : t ≤ 60) : ∀ (n u : Nat) (J : zx_I) (L : zx_L) (la), u + n = N → K J → (∀ v la, (fw_3 4 t n u J L).1 = some v → Q (some (.int (fw_v2 what t v))) zw_SC (fw_3 4 t n u J L).2.1 (fw_3 4 t n u J L).2.2 (zw_RC 4 14 la)) → (∀ la x4, (fw_3 4 t n u J L).1 = none → K (fw_3 4 t n u J L).2.1 → zx_V mm_X9_fewest (d + 6) z0 Q zw_SC 162 [some (.ref 0), some (.int rule), some (.int what), some (.int (nI t)), x4] [] (fw_3 4 t n u J L).2.1 (fw_3 4 t n u J L).2.2 (zw_RC 4 14 la)) → zx_V mm_X9_fewest (d + 6) z0 Q zw_SC 109 [some (.ref 0), some (.int rule), some (.int what), some (.int (nI t)), some (.int (nI u))] [] J L (zw_RC 4 14 la) := by
  intro n
  induction n with
  | zero =>
    intro u J L la hu hJ hQ hk
    refine zv_run 4 (pc' := 118) (lo' := [some (.ref 0), some (.int rule), some (.int what), some (.int (nI t)), some (.int (nI u))]) (st' := [.int (J 4 12), .int (nI u)]) (I' := J) (L' := L) (R' := zw_RC 4 14 la) rfl ?_
    refine zv_icmp_ge (tgt := 162) (zs_at rfl) (by decide) (fun c118 => ?_) (fun c118 => ?_)
    · have _c := c118
      exact hk la _ rfl hJ
    · exact absurd (by rw [hst J hJ]; exact nI_le (by omega) (by omega)) c118
  | succ n ih =>
    intro u J L la hu hJ hQ hk
    refine zv_run 4 (pc' := 118) (lo' := [some (.ref 0), some (.int rule), some (.int what), some (.int (nI t)), some (.int (nI u))]) (st' := [.int (J 4 12), .int (nI u)]) (I' := J) (L' := L) (R' := zw_RC 4 14 la) rfl ?_
    refine zv_icmp_ge (tgt := 162) (zs_at rfl) (by decide) (fun c118 => ?_) (fun c118 => ?_)
    · exact absurd c118 (by rw [hst J hJ]; exact nI_ge (by omega) (by omega))
    · have _c := c118
      refine zv_run 8 (pc' := 130) (lo' := [some (.ref 0), some (.int rule), some (.int what), some (.int (nI t)), some (.int (nI u))]) (st' := [.long (((1 : Int64) <<< ((nI t).toInt64 &&& 63)) ||| ((1 : Int64) <<< ((nI u).toInt64 &&& 63))), .ref 0]) (I' := J) (L' := L) (R' := zw_RC 4 14 la) rfl ?_
      refine zv_cV (M' := mm_X9_nobodyLate) (ci := 9) (a := 0) (av := [.long (((1 : Int64) <<< ((nI t).toInt64 &&& 63)) ||| ((1 : Int64) <<< ((nI u).toInt64 &&& 63)))]) (st := []) (r := some (.int (if fr_score J (zx_uL L 34 3 (((1 : Int64) <<< ((nI t).toInt64 &&& 63)) ||| ((1 : Int64) <<< ((nI u).toInt64 &&& 63)))) 4 ≥ 100 then 0 else 1))) (I' := (fr_end J (zx_uL L 34 3 (((1 : Int64) <<< ((nI t).toInt64 &&& 63)) ||| ((1 : Int64) <<< ((nI u).toInt64 &&& 63)))) 4).1) (L' := (zx_uL L 34 3 (((1 : Int64) <<< ((nI t).toInt64 &&& 63)) ||| ((1 : Int64) <<< ((nI u).toInt64 &&& 63))))) (R' := zw_RC 4 14 (fr_end J (zx_uL L 34 3 (((1 : Int64) <<< ((nI t).toInt64 &&& 63)) ||| ((1 : Int64) <<< ((nI u).toInt64 &&& 63)))) 4).2) rfl zc_9_211 gd_X9_nobodyLate rfl rfl rfl (Nat.le_of_ble_eq_true rfl) (ct_X9_nobodyLate_4 (d := _) (hK _ _ hJ).1) ⟨Nat.le_refl _, Nat.le_refl _⟩ ?_
      refine zv_run 0 (pc' := 133) (lo' := [some (.ref 0), some (.int rule), some (.int what), some (.int (nI t)), some (.int (nI u))]) (st' := [.int (if fr_score J (zx_uL L 34 3 (((1 : Int64) <<< ((nI t).toInt64 &&& 63)) ||| ((1 : Int64) <<< ((nI u).toInt64 &&& 63)))) 4 ≥ 100 then 0 else 1)]) (I' := (fr_end J (zx_uL L 34 3 (((1 : Int64) <<< ((nI t).toInt64 &&& 63)) ||| ((1 : Int64) <<< ((nI u).toInt64 &&& 63)))) 4).1) (L' := (zx_uL L 34 3 (((1 : Int64) <<< ((nI t).toInt64 &&& 63)) ||| ((1 : Int64) <<< ((nI u).toInt64 &&& 63))))) (R' := zw_RC 4 14 (fr_end J (zx_uL L 34 3 (((1 : Int64) <<< ((nI t).toInt64 &&& 63)) ||| ((1 : Int64) <<< ((nI u).toInt64 &&& 63)))) 4).2) rfl ?_
      refine zv_if_eq (tgt := 156) (zs_at rfl) (by decide) (fun c133 => ?_) (fun c133 => ?_)
      · have _c := c133
        refine zv_run 2 (pc' := 109) (lo' := [some (.ref 0), some (.int rule), some (.int what), some (.int (nI t)), some (.int ((nI u) + 1))]) (st' := []) (I' := (fr_end J (zx_uL L 34 3 (((1 : Int64) <<< ((nI t).toInt64 &&& 63)) ||| ((1 : Int64) <<< ((nI u).toInt64 &&& 63)))) 4).1) (L' := (zx_uL L 34 3 (((1 : Int64) <<< ((nI t).toInt64 &&& 63)) ||| ((1 : Int64) <<< ((nI u).toInt64 &&& 63))))) (R' := zw_RC 4 14 (fr_end J (zx_uL L 34 3 (((1 : Int64) <<< ((nI t).toInt64 &&& 63)) ||| ((1 : Int64) <<< ((nI u).toInt64 &&& 63)))) 4).2) rfl ?_
        have e : fw_3 4 t (n + 1) u J L = fw_3 4 t n (u + 1) (fr_end J (fw_L2 L t u) 4).1 (fw_L2 L t u) := by rw [fw_3, if_pos (show fr_score J (fw_L2 L t u) 4 ≥ 100 from fw_c c133)]
        rw [e] at hQ hk
        rw [← nI_succ]
        exact ih (u + 1) _ _ _ (by omega) (hK _ _ hJ).2 hQ hk
      · have _c := c133
        refine zv_run 1 (pc' := 137) (lo' := [some (.ref 0), some (.int rule), some (.int what), some (.int (nI t)), some (.int (nI u))]) (st' := [.int what]) (I' := (fr_end J (zx_uL L 34 3 (((1 : Int64) <<< ((nI t).toInt64 &&& 63)) ||| ((1 : Int64) <<< ((nI u).toInt64 &&& 63)))) 4).1) (L' := (zx_uL L 34 3 (((1 : Int64) <<< ((nI t).toInt64 &&& 63)) ||| ((1 : Int64) <<< ((nI u).toInt64 &&& 63))))) (R' := zw_RC 4 14 (fr_end J (zx_uL L 34 3 (((1 : Int64) <<< ((nI t).toInt64 &&& 63)) ||| ((1 : Int64) <<< ((nI u).toInt64 &&& 63)))) 4).2) rfl ?_
        refine zv_if_ne (tgt := 144) (zs_at rfl) (by decide) (fun c137 => ?_) (fun c137 => ?_)
        · have _c := c137
          refine zv_run 2 (pc' := 146) (lo' := [some (.ref 0), some (.int rule), some (.int what), some (.int (nI t)), some (.int (nI u))]) (st' := [.int 1, .int what]) (I' := (fr_end J (zx_uL L 34 3 (((1 : Int64) <<< ((nI t).toInt64 &&& 63)) ||| ((1 : Int64) <<< ((nI u).toInt64 &&& 63)))) 4).1) (L' := (zx_uL L 34 3 (((1 : Int64) <<< ((nI t).toInt64 &&& 63)) ||| ((1 : Int64) <<< ((nI u).toInt64 &&& 63))))) (R' := zw_RC 4 14 (fr_end J (zx_uL L 34 3 (((1 : Int64) <<< ((nI t).toInt64 &&& 63)) ||| ((1 : Int64) <<< ((nI u).toInt64 &&& 63)))) 4).2) rfl ?_
          refine zv_icmp_ne (tgt := 153) (zs_at rfl) (by decide) (fun c146 => ?_) (fun c146 => ?_)
          · have _c := c146
            refine zv_run 1 (pc' := 155) (lo' := [some (.ref 0), some (.int rule), some (.int what), some (.int (nI t)), some (.int (nI u))]) (st' := [.int (nI u)]) (I' := (fr_end J (zx_uL L 34 3 (((1 : Int64) <<< ((nI t).toInt64 &&& 63)) ||| ((1 : Int64) <<< ((nI u).toInt64 &&& 63)))) 4).1) (L' := (zx_uL L 34 3 (((1 : Int64) <<< ((nI t).toInt64 &&& 63)) ||| ((1 : Int64) <<< ((nI u).toInt64 &&& 63))))) (R' := zw_RC 4 14 (fr_end J (zx_uL L 34 3 (((1 : Int64) <<< ((nI t).toInt64 &&& 63)) ||| ((1 : Int64) <<< ((nI u).toInt64 &&& 63)))) 4).2) rfl ?_
            exact zv_iret (zs_at rfl) rfl ⟨Nat.le_refl _, Nat.le_refl _⟩ (by have e : fw_3 4 t (n + 1) u J L = (some u, (fr_end J (fw_L2 L t u) 4).1, fw_L2 L t u) := (by rw [fw_3, if_neg (show ¬ fr_score J (fw_L2 L t u) 4 ≥ 100 from fw_b c133)]); rw [e] at hQ; have q := hQ u (fr_end J (fw_L2 L t u) 4).2 rfl; have ev : fw_v2 what t u = nI u := (by unfold fw_v2; rw [if_pos c137, if_pos c146]); rw [ev] at q; exact q)
          · have _c := c146
            refine zv_run 2 (pc' := 155) (lo' := [some (.ref 0), some (.int rule), some (.int what), some (.int (nI t)), some (.int (nI u))]) (st' := [.int (nI t)]) (I' := (fr_end J (zx_uL L 34 3 (((1 : Int64) <<< ((nI t).toInt64 &&& 63)) ||| ((1 : Int64) <<< ((nI u).toInt64 &&& 63)))) 4).1) (L' := (zx_uL L 34 3 (((1 : Int64) <<< ((nI t).toInt64 &&& 63)) ||| ((1 : Int64) <<< ((nI u).toInt64 &&& 63))))) (R' := zw_RC 4 14 (fr_end J (zx_uL L 34 3 (((1 : Int64) <<< ((nI t).toInt64 &&& 63)) ||| ((1 : Int64) <<< ((nI u).toInt64 &&& 63)))) 4).2) rfl ?_
            exact zv_iret (zs_at rfl) rfl ⟨Nat.le_refl _, Nat.le_refl _⟩ (by have e : fw_3 4 t (n + 1) u J L = (some u, (fr_end J (fw_L2 L t u) 4).1, fw_L2 L t u) := (by rw [fw_3, if_neg (show ¬ fr_score J (fw_L2 L t u) 4 ≥ 100 from fw_b c133)]); rw [e] at hQ; have q := hQ u (fr_end J (fw_L2 L t u) 4).2 rfl; have ev : fw_v2 what t u = nI t := (by unfold fw_v2; rw [if_pos c137, if_neg (fun q => q c146)]); rw [ev] at q; exact q)
        · have _c := c137
          refine zv_run 2 (pc' := 155) (lo' := [some (.ref 0), some (.int rule), some (.int what), some (.int (nI t)), some (.int (nI u))]) (st' := [.int 2]) (I' := (fr_end J (zx_uL L 34 3 (((1 : Int64) <<< ((nI t).toInt64 &&& 63)) ||| ((1 : Int64) <<< ((nI u).toInt64 &&& 63)))) 4).1) (L' := (zx_uL L 34 3 (((1 : Int64) <<< ((nI t).toInt64 &&& 63)) ||| ((1 : Int64) <<< ((nI u).toInt64 &&& 63))))) (R' := zw_RC 4 14 (fr_end J (zx_uL L 34 3 (((1 : Int64) <<< ((nI t).toInt64 &&& 63)) ||| ((1 : Int64) <<< ((nI u).toInt64 &&& 63)))) 4).2) rfl ?_
          exact zv_iret (zs_at rfl) rfl ⟨Nat.le_refl _, Nat.le_refl _⟩ (by have e : fw_3 4 t (n + 1) u J L = (some u, (fr_end J (fw_L2 L t u) 4).1, fw_L2 L t u) := (by rw [fw_3, if_neg (show ¬ fr_score J (fw_L2 L t u) 4 ≥ 100 from fw_b c133)]); rw [e] at hQ; have q := hQ u (fr_end J (fw_L2 L t u) 4).2 rfl; have ev : fw_v2 what t u = 2 := (by unfold fw_v2; rw [if_neg (fun q => q c137)]); rw [ev] at q; exact q)
theorem W162_4 {d : Nat} {rule what : Int32} {Q : zx_Qt} {t : Nat} {J : zx_I} {L : zx_L} {la : Option Nat} {x4 : Option Value} (k : zx_V mm_X9_fewest d z0 Q zw_SC 93 [some (.ref 0), some (.int rule), some (.int what), some (.int (nI t + 1)), x4] [] J L (zw_RC 4 14 la)) : zx_V mm_X9_fewest d z0 Q zw_SC 162 [some (.ref 0), some (.int rule), some (.int what), some (.int (nI t)), x4] [] J L (zw_RC 4 14 la) := by
  refine zv_run 2 (pc' := 93) (lo' := [some (.ref 0), some (.int rule), some (.int what), some (.int ((nI t) + 1)), x4]) (st' := []) (I' := J) (L' := L) (R' := zw_RC 4 14 la) rfl ?_
  exact k
theorem lp2_X9_few_4 {d : Nat} {rule what : Int32} {K : zx_I → Prop} {N : Nat} {Q : zx_Qt} (hK : kr K 4) (hN : N ≤ 60) (hst : ∀ J, K J → J 4 12 = nI N) : ∀ (n t : Nat) (J : zx_I) (L : zx_L) (la x4), t + n = N → K J → (∀ u v la, (fw_2 4 N n t J L).1 = some (u, v) → Q (some (.int (fw_v2 what u v))) zw_SC (fw_2 4 N n t J L).2.1 (fw_2 4 N n t J L).2.2 (zw_RC 4 14 la)) → (∀ la, (fw_2 4 N n t J L).1 = none → Q (some (.int (-4))) zw_SC (fw_2 4 N n t J L).2.1 (fw_2 4 N n t J L).2.2 (zw_RC 4 14 la)) → zx_V mm_X9_fewest (d + 6) z0 Q zw_SC 93 [some (.ref 0), some (.int rule), some (.int what), some (.int (nI t)), x4] [] J L (zw_RC 4 14 la) := by
  intro n
  induction n with
  | zero =>
    intro t J L la x4 ht hJ hQ hk
    refine zv_run 4 (pc' := 101) (lo' := [some (.ref 0), some (.int rule), some (.int what), some (.int (nI t)), x4]) (st' := [.int (J 4 12), .int (nI t)]) (I' := J) (L' := L) (R' := zw_RC 4 14 la) rfl ?_
    refine zv_icmp_ge (tgt := 168) (zs_at rfl) (by decide) (fun c101 => ?_) (fun c101 => ?_)
    · have _c := c101
      refine zv_run 1 (pc' := 170) (lo' := [some (.ref 0), some (.int rule), some (.int what), some (.int (nI t)), x4]) (st' := [.int (-4)]) (I' := J) (L' := L) (R' := zw_RC 4 14 la) rfl ?_
      exact zv_iret (zs_at rfl) rfl ⟨Nat.le_refl _, Nat.le_refl _⟩ (hk la rfl)
    · exact absurd (by rw [hst J hJ]; exact nI_le (by omega) (by omega)) c101
  | succ n ih =>
    intro t J L la x4 ht hJ hQ hk
    refine zv_run 4 (pc' := 101) (lo' := [some (.ref 0), some (.int rule), some (.int what), some (.int (nI t)), x4]) (st' := [.int (J 4 12), .int (nI t)]) (I' := J) (L' := L) (R' := zw_RC 4 14 la) rfl ?_
    refine zv_icmp_ge (tgt := 168) (zs_at rfl) (by decide) (fun c101 => ?_) (fun c101 => ?_)
    · exact absurd c101 (by rw [hst J hJ]; exact nI_ge (by omega) (by omega))
    · have _c := c101
      refine zv_run 4 (pc' := 109) (lo' := [some (.ref 0), some (.int rule), some (.int what), some (.int (nI t)), some (.int ((nI t) + 1))]) (st' := []) (I' := J) (L' := L) (R' := zw_RC 4 14 la) rfl ?_
      rw [← nI_succ]
      rcases e3 : fw_3 4 t (N - (t + 1)) (t + 1) J L with ⟨_ | u, J', L'⟩
      · have e : fw_2 4 N (n + 1) t J L = fw_2 4 N n (t + 1) J' L' := by rw [fw_2, e3]
        rw [e] at hQ hk
        refine lp3_X9_few_4 hK hN hst (by omega) (N - (t + 1)) (t + 1) J L _ (by omega) hJ (fun v la hv => by rw [e3] at hv; cases hv) (fun la x4 _ hJ' => ?_)
        rw [e3] at hJ' ⊢
        refine W162_4 (d := d + 6) ?_
        rw [← nI_succ]
        exact ih (t + 1) _ _ _ _ (by omega) hJ' hQ hk
      · have e : fw_2 4 N (n + 1) t J L = (some (t, u), J', L') := by rw [fw_2, e3]
        rw [e] at hQ
        exact lp3_X9_few_4 hK hN hst (by omega) (N - (t + 1)) (t + 1) J L _ (by omega) hJ (fun v la hv => by rw [e3] at hv ⊢; cases hv; exact hQ t u la rfl) (fun la x4 hv _ => by rw [e3] at hv; cases hv)
theorem lp1_X9_few_14 {d : Nat} {rule what : Int32} {K : zx_I → Prop} {N : Nat} {Q : zx_Qt} (hK : kr K 14) (hN : N ≤ 60) (hst : ∀ J, K J → J 14 12 = nI N) : ∀ (n t : Nat) (J : zx_I) (L : zx_L) (la x4), t + n = N → K J → (∀ u la, (fw_1 14 n t J L).1 = some u → Q (some (.int (fw_v1 what u))) zw_SC (fw_1 14 n t J L).2.1 (fw_1 14 n t J L).2.2 (zw_RC 14 4 la)) → (∀ la, (fw_1 14 n t J L).1 = none → K (fw_1 14 n t J L).2.1 → zx_V mm_X9_fewest (d + 6) z0 Q zw_SC 91 [some (.ref 0), some (.int rule), some (.int what), some (.int (nI N)), x4] [] (fw_1 14 n t J L).2.1 (fw_1 14 n t J L).2.2 (zw_RC 14 4 la)) → zx_V mm_X9_fewest (d + 6) z0 Q zw_SC 44 [some (.ref 0), some (.int rule), some (.int what), some (.int (nI t)), x4] [] J L (zw_RC 14 4 la) := by
  intro n
  induction n with
  | zero =>
    intro t J L la x4 ht hJ hQ hk
    refine zv_run 4 (pc' := 52) (lo' := [some (.ref 0), some (.int rule), some (.int what), some (.int (nI t)), x4]) (st' := [.int (J 14 12), .int (nI t)]) (I' := J) (L' := L) (R' := zw_RC 14 4 la) rfl ?_
    refine zv_icmp_ge (tgt := 91) (zs_at rfl) (by decide) (fun c52 => ?_) (fun c52 => ?_)
    · have _c := c52
      rw [show nI t = nI N by rw [show t = N by omega]]
      exact hk la rfl hJ
    · exact absurd (by rw [hst J hJ]; exact nI_le (by omega) (by omega)) c52
  | succ n ih =>
    intro t J L la x4 ht hJ hQ hk
    refine zv_run 4 (pc' := 52) (lo' := [some (.ref 0), some (.int rule), some (.int what), some (.int (nI t)), x4]) (st' := [.int (J 14 12), .int (nI t)]) (I' := J) (L' := L) (R' := zw_RC 14 4 la) rfl ?_
    refine zv_icmp_ge (tgt := 91) (zs_at rfl) (by decide) (fun c52 => ?_) (fun c52 => ?_)
    · exact absurd c52 (by rw [hst J hJ]; exact nI_ge (by omega) (by omega))
    · have _c := c52
      refine zv_run 4 (pc' := 59) (lo' := [some (.ref 0), some (.int rule), some (.int what), some (.int (nI t)), x4]) (st' := [.long ((1 : Int64) <<< ((nI t).toInt64 &&& 63)), .ref 0]) (I' := J) (L' := L) (R' := zw_RC 14 4 la) rfl ?_
      refine zv_cV (M' := mm_X9_nobodyLate) (ci := 9) (a := 0) (av := [.long ((1 : Int64) <<< ((nI t).toInt64 &&& 63))]) (st := []) (r := some (.int (if fr_score J (zx_uL L 34 3 ((1 : Int64) <<< ((nI t).toInt64 &&& 63))) 14 ≥ 100 then 0 else 1))) (I' := (fr_end J (zx_uL L 34 3 ((1 : Int64) <<< ((nI t).toInt64 &&& 63))) 14).1) (L' := (zx_uL L 34 3 ((1 : Int64) <<< ((nI t).toInt64 &&& 63)))) (R' := zw_RC 14 4 (fr_end J (zx_uL L 34 3 ((1 : Int64) <<< ((nI t).toInt64 &&& 63))) 14).2) rfl zc_9_211 gd_X9_nobodyLate rfl rfl rfl (Nat.le_of_ble_eq_true rfl) (ct_X9_nobodyLate_14 (d := _) (hK _ _ hJ).1) ⟨Nat.le_refl _, Nat.le_refl _⟩ ?_
      refine zv_run 0 (pc' := 62) (lo' := [some (.ref 0), some (.int rule), some (.int what), some (.int (nI t)), x4]) (st' := [.int (if fr_score J (zx_uL L 34 3 ((1 : Int64) <<< ((nI t).toInt64 &&& 63))) 14 ≥ 100 then 0 else 1)]) (I' := (fr_end J (zx_uL L 34 3 ((1 : Int64) <<< ((nI t).toInt64 &&& 63))) 14).1) (L' := (zx_uL L 34 3 ((1 : Int64) <<< ((nI t).toInt64 &&& 63)))) (R' := zw_RC 14 4 (fr_end J (zx_uL L 34 3 ((1 : Int64) <<< ((nI t).toInt64 &&& 63))) 14).2) rfl ?_
      refine zv_if_eq (tgt := 85) (zs_at rfl) (by decide) (fun c62 => ?_) (fun c62 => ?_)
      · have _c := c62
        refine zv_run 2 (pc' := 44) (lo' := [some (.ref 0), some (.int rule), some (.int what), some (.int ((nI t) + 1)), x4]) (st' := []) (I' := (fr_end J (zx_uL L 34 3 ((1 : Int64) <<< ((nI t).toInt64 &&& 63))) 14).1) (L' := (zx_uL L 34 3 ((1 : Int64) <<< ((nI t).toInt64 &&& 63)))) (R' := zw_RC 14 4 (fr_end J (zx_uL L 34 3 ((1 : Int64) <<< ((nI t).toInt64 &&& 63))) 14).2) rfl ?_
        have e : fw_1 14 (n + 1) t J L = fw_1 14 n (t + 1) (fr_end J (fw_L1 L t) 14).1 (fw_L1 L t) := by rw [fw_1, if_pos (show fr_score J (fw_L1 L t) 14 ≥ 100 from fw_c c62)]
        rw [e] at hQ hk
        rw [← nI_succ]
        exact ih (t + 1) _ _ _ _ (by omega) (hK _ _ hJ).2 hQ hk
      · have _c := c62
        refine zv_run 1 (pc' := 66) (lo' := [some (.ref 0), some (.int rule), some (.int what), some (.int (nI t)), x4]) (st' := [.int what]) (I' := (fr_end J (zx_uL L 34 3 ((1 : Int64) <<< ((nI t).toInt64 &&& 63))) 14).1) (L' := (zx_uL L 34 3 ((1 : Int64) <<< ((nI t).toInt64 &&& 63)))) (R' := zw_RC 14 4 (fr_end J (zx_uL L 34 3 ((1 : Int64) <<< ((nI t).toInt64 &&& 63))) 14).2) rfl ?_
        refine zv_if_ne (tgt := 73) (zs_at rfl) (by decide) (fun c66 => ?_) (fun c66 => ?_)
        · have _c := c66
          refine zv_run 2 (pc' := 75) (lo' := [some (.ref 0), some (.int rule), some (.int what), some (.int (nI t)), x4]) (st' := [.int 1, .int what]) (I' := (fr_end J (zx_uL L 34 3 ((1 : Int64) <<< ((nI t).toInt64 &&& 63))) 14).1) (L' := (zx_uL L 34 3 ((1 : Int64) <<< ((nI t).toInt64 &&& 63)))) (R' := zw_RC 14 4 (fr_end J (zx_uL L 34 3 ((1 : Int64) <<< ((nI t).toInt64 &&& 63))) 14).2) rfl ?_
          refine zv_icmp_ne (tgt := 82) (zs_at rfl) (by decide) (fun c75 => ?_) (fun c75 => ?_)
          · have _c := c75
            refine zv_run 1 (pc' := 84) (lo' := [some (.ref 0), some (.int rule), some (.int what), some (.int (nI t)), x4]) (st' := [.int (-4)]) (I' := (fr_end J (zx_uL L 34 3 ((1 : Int64) <<< ((nI t).toInt64 &&& 63))) 14).1) (L' := (zx_uL L 34 3 ((1 : Int64) <<< ((nI t).toInt64 &&& 63)))) (R' := zw_RC 14 4 (fr_end J (zx_uL L 34 3 ((1 : Int64) <<< ((nI t).toInt64 &&& 63))) 14).2) rfl ?_
            exact zv_iret (zs_at rfl) rfl ⟨Nat.le_refl _, Nat.le_refl _⟩ (by have e : fw_1 14 (n + 1) t J L = (some t, (fr_end J (fw_L1 L t) 14).1, fw_L1 L t) := (by rw [fw_1, if_neg (show ¬ fr_score J (fw_L1 L t) 14 ≥ 100 from fw_b c62)]); rw [e] at hQ; have q := hQ t (fr_end J (fw_L1 L t) 14).2 rfl; have ev : fw_v1 what t = -4 := (by unfold fw_v1; rw [if_pos c66, if_pos c75]); rw [ev] at q; exact q)
          · have _c := c75
            refine zv_run 2 (pc' := 84) (lo' := [some (.ref 0), some (.int rule), some (.int what), some (.int (nI t)), x4]) (st' := [.int (nI t)]) (I' := (fr_end J (zx_uL L 34 3 ((1 : Int64) <<< ((nI t).toInt64 &&& 63))) 14).1) (L' := (zx_uL L 34 3 ((1 : Int64) <<< ((nI t).toInt64 &&& 63)))) (R' := zw_RC 14 4 (fr_end J (zx_uL L 34 3 ((1 : Int64) <<< ((nI t).toInt64 &&& 63))) 14).2) rfl ?_
            exact zv_iret (zs_at rfl) rfl ⟨Nat.le_refl _, Nat.le_refl _⟩ (by have e : fw_1 14 (n + 1) t J L = (some t, (fr_end J (fw_L1 L t) 14).1, fw_L1 L t) := (by rw [fw_1, if_neg (show ¬ fr_score J (fw_L1 L t) 14 ≥ 100 from fw_b c62)]); rw [e] at hQ; have q := hQ t (fr_end J (fw_L1 L t) 14).2 rfl; have ev : fw_v1 what t = nI t := (by unfold fw_v1; rw [if_pos c66, if_neg (fun q => q c75)]); rw [ev] at q; exact q)
        · have _c := c66
          refine zv_run 2 (pc' := 84) (lo' := [some (.ref 0), some (.int rule), some (.int what), some (.int (nI t)), x4]) (st' := [.int 1]) (I' := (fr_end J (zx_uL L 34 3 ((1 : Int64) <<< ((nI t).toInt64 &&& 63))) 14).1) (L' := (zx_uL L 34 3 ((1 : Int64) <<< ((nI t).toInt64 &&& 63)))) (R' := zw_RC 14 4 (fr_end J (zx_uL L 34 3 ((1 : Int64) <<< ((nI t).toInt64 &&& 63))) 14).2) rfl ?_
          exact zv_iret (zs_at rfl) rfl ⟨Nat.le_refl _, Nat.le_refl _⟩ (by have e : fw_1 14 (n + 1) t J L = (some t, (fr_end J (fw_L1 L t) 14).1, fw_L1 L t) := (by rw [fw_1, if_neg (show ¬ fr_score J (fw_L1 L t) 14 ≥ 100 from fw_b c62)]); rw [e] at hQ; have q := hQ t (fr_end J (fw_L1 L t) 14).2 rfl; have ev : fw_v1 what t = 1 := (by unfold fw_v1; rw [if_neg (fun q => q c66)]); rw [ev] at q; exact q)
theorem lp3_X9_few_14 {d : Nat} {rule what : Int32} {K : zx_I → Prop} {N : Nat} {Q : zx_Qt} (hK : kr K 14) (hN : N ≤ 60) (hst : ∀ J, K J → J 14 12 = nI N) {t : Nat} (ht : t ≤ 60) : ∀ (n u : Nat) (J : zx_I) (L : zx_L) (la), u + n = N → K J → (∀ v la, (fw_3 14 t n u J L).1 = some v → Q (some (.int (fw_v2 what t v))) zw_SC (fw_3 14 t n u J L).2.1 (fw_3 14 t n u J L).2.2 (zw_RC 14 4 la)) → (∀ la x4, (fw_3 14 t n u J L).1 = none → K (fw_3 14 t n u J L).2.1 → zx_V mm_X9_fewest (d + 6) z0 Q zw_SC 162 [some (.ref 0), some (.int rule), some (.int what), some (.int (nI t)), x4] [] (fw_3 14 t n u J L).2.1 (fw_3 14 t n u J L).2.2 (zw_RC 14 4 la)) → zx_V mm_X9_fewest (d + 6) z0 Q zw_SC 109 [some (.ref 0), some (.int rule), some (.int what), some (.int (nI t)), some (.int (nI u))] [] J L (zw_RC 14 4 la) := by
  intro n
  induction n with
  | zero =>
    intro u J L la hu hJ hQ hk
    refine zv_run 4 (pc' := 118) (lo' := [some (.ref 0), some (.int rule), some (.int what), some (.int (nI t)), some (.int (nI u))]) (st' := [.int (J 14 12), .int (nI u)]) (I' := J) (L' := L) (R' := zw_RC 14 4 la) rfl ?_
    refine zv_icmp_ge (tgt := 162) (zs_at rfl) (by decide) (fun c118 => ?_) (fun c118 => ?_)
    · have _c := c118
      exact hk la _ rfl hJ
    · exact absurd (by rw [hst J hJ]; exact nI_le (by omega) (by omega)) c118
  | succ n ih =>
    intro u J L la hu hJ hQ hk
    refine zv_run 4 (pc' := 118) (lo' := [some (.ref 0), some (.int rule), some (.int what), some (.int (nI t)), some (.int (nI u))]) (st' := [.int (J 14 12), .int (nI u)]) (I' := J) (L' := L) (R' := zw_RC 14 4 la) rfl ?_
    refine zv_icmp_ge (tgt := 162) (zs_at rfl) (by decide) (fun c118 => ?_) (fun c118 => ?_)
    · exact absurd c118 (by rw [hst J hJ]; exact nI_ge (by omega) (by omega))
    · have _c := c118
      refine zv_run 8 (pc' := 130) (lo' := [some (.ref 0), some (.int rule), some (.int what), some (.int (nI t)), some (.int (nI u))]) (st' := [.long (((1 : Int64) <<< ((nI t).toInt64 &&& 63)) ||| ((1 : Int64) <<< ((nI u).toInt64 &&& 63))), .ref 0]) (I' := J) (L' := L) (R' := zw_RC 14 4 la) rfl ?_
      refine zv_cV (M' := mm_X9_nobodyLate) (ci := 9) (a := 0) (av := [.long (((1 : Int64) <<< ((nI t).toInt64 &&& 63)) ||| ((1 : Int64) <<< ((nI u).toInt64 &&& 63)))]) (st := []) (r := some (.int (if fr_score J (zx_uL L 34 3 (((1 : Int64) <<< ((nI t).toInt64 &&& 63)) ||| ((1 : Int64) <<< ((nI u).toInt64 &&& 63)))) 14 ≥ 100 then 0 else 1))) (I' := (fr_end J (zx_uL L 34 3 (((1 : Int64) <<< ((nI t).toInt64 &&& 63)) ||| ((1 : Int64) <<< ((nI u).toInt64 &&& 63)))) 14).1) (L' := (zx_uL L 34 3 (((1 : Int64) <<< ((nI t).toInt64 &&& 63)) ||| ((1 : Int64) <<< ((nI u).toInt64 &&& 63))))) (R' := zw_RC 14 4 (fr_end J (zx_uL L 34 3 (((1 : Int64) <<< ((nI t).toInt64 &&& 63)) ||| ((1 : Int64) <<< ((nI u).toInt64 &&& 63)))) 14).2) rfl zc_9_211 gd_X9_nobodyLate rfl rfl rfl (Nat.le_of_ble_eq_true rfl) (ct_X9_nobodyLate_14 (d := _) (hK _ _ hJ).1) ⟨Nat.le_refl _, Nat.le_refl _⟩ ?_
      refine zv_run 0 (pc' := 133) (lo' := [some (.ref 0), some (.int rule), some (.int what), some (.int (nI t)), some (.int (nI u))]) (st' := [.int (if fr_score J (zx_uL L 34 3 (((1 : Int64) <<< ((nI t).toInt64 &&& 63)) ||| ((1 : Int64) <<< ((nI u).toInt64 &&& 63)))) 14 ≥ 100 then 0 else 1)]) (I' := (fr_end J (zx_uL L 34 3 (((1 : Int64) <<< ((nI t).toInt64 &&& 63)) ||| ((1 : Int64) <<< ((nI u).toInt64 &&& 63)))) 14).1) (L' := (zx_uL L 34 3 (((1 : Int64) <<< ((nI t).toInt64 &&& 63)) ||| ((1 : Int64) <<< ((nI u).toInt64 &&& 63))))) (R' := zw_RC 14 4 (fr_end J (zx_uL L 34 3 (((1 : Int64) <<< ((nI t).toInt64 &&& 63)) ||| ((1 : Int64) <<< ((nI u).toInt64 &&& 63)))) 14).2) rfl ?_
      refine zv_if_eq (tgt := 156) (zs_at rfl) (by decide) (fun c133 => ?_) (fun c133 => ?_)
      · have _c := c133
        refine zv_run 2 (pc' := 109) (lo' := [some (.ref 0), some (.int rule), some (.int what), some (.int (nI t)), some (.int ((nI u) + 1))]) (st' := []) (I' := (fr_end J (zx_uL L 34 3 (((1 : Int64) <<< ((nI t).toInt64 &&& 63)) ||| ((1 : Int64) <<< ((nI u).toInt64 &&& 63)))) 14).1) (L' := (zx_uL L 34 3 (((1 : Int64) <<< ((nI t).toInt64 &&& 63)) ||| ((1 : Int64) <<< ((nI u).toInt64 &&& 63))))) (R' := zw_RC 14 4 (fr_end J (zx_uL L 34 3 (((1 : Int64) <<< ((nI t).toInt64 &&& 63)) ||| ((1 : Int64) <<< ((nI u).toInt64 &&& 63)))) 14).2) rfl ?_
        have e : fw_3 14 t (n + 1) u J L = fw_3 14 t n (u + 1) (fr_end J (fw_L2 L t u) 14).1 (fw_L2 L t u) := by rw [fw_3, if_pos (show fr_score J (fw_L2 L t u) 14 ≥ 100 from fw_c c133)]
        rw [e] at hQ hk
        rw [← nI_succ]
        exact ih (u + 1) _ _ _ (by omega) (hK _ _ hJ).2 hQ hk
      · have _c := c133
        refine zv_run 1 (pc' := 137) (lo' := [some (.ref 0), some (.int rule), some (.int what), some (.int (nI t)), some (.int (nI u))]) (st' := [.int what]) (I' := (fr_end J (zx_uL L 34 3 (((1 : Int64) <<< ((nI t).toInt64 &&& 63)) ||| ((1 : Int64) <<< ((nI u).toInt64 &&& 63)))) 14).1) (L' := (zx_uL L 34 3 (((1 : Int64) <<< ((nI t).toInt64 &&& 63)) ||| ((1 : Int64) <<< ((nI u).toInt64 &&& 63))))) (R' := zw_RC 14 4 (fr_end J (zx_uL L 34 3 (((1 : Int64) <<< ((nI t).toInt64 &&& 63)) ||| ((1 : Int64) <<< ((nI u).toInt64 &&& 63)))) 14).2) rfl ?_
        refine zv_if_ne (tgt := 144) (zs_at rfl) (by decide) (fun c137 => ?_) (fun c137 => ?_)
        · have _c := c137
          refine zv_run 2 (pc' := 146) (lo' := [some (.ref 0), some (.int rule), some (.int what), some (.int (nI t)), some (.int (nI u))]) (st' := [.int 1, .int what]) (I' := (fr_end J (zx_uL L 34 3 (((1 : Int64) <<< ((nI t).toInt64 &&& 63)) ||| ((1 : Int64) <<< ((nI u).toInt64 &&& 63)))) 14).1) (L' := (zx_uL L 34 3 (((1 : Int64) <<< ((nI t).toInt64 &&& 63)) ||| ((1 : Int64) <<< ((nI u).toInt64 &&& 63))))) (R' := zw_RC 14 4 (fr_end J (zx_uL L 34 3 (((1 : Int64) <<< ((nI t).toInt64 &&& 63)) ||| ((1 : Int64) <<< ((nI u).toInt64 &&& 63)))) 14).2) rfl ?_
          refine zv_icmp_ne (tgt := 153) (zs_at rfl) (by decide) (fun c146 => ?_) (fun c146 => ?_)
          · have _c := c146
            refine zv_run 1 (pc' := 155) (lo' := [some (.ref 0), some (.int rule), some (.int what), some (.int (nI t)), some (.int (nI u))]) (st' := [.int (nI u)]) (I' := (fr_end J (zx_uL L 34 3 (((1 : Int64) <<< ((nI t).toInt64 &&& 63)) ||| ((1 : Int64) <<< ((nI u).toInt64 &&& 63)))) 14).1) (L' := (zx_uL L 34 3 (((1 : Int64) <<< ((nI t).toInt64 &&& 63)) ||| ((1 : Int64) <<< ((nI u).toInt64 &&& 63))))) (R' := zw_RC 14 4 (fr_end J (zx_uL L 34 3 (((1 : Int64) <<< ((nI t).toInt64 &&& 63)) ||| ((1 : Int64) <<< ((nI u).toInt64 &&& 63)))) 14).2) rfl ?_
            exact zv_iret (zs_at rfl) rfl ⟨Nat.le_refl _, Nat.le_refl _⟩ (by have e : fw_3 14 t (n + 1) u J L = (some u, (fr_end J (fw_L2 L t u) 14).1, fw_L2 L t u) := (by rw [fw_3, if_neg (show ¬ fr_score J (fw_L2 L t u) 14 ≥ 100 from fw_b c133)]); rw [e] at hQ; have q := hQ u (fr_end J (fw_L2 L t u) 14).2 rfl; have ev : fw_v2 what t u = nI u := (by unfold fw_v2; rw [if_pos c137, if_pos c146]); rw [ev] at q; exact q)
          · have _c := c146
            refine zv_run 2 (pc' := 155) (lo' := [some (.ref 0), some (.int rule), some (.int what), some (.int (nI t)), some (.int (nI u))]) (st' := [.int (nI t)]) (I' := (fr_end J (zx_uL L 34 3 (((1 : Int64) <<< ((nI t).toInt64 &&& 63)) ||| ((1 : Int64) <<< ((nI u).toInt64 &&& 63)))) 14).1) (L' := (zx_uL L 34 3 (((1 : Int64) <<< ((nI t).toInt64 &&& 63)) ||| ((1 : Int64) <<< ((nI u).toInt64 &&& 63))))) (R' := zw_RC 14 4 (fr_end J (zx_uL L 34 3 (((1 : Int64) <<< ((nI t).toInt64 &&& 63)) ||| ((1 : Int64) <<< ((nI u).toInt64 &&& 63)))) 14).2) rfl ?_
            exact zv_iret (zs_at rfl) rfl ⟨Nat.le_refl _, Nat.le_refl _⟩ (by have e : fw_3 14 t (n + 1) u J L = (some u, (fr_end J (fw_L2 L t u) 14).1, fw_L2 L t u) := (by rw [fw_3, if_neg (show ¬ fr_score J (fw_L2 L t u) 14 ≥ 100 from fw_b c133)]); rw [e] at hQ; have q := hQ u (fr_end J (fw_L2 L t u) 14).2 rfl; have ev : fw_v2 what t u = nI t := (by unfold fw_v2; rw [if_pos c137, if_neg (fun q => q c146)]); rw [ev] at q; exact q)
        · have _c := c137
          refine zv_run 2 (pc' := 155) (lo' := [some (.ref 0), some (.int rule), some (.int what), some (.int (nI t)), some (.int (nI u))]) (st' := [.int 2]) (I' := (fr_end J (zx_uL L 34 3 (((1 : Int64) <<< ((nI t).toInt64 &&& 63)) ||| ((1 : Int64) <<< ((nI u).toInt64 &&& 63)))) 14).1) (L' := (zx_uL L 34 3 (((1 : Int64) <<< ((nI t).toInt64 &&& 63)) ||| ((1 : Int64) <<< ((nI u).toInt64 &&& 63))))) (R' := zw_RC 14 4 (fr_end J (zx_uL L 34 3 (((1 : Int64) <<< ((nI t).toInt64 &&& 63)) ||| ((1 : Int64) <<< ((nI u).toInt64 &&& 63)))) 14).2) rfl ?_
          exact zv_iret (zs_at rfl) rfl ⟨Nat.le_refl _, Nat.le_refl _⟩ (by have e : fw_3 14 t (n + 1) u J L = (some u, (fr_end J (fw_L2 L t u) 14).1, fw_L2 L t u) := (by rw [fw_3, if_neg (show ¬ fr_score J (fw_L2 L t u) 14 ≥ 100 from fw_b c133)]); rw [e] at hQ; have q := hQ u (fr_end J (fw_L2 L t u) 14).2 rfl; have ev : fw_v2 what t u = 2 := (by unfold fw_v2; rw [if_neg (fun q => q c137)]); rw [ev] at q; exact q)
theorem W162_14 {d : Nat} {rule what : Int32} {Q : zx_Qt} {t : Nat} {J : zx_I} {L : zx_L} {la : Option Nat} {x4 : Option Value} (k : zx_V mm_X9_fewest d z0 Q zw_SC 93 [some (.ref 0), some (.int rule), some (.int what), some (.int (nI t + 1)), x4] [] J L (zw_RC 14 4 la)) : zx_V mm_X9_fewest d z0 Q zw_SC 162 [some (.ref 0), some (.int rule), some (.int what), some (.int (nI t)), x4] [] J L (zw_RC 14 4 la) := by
  refine zv_run 2 (pc' := 93) (lo' := [some (.ref 0), some (.int rule), some (.int what), some (.int ((nI t) + 1)), x4]) (st' := []) (I' := J) (L' := L) (R' := zw_RC 14 4 la) rfl ?_
  exact k
theorem lp2_X9_few_14 {d : Nat} {rule what : Int32} {K : zx_I → Prop} {N : Nat} {Q : zx_Qt} (hK : kr K 14) (hN : N ≤ 60) (hst : ∀ J, K J → J 14 12 = nI N) : ∀ (n t : Nat) (J : zx_I) (L : zx_L) (la x4), t + n = N → K J → (∀ u v la, (fw_2 14 N n t J L).1 = some (u, v) → Q (some (.int (fw_v2 what u v))) zw_SC (fw_2 14 N n t J L).2.1 (fw_2 14 N n t J L).2.2 (zw_RC 14 4 la)) → (∀ la, (fw_2 14 N n t J L).1 = none → Q (some (.int (-4))) zw_SC (fw_2 14 N n t J L).2.1 (fw_2 14 N n t J L).2.2 (zw_RC 14 4 la)) → zx_V mm_X9_fewest (d + 6) z0 Q zw_SC 93 [some (.ref 0), some (.int rule), some (.int what), some (.int (nI t)), x4] [] J L (zw_RC 14 4 la) := by
  intro n
  induction n with
  | zero =>
    intro t J L la x4 ht hJ hQ hk
    refine zv_run 4 (pc' := 101) (lo' := [some (.ref 0), some (.int rule), some (.int what), some (.int (nI t)), x4]) (st' := [.int (J 14 12), .int (nI t)]) (I' := J) (L' := L) (R' := zw_RC 14 4 la) rfl ?_
    refine zv_icmp_ge (tgt := 168) (zs_at rfl) (by decide) (fun c101 => ?_) (fun c101 => ?_)
    · have _c := c101
      refine zv_run 1 (pc' := 170) (lo' := [some (.ref 0), some (.int rule), some (.int what), some (.int (nI t)), x4]) (st' := [.int (-4)]) (I' := J) (L' := L) (R' := zw_RC 14 4 la) rfl ?_
      exact zv_iret (zs_at rfl) rfl ⟨Nat.le_refl _, Nat.le_refl _⟩ (hk la rfl)
    · exact absurd (by rw [hst J hJ]; exact nI_le (by omega) (by omega)) c101
  | succ n ih =>
    intro t J L la x4 ht hJ hQ hk
    refine zv_run 4 (pc' := 101) (lo' := [some (.ref 0), some (.int rule), some (.int what), some (.int (nI t)), x4]) (st' := [.int (J 14 12), .int (nI t)]) (I' := J) (L' := L) (R' := zw_RC 14 4 la) rfl ?_
    refine zv_icmp_ge (tgt := 168) (zs_at rfl) (by decide) (fun c101 => ?_) (fun c101 => ?_)
    · exact absurd c101 (by rw [hst J hJ]; exact nI_ge (by omega) (by omega))
    · have _c := c101
      refine zv_run 4 (pc' := 109) (lo' := [some (.ref 0), some (.int rule), some (.int what), some (.int (nI t)), some (.int ((nI t) + 1))]) (st' := []) (I' := J) (L' := L) (R' := zw_RC 14 4 la) rfl ?_
      rw [← nI_succ]
      rcases e3 : fw_3 14 t (N - (t + 1)) (t + 1) J L with ⟨_ | u, J', L'⟩
      · have e : fw_2 14 N (n + 1) t J L = fw_2 14 N n (t + 1) J' L' := by rw [fw_2, e3]
        rw [e] at hQ hk
        refine lp3_X9_few_14 hK hN hst (by omega) (N - (t + 1)) (t + 1) J L _ (by omega) hJ (fun v la hv => by rw [e3] at hv; cases hv) (fun la x4 _ hJ' => ?_)
        rw [e3] at hJ' ⊢
        refine W162_14 (d := d + 6) ?_
        rw [← nI_succ]
        exact ih (t + 1) _ _ _ _ (by omega) hJ' hQ hk
      · have e : fw_2 14 N (n + 1) t J L = (some (t, u), J', L') := by rw [fw_2, e3]
        rw [e] at hQ
        exact lp3_X9_few_14 hK hN hst (by omega) (N - (t + 1)) (t + 1) J L _ (by omega) hJ (fun v la hv => by rw [e3] at hv ⊢; cases hv; exact hQ t u la rfl) (fun la x4 hv _ => by rw [e3] at hv; cases hv)
def q_fwok (rule what : Int32) : Prop := ¬ q_rule rule = 0 ∧ ¬ what < 0 ∧ what ≤ 2
theorem ct_X9_fewest_no_4 {d : Nat} {I : zx_I} {L : zx_L} {la : Option Nat} {rule what : Int32} (hno : ¬ q_fwok rule what) : zx_M0 mm_X9_fewest (d + 1) 0 0 [.ref 0, .int rule, .int what] zw_SC I L (zw_RC 4 14 la) (zw_ret (some (.int (-1))) zw_SC I L (zw_RC 4 14 la)) := by
  refine zv_entry gd_X9_fewest (Nat.le_of_ble_eq_true rfl) ?_
  refine zv_run 1 (pc' := 1) (lo' := [some (.ref 0), some (.int rule), some (.int what), none, none]) (st' := [.int rule]) (I' := I) (L' := L) (R' := zw_RC 4 14 la) rfl ?_
  refine zv_cS (M' := mm_X9_isRule) (av := [.int rule]) (st := []) (r := some (.int (q_rule rule))) (I' := I) (L' := L) (R' := zw_RC 4 14 la) rfl zc_9_152 gd_X9_isRule rfl (Nat.le_of_ble_eq_true rfl) (ct_X9_isRule (d := _)) ⟨Nat.le_refl _, Nat.le_refl _⟩ ?_
  refine zv_run 0 (pc' := 4) (lo' := [some (.ref 0), some (.int rule), some (.int what), none, none]) (st' := [.int (q_rule rule)]) (I' := I) (L' := L) (R' := zw_RC 4 14 la) rfl ?_
  refine zv_if_eq (tgt := 16) (zs_at rfl) (by decide) (fun c4 => ?_) (fun c4 => ?_)
  · have _c := c4
    refine zv_run 1 (pc' := 17) (lo' := [some (.ref 0), some (.int rule), some (.int what), none, none]) (st' := [.int (-1)]) (I' := I) (L' := L) (R' := zw_RC 4 14 la) rfl ?_
    exact zv_iret (zs_at rfl) rfl ⟨Nat.le_refl _, Nat.le_refl _⟩ (zw_to rfl rfl rfl rfl)
  · have _c := c4
    refine zv_run 1 (pc' := 8) (lo' := [some (.ref 0), some (.int rule), some (.int what), none, none]) (st' := [.int what]) (I' := I) (L' := L) (R' := zw_RC 4 14 la) rfl ?_
    refine zv_if_lt (tgt := 16) (zs_at rfl) (by decide) (fun c8 => ?_) (fun c8 => ?_)
    · have _c := c8
      refine zv_run 1 (pc' := 17) (lo' := [some (.ref 0), some (.int rule), some (.int what), none, none]) (st' := [.int (-1)]) (I' := I) (L' := L) (R' := zw_RC 4 14 la) rfl ?_
      exact zv_iret (zs_at rfl) rfl ⟨Nat.le_refl _, Nat.le_refl _⟩ (zw_to rfl rfl rfl rfl)
    · have _c := c8
      refine zv_run 2 (pc' := 13) (lo' := [some (.ref 0), some (.int rule), some (.int what), none, none]) (st' := [.int 2, .int what]) (I' := I) (L' := L) (R' := zw_RC 4 14 la) rfl ?_
      refine zv_icmp_le (tgt := 18) (zs_at rfl) (by decide) (fun c13 => ?_) (fun c13 => ?_)
      · have _c := c13
        exact absurd ⟨c4, c8, c13⟩ hno
      · have _c := c13
        refine zv_run 1 (pc' := 17) (lo' := [some (.ref 0), some (.int rule), some (.int what), none, none]) (st' := [.int (-1)]) (I' := I) (L' := L) (R' := zw_RC 4 14 la) rfl ?_
        exact zv_iret (zs_at rfl) rfl ⟨Nat.le_refl _, Nat.le_refl _⟩ (zw_to rfl rfl rfl rfl)
theorem ct_X9_fewest_no_14 {d : Nat} {I : zx_I} {L : zx_L} {la : Option Nat} {rule what : Int32} (hno : ¬ q_fwok rule what) : zx_M0 mm_X9_fewest (d + 1) 0 0 [.ref 0, .int rule, .int what] zw_SC I L (zw_RC 14 4 la) (zw_ret (some (.int (-1))) zw_SC I L (zw_RC 14 4 la)) := by
  refine zv_entry gd_X9_fewest (Nat.le_of_ble_eq_true rfl) ?_
  refine zv_run 1 (pc' := 1) (lo' := [some (.ref 0), some (.int rule), some (.int what), none, none]) (st' := [.int rule]) (I' := I) (L' := L) (R' := zw_RC 14 4 la) rfl ?_
  refine zv_cS (M' := mm_X9_isRule) (av := [.int rule]) (st := []) (r := some (.int (q_rule rule))) (I' := I) (L' := L) (R' := zw_RC 14 4 la) rfl zc_9_152 gd_X9_isRule rfl (Nat.le_of_ble_eq_true rfl) (ct_X9_isRule (d := _)) ⟨Nat.le_refl _, Nat.le_refl _⟩ ?_
  refine zv_run 0 (pc' := 4) (lo' := [some (.ref 0), some (.int rule), some (.int what), none, none]) (st' := [.int (q_rule rule)]) (I' := I) (L' := L) (R' := zw_RC 14 4 la) rfl ?_
  refine zv_if_eq (tgt := 16) (zs_at rfl) (by decide) (fun c4 => ?_) (fun c4 => ?_)
  · have _c := c4
    refine zv_run 1 (pc' := 17) (lo' := [some (.ref 0), some (.int rule), some (.int what), none, none]) (st' := [.int (-1)]) (I' := I) (L' := L) (R' := zw_RC 14 4 la) rfl ?_
    exact zv_iret (zs_at rfl) rfl ⟨Nat.le_refl _, Nat.le_refl _⟩ (zw_to rfl rfl rfl rfl)
  · have _c := c4
    refine zv_run 1 (pc' := 8) (lo' := [some (.ref 0), some (.int rule), some (.int what), none, none]) (st' := [.int what]) (I' := I) (L' := L) (R' := zw_RC 14 4 la) rfl ?_
    refine zv_if_lt (tgt := 16) (zs_at rfl) (by decide) (fun c8 => ?_) (fun c8 => ?_)
    · have _c := c8
      refine zv_run 1 (pc' := 17) (lo' := [some (.ref 0), some (.int rule), some (.int what), none, none]) (st' := [.int (-1)]) (I' := I) (L' := L) (R' := zw_RC 14 4 la) rfl ?_
      exact zv_iret (zs_at rfl) rfl ⟨Nat.le_refl _, Nat.le_refl _⟩ (zw_to rfl rfl rfl rfl)
    · have _c := c8
      refine zv_run 2 (pc' := 13) (lo' := [some (.ref 0), some (.int rule), some (.int what), none, none]) (st' := [.int 2, .int what]) (I' := I) (L' := L) (R' := zw_RC 14 4 la) rfl ?_
      refine zv_icmp_le (tgt := 18) (zs_at rfl) (by decide) (fun c13 => ?_) (fun c13 => ?_)
      · have _c := c13
        exact absurd ⟨c4, c8, c13⟩ hno
      · have _c := c13
        refine zv_run 1 (pc' := 17) (lo' := [some (.ref 0), some (.int rule), some (.int what), none, none]) (st' := [.int (-1)]) (I' := I) (L' := L) (R' := zw_RC 14 4 la) rfl ?_
        exact zv_iret (zs_at rfl) rfl ⟨Nat.le_refl _, Nat.le_refl _⟩ (zw_to rfl rfl rfl rfl)
theorem ct_X9_fewest_no {d : Nat} {I : zx_I} {L : zx_L} {h sp : Nat} {la : Option Nat} {rule what : Int32} (hh : hsp h sp) (hno : ¬ q_fwok rule what) : zx_M0 mm_X9_fewest (d + 1) 0 0 [.ref 0, .int rule, .int what] zw_SC I L (zw_RC h sp la) (zw_ret (some (.int (-1))) zw_SC I L (zw_RC h sp la)) := by
  rcases hh with ⟨rfl, rfl⟩ | ⟨rfl, rfl⟩
  · exact ct_X9_fewest_no_4 hno
  · exact ct_X9_fewest_no_14 hno
theorem W91_4 {d N : Nat} {rule what : Int32} {Q : zx_Qt} {J : zx_I} {L : zx_L} {la : Option Nat} {x4 : Option Value} (k : zx_V mm_X9_fewest d z0 Q zw_SC 93 [some (.ref 0), some (.int rule), some (.int what), some (.int (0)), x4] [] J L (zw_RC 4 14 la)) : zx_V mm_X9_fewest d z0 Q zw_SC 91 [some (.ref 0), some (.int rule), some (.int what), some (.int (nI N)), x4] [] J L (zw_RC 4 14 la) := by
  refine zv_run 2 (pc' := 93) (lo' := [some (.ref 0), some (.int rule), some (.int what), some (.int 0), x4]) (st' := []) (I' := J) (L' := L) (R' := zw_RC 4 14 la) rfl ?_
  exact k
theorem W91_14 {d N : Nat} {rule what : Int32} {Q : zx_Qt} {J : zx_I} {L : zx_L} {la : Option Nat} {x4 : Option Value} (k : zx_V mm_X9_fewest d z0 Q zw_SC 93 [some (.ref 0), some (.int rule), some (.int what), some (.int (0)), x4] [] J L (zw_RC 14 4 la)) : zx_V mm_X9_fewest d z0 Q zw_SC 91 [some (.ref 0), some (.int rule), some (.int what), some (.int (nI N)), x4] [] J L (zw_RC 14 4 la) := by
  refine zv_run 2 (pc' := 93) (lo' := [some (.ref 0), some (.int rule), some (.int what), some (.int 0), x4]) (st' := []) (I' := J) (L' := L) (R' := zw_RC 14 4 la) rfl ?_
  exact k
theorem ct_X9_fewest_4 {d : Nat} {I : zx_I} {L : zx_L} {la : Option Nat} {rule what : Int32} {K : zx_I → Prop} {N : Nat} (hok : q_fwok rule what) (hK : kr K 4) (hN : N ≤ 60) (hst : ∀ J, K J → J 4 12 = nI N) (hJ : K (q_ask I 4 rule)) : zx_M0 mm_X9_fewest (d + 6) 0 0 [.ref 0, .int rule, .int what] zw_SC I L (zw_RC 4 14 la) (zw_any (some (.int (q_few I L 4 N rule what).1)) (q_few I L 4 N rule what).2.1 (q_few I L 4 N rule what).2.2 4 14) := by
  refine zv_entry gd_X9_fewest (Nat.le_of_ble_eq_true rfl) ?_
  refine zv_run 1 (pc' := 1) (lo' := [some (.ref 0), some (.int rule), some (.int what), none, none]) (st' := [.int rule]) (I' := I) (L' := L) (R' := zw_RC 4 14 la) rfl ?_
  refine zv_cS (M' := mm_X9_isRule) (av := [.int rule]) (st := []) (r := some (.int (q_rule rule))) (I' := I) (L' := L) (R' := zw_RC 4 14 la) rfl zc_9_152 gd_X9_isRule rfl (Nat.le_of_ble_eq_true rfl) (ct_X9_isRule (d := _)) ⟨Nat.le_refl _, Nat.le_refl _⟩ ?_
  refine zv_run 0 (pc' := 4) (lo' := [some (.ref 0), some (.int rule), some (.int what), none, none]) (st' := [.int (q_rule rule)]) (I' := I) (L' := L) (R' := zw_RC 4 14 la) rfl ?_
  refine zv_if_eq (tgt := 16) (zs_at rfl) (by decide) (fun c4 => ?_) (fun c4 => ?_)
  · have _c := c4
    refine zv_run 1 (pc' := 17) (lo' := [some (.ref 0), some (.int rule), some (.int what), none, none]) (st' := [.int (-1)]) (I' := I) (L' := L) (R' := zw_RC 4 14 la) rfl ?_
    exact zv_iret (zs_at rfl) rfl ⟨Nat.le_refl _, Nat.le_refl _⟩ (absurd hok (fun q => by first | exact q.1 c4 | exact q.2.1 c8 | exact c13 q.2.2))
  · have _c := c4
    refine zv_run 1 (pc' := 8) (lo' := [some (.ref 0), some (.int rule), some (.int what), none, none]) (st' := [.int what]) (I' := I) (L' := L) (R' := zw_RC 4 14 la) rfl ?_
    refine zv_if_lt (tgt := 16) (zs_at rfl) (by decide) (fun c8 => ?_) (fun c8 => ?_)
    · have _c := c8
      refine zv_run 1 (pc' := 17) (lo' := [some (.ref 0), some (.int rule), some (.int what), none, none]) (st' := [.int (-1)]) (I' := I) (L' := L) (R' := zw_RC 4 14 la) rfl ?_
      exact zv_iret (zs_at rfl) rfl ⟨Nat.le_refl _, Nat.le_refl _⟩ (absurd hok (fun q => by first | exact q.1 c4 | exact q.2.1 c8 | exact c13 q.2.2))
    · have _c := c8
      refine zv_run 2 (pc' := 13) (lo' := [some (.ref 0), some (.int rule), some (.int what), none, none]) (st' := [.int 2, .int what]) (I' := I) (L' := L) (R' := zw_RC 4 14 la) rfl ?_
      refine zv_icmp_le (tgt := 18) (zs_at rfl) (by decide) (fun c13 => ?_) (fun c13 => ?_)
      · have _c := c13
        refine zv_run 2 (pc' := 20) (lo' := [some (.ref 0), some (.int rule), some (.int what), none, none]) (st' := [.int rule, .ref 0]) (I' := I) (L' := L) (R' := zw_RC 4 14 la) rfl ?_
        refine zv_cV (M' := mm_X9_ask) (ci := 9) (a := 0) (av := [.int rule]) (st := []) (r := none) (I' := (q_ask I 4 rule)) (L' := (q_L L)) (R' := zw_RC 4 14 la) rfl zc_9_156 gd_X9_ask rfl rfl rfl (Nat.le_of_ble_eq_true rfl) (ct_X9_ask_4 (d := _)) ⟨Nat.le_refl _, Nat.le_refl _⟩ ?_
        refine zv_run 0 (pc' := 23) (lo' := [some (.ref 0), some (.int rule), some (.int what), none, none]) (st' := []) (I' := (q_ask I 4 rule)) (L' := (q_L L)) (R' := zw_RC 4 14 la) rfl ?_
        refine zv_run 2 (pc' := 25) (lo' := [some (.ref 0), some (.int rule), some (.int what), none, none]) (st' := [.long (0 : Int64), .ref 0]) (I' := (q_ask I 4 rule)) (L' := (q_L L)) (R' := zw_RC 4 14 la) rfl ?_
        refine zv_cV (M' := mm_X9_nobodyLate) (ci := 9) (a := 0) (av := [.long (0 : Int64)]) (st := []) (r := some (.int (if fr_score (q_ask I 4 rule) (zx_uL (q_L L) 34 3 (0 : Int64)) 4 ≥ 100 then 0 else 1))) (I' := (fr_end (q_ask I 4 rule) (zx_uL (q_L L) 34 3 (0 : Int64)) 4).1) (L' := (zx_uL (q_L L) 34 3 (0 : Int64))) (R' := zw_RC 4 14 (fr_end (q_ask I 4 rule) (zx_uL (q_L L) 34 3 (0 : Int64)) 4).2) rfl zc_9_211 gd_X9_nobodyLate rfl rfl rfl (Nat.le_of_ble_eq_true rfl) (ct_X9_nobodyLate_4 (d := _) (hK _ _ hJ).1) ⟨Nat.le_refl _, Nat.le_refl _⟩ ?_
        refine zv_run 0 (pc' := 28) (lo' := [some (.ref 0), some (.int rule), some (.int what), none, none]) (st' := [.int (if fr_score (q_ask I 4 rule) (zx_uL (q_L L) 34 3 (0 : Int64)) 4 ≥ 100 then 0 else 1)]) (I' := (fr_end (q_ask I 4 rule) (zx_uL (q_L L) 34 3 (0 : Int64)) 4).1) (L' := (zx_uL (q_L L) 34 3 (0 : Int64))) (R' := zw_RC 4 14 (fr_end (q_ask I 4 rule) (zx_uL (q_L L) 34 3 (0 : Int64)) 4).2) rfl ?_
        refine zv_if_eq (tgt := 42) (zs_at rfl) (by decide) (fun c28 => ?_) (fun c28 => ?_)
        · have _c := c28
          refine zv_run 2 (pc' := 44) (lo' := [some (.ref 0), some (.int rule), some (.int what), some (.int 0), none]) (st' := []) (I' := (fr_end (q_ask I 4 rule) (zx_uL (q_L L) 34 3 (0 : Int64)) 4).1) (L' := (zx_uL (q_L L) 34 3 (0 : Int64))) (R' := zw_RC 4 14 (fr_end (q_ask I 4 rule) (zx_uL (q_L L) 34 3 (0 : Int64)) 4).2) rfl ?_
          have h1 : fr_score (q_ask I 4 rule) (zx_uL (q_L L) 34 3 0) 4 ≥ 100 := fw_c c28
          have hK1 := (hK _ (zx_uL (q_L L) 34 3 0) hJ).2
          rcases e1 : fw_1 4 N 0 (fr_end (q_ask I 4 rule) (zx_uL (q_L L) 34 3 0) 4).1 (zx_uL (q_L L) 34 3 0) with ⟨_ | t, J, L'⟩
          · rcases e2 : fw_2 4 N N 0 J L' with ⟨_ | ⟨t, u⟩, J', L''⟩
            · have e : q_few I L 4 N rule what = (-4, J', L'') := by unfold q_few; rw [if_pos h1, e1]; dsimp only; rw [e2]
              rw [e]
              refine lp1_X9_few_4 hK hN hst N 0 _ _ _ none (Nat.zero_add N) hK1 (fun u la hu => by rw [e1] at hu; cases hu) (fun la _ hJ' => ?_)
              rw [e1] at hJ' ⊢
              refine W91_4 (d := d + 6) ?_
              exact lp2_X9_few_4 hK hN hst N 0 _ _ _ none (Nat.zero_add N) hJ' (fun u v la hu => by rw [e2] at hu; cases hu) (fun la _ => by rw [e2]; exact zw_toa rfl rfl rfl)
            · have e : q_few I L 4 N rule what = (fw_v2 what t u, J', L'') := by unfold q_few; rw [if_pos h1, e1]; dsimp only; rw [e2]
              rw [e]
              refine lp1_X9_few_4 hK hN hst N 0 _ _ _ none (Nat.zero_add N) hK1 (fun u la hu => by rw [e1] at hu; cases hu) (fun la _ hJ' => ?_)
              rw [e1] at hJ' ⊢
              refine W91_4 (d := d + 6) ?_
              exact lp2_X9_few_4 hK hN hst N 0 _ _ _ none (Nat.zero_add N) hJ' (fun u1 v la hu => by rw [e2] at hu ⊢; cases hu; exact zw_toa rfl rfl rfl) (fun la hu => by rw [e2] at hu; cases hu)
          · have e : q_few I L 4 N rule what = (fw_v1 what t, J, L') := by unfold q_few; rw [if_pos h1, e1]
            rw [e]
            exact lp1_X9_few_4 hK hN hst N 0 _ _ _ none (Nat.zero_add N) hK1 (fun u la hu => by rw [e1] at hu ⊢; cases hu; exact zw_toa rfl rfl rfl) (fun la hu => by rw [e1] at hu; cases hu)
        · have _c := c28
          refine zv_run 1 (pc' := 32) (lo' := [some (.ref 0), some (.int rule), some (.int what), none, none]) (st' := [.int what]) (I' := (fr_end (q_ask I 4 rule) (zx_uL (q_L L) 34 3 (0 : Int64)) 4).1) (L' := (zx_uL (q_L L) 34 3 (0 : Int64))) (R' := zw_RC 4 14 (fr_end (q_ask I 4 rule) (zx_uL (q_L L) 34 3 (0 : Int64)) 4).2) rfl ?_
          refine zv_if_ne (tgt := 39) (zs_at rfl) (by decide) (fun c32 => ?_) (fun c32 => ?_)
          · have _c := c32
            refine zv_run 1 (pc' := 41) (lo' := [some (.ref 0), some (.int rule), some (.int what), none, none]) (st' := [.int (-4)]) (I' := (fr_end (q_ask I 4 rule) (zx_uL (q_L L) 34 3 (0 : Int64)) 4).1) (L' := (zx_uL (q_L L) 34 3 (0 : Int64))) (R' := zw_RC 4 14 (fr_end (q_ask I 4 rule) (zx_uL (q_L L) 34 3 (0 : Int64)) 4).2) rfl ?_
            exact zv_iret (zs_at rfl) rfl ⟨Nat.le_refl _, Nat.le_refl _⟩ (zw_toa (by rw [show q_few I L 4 N rule what = (if what ≠ 0 then -4 else 0, (fr_end (q_ask I 4 rule) (zx_uL (q_L L) 34 3 0) 4).1, zx_uL (q_L L) 34 3 0) from by unfold q_few; rw [if_neg (fw_b c28)]]; dsimp only; rw [if_pos c32]) (by rw [show q_few I L 4 N rule what = (if what ≠ 0 then -4 else 0, (fr_end (q_ask I 4 rule) (zx_uL (q_L L) 34 3 0) 4).1, zx_uL (q_L L) 34 3 0) from by unfold q_few; rw [if_neg (fw_b c28)]]) (by rw [show q_few I L 4 N rule what = (if what ≠ 0 then -4 else 0, (fr_end (q_ask I 4 rule) (zx_uL (q_L L) 34 3 0) 4).1, zx_uL (q_L L) 34 3 0) from by unfold q_few; rw [if_neg (fw_b c28)]]))
          · have _c := c32
            refine zv_run 2 (pc' := 41) (lo' := [some (.ref 0), some (.int rule), some (.int what), none, none]) (st' := [.int 0]) (I' := (fr_end (q_ask I 4 rule) (zx_uL (q_L L) 34 3 (0 : Int64)) 4).1) (L' := (zx_uL (q_L L) 34 3 (0 : Int64))) (R' := zw_RC 4 14 (fr_end (q_ask I 4 rule) (zx_uL (q_L L) 34 3 (0 : Int64)) 4).2) rfl ?_
            exact zv_iret (zs_at rfl) rfl ⟨Nat.le_refl _, Nat.le_refl _⟩ (zw_toa (by rw [show q_few I L 4 N rule what = (if what ≠ 0 then -4 else 0, (fr_end (q_ask I 4 rule) (zx_uL (q_L L) 34 3 0) 4).1, zx_uL (q_L L) 34 3 0) from by unfold q_few; rw [if_neg (fw_b c28)]]; dsimp only; rw [if_neg (fun q => q c32)]) (by rw [show q_few I L 4 N rule what = (if what ≠ 0 then -4 else 0, (fr_end (q_ask I 4 rule) (zx_uL (q_L L) 34 3 0) 4).1, zx_uL (q_L L) 34 3 0) from by unfold q_few; rw [if_neg (fw_b c28)]]) (by rw [show q_few I L 4 N rule what = (if what ≠ 0 then -4 else 0, (fr_end (q_ask I 4 rule) (zx_uL (q_L L) 34 3 0) 4).1, zx_uL (q_L L) 34 3 0) from by unfold q_few; rw [if_neg (fw_b c28)]]))
      · have _c := c13
        refine zv_run 1 (pc' := 17) (lo' := [some (.ref 0), some (.int rule), some (.int what), none, none]) (st' := [.int (-1)]) (I' := I) (L' := L) (R' := zw_RC 4 14 la) rfl ?_
        exact zv_iret (zs_at rfl) rfl ⟨Nat.le_refl _, Nat.le_refl _⟩ (absurd hok (fun q => by first | exact q.1 c4 | exact q.2.1 c8 | exact c13 q.2.2))
theorem ct_X9_fewest_14 {d : Nat} {I : zx_I} {L : zx_L} {la : Option Nat} {rule what : Int32} {K : zx_I → Prop} {N : Nat} (hok : q_fwok rule what) (hK : kr K 14) (hN : N ≤ 60) (hst : ∀ J, K J → J 14 12 = nI N) (hJ : K (q_ask I 14 rule)) : zx_M0 mm_X9_fewest (d + 6) 0 0 [.ref 0, .int rule, .int what] zw_SC I L (zw_RC 14 4 la) (zw_any (some (.int (q_few I L 14 N rule what).1)) (q_few I L 14 N rule what).2.1 (q_few I L 14 N rule what).2.2 14 4) := by
  refine zv_entry gd_X9_fewest (Nat.le_of_ble_eq_true rfl) ?_
  refine zv_run 1 (pc' := 1) (lo' := [some (.ref 0), some (.int rule), some (.int what), none, none]) (st' := [.int rule]) (I' := I) (L' := L) (R' := zw_RC 14 4 la) rfl ?_
  refine zv_cS (M' := mm_X9_isRule) (av := [.int rule]) (st := []) (r := some (.int (q_rule rule))) (I' := I) (L' := L) (R' := zw_RC 14 4 la) rfl zc_9_152 gd_X9_isRule rfl (Nat.le_of_ble_eq_true rfl) (ct_X9_isRule (d := _)) ⟨Nat.le_refl _, Nat.le_refl _⟩ ?_
  refine zv_run 0 (pc' := 4) (lo' := [some (.ref 0), some (.int rule), some (.int what), none, none]) (st' := [.int (q_rule rule)]) (I' := I) (L' := L) (R' := zw_RC 14 4 la) rfl ?_
  refine zv_if_eq (tgt := 16) (zs_at rfl) (by decide) (fun c4 => ?_) (fun c4 => ?_)
  · have _c := c4
    refine zv_run 1 (pc' := 17) (lo' := [some (.ref 0), some (.int rule), some (.int what), none, none]) (st' := [.int (-1)]) (I' := I) (L' := L) (R' := zw_RC 14 4 la) rfl ?_
    exact zv_iret (zs_at rfl) rfl ⟨Nat.le_refl _, Nat.le_refl _⟩ (absurd hok (fun q => by first | exact q.1 c4 | exact q.2.1 c8 | exact c13 q.2.2))
  · have _c := c4
    refine zv_run 1 (pc' := 8) (lo' := [some (.ref 0), some (.int rule), some (.int what), none, none]) (st' := [.int what]) (I' := I) (L' := L) (R' := zw_RC 14 4 la) rfl ?_
    refine zv_if_lt (tgt := 16) (zs_at rfl) (by decide) (fun c8 => ?_) (fun c8 => ?_)
    · have _c := c8
      refine zv_run 1 (pc' := 17) (lo' := [some (.ref 0), some (.int rule), some (.int what), none, none]) (st' := [.int (-1)]) (I' := I) (L' := L) (R' := zw_RC 14 4 la) rfl ?_
      exact zv_iret (zs_at rfl) rfl ⟨Nat.le_refl _, Nat.le_refl _⟩ (absurd hok (fun q => by first | exact q.1 c4 | exact q.2.1 c8 | exact c13 q.2.2))
    · have _c := c8
      refine zv_run 2 (pc' := 13) (lo' := [some (.ref 0), some (.int rule), some (.int what), none, none]) (st' := [.int 2, .int what]) (I' := I) (L' := L) (R' := zw_RC 14 4 la) rfl ?_
      refine zv_icmp_le (tgt := 18) (zs_at rfl) (by decide) (fun c13 => ?_) (fun c13 => ?_)
      · have _c := c13
        refine zv_run 2 (pc' := 20) (lo' := [some (.ref 0), some (.int rule), some (.int what), none, none]) (st' := [.int rule, .ref 0]) (I' := I) (L' := L) (R' := zw_RC 14 4 la) rfl ?_
        refine zv_cV (M' := mm_X9_ask) (ci := 9) (a := 0) (av := [.int rule]) (st := []) (r := none) (I' := (q_ask I 14 rule)) (L' := (q_L L)) (R' := zw_RC 14 4 la) rfl zc_9_156 gd_X9_ask rfl rfl rfl (Nat.le_of_ble_eq_true rfl) (ct_X9_ask_14 (d := _)) ⟨Nat.le_refl _, Nat.le_refl _⟩ ?_
        refine zv_run 0 (pc' := 23) (lo' := [some (.ref 0), some (.int rule), some (.int what), none, none]) (st' := []) (I' := (q_ask I 14 rule)) (L' := (q_L L)) (R' := zw_RC 14 4 la) rfl ?_
        refine zv_run 2 (pc' := 25) (lo' := [some (.ref 0), some (.int rule), some (.int what), none, none]) (st' := [.long (0 : Int64), .ref 0]) (I' := (q_ask I 14 rule)) (L' := (q_L L)) (R' := zw_RC 14 4 la) rfl ?_
        refine zv_cV (M' := mm_X9_nobodyLate) (ci := 9) (a := 0) (av := [.long (0 : Int64)]) (st := []) (r := some (.int (if fr_score (q_ask I 14 rule) (zx_uL (q_L L) 34 3 (0 : Int64)) 14 ≥ 100 then 0 else 1))) (I' := (fr_end (q_ask I 14 rule) (zx_uL (q_L L) 34 3 (0 : Int64)) 14).1) (L' := (zx_uL (q_L L) 34 3 (0 : Int64))) (R' := zw_RC 14 4 (fr_end (q_ask I 14 rule) (zx_uL (q_L L) 34 3 (0 : Int64)) 14).2) rfl zc_9_211 gd_X9_nobodyLate rfl rfl rfl (Nat.le_of_ble_eq_true rfl) (ct_X9_nobodyLate_14 (d := _) (hK _ _ hJ).1) ⟨Nat.le_refl _, Nat.le_refl _⟩ ?_
        refine zv_run 0 (pc' := 28) (lo' := [some (.ref 0), some (.int rule), some (.int what), none, none]) (st' := [.int (if fr_score (q_ask I 14 rule) (zx_uL (q_L L) 34 3 (0 : Int64)) 14 ≥ 100 then 0 else 1)]) (I' := (fr_end (q_ask I 14 rule) (zx_uL (q_L L) 34 3 (0 : Int64)) 14).1) (L' := (zx_uL (q_L L) 34 3 (0 : Int64))) (R' := zw_RC 14 4 (fr_end (q_ask I 14 rule) (zx_uL (q_L L) 34 3 (0 : Int64)) 14).2) rfl ?_
        refine zv_if_eq (tgt := 42) (zs_at rfl) (by decide) (fun c28 => ?_) (fun c28 => ?_)
        · have _c := c28
          refine zv_run 2 (pc' := 44) (lo' := [some (.ref 0), some (.int rule), some (.int what), some (.int 0), none]) (st' := []) (I' := (fr_end (q_ask I 14 rule) (zx_uL (q_L L) 34 3 (0 : Int64)) 14).1) (L' := (zx_uL (q_L L) 34 3 (0 : Int64))) (R' := zw_RC 14 4 (fr_end (q_ask I 14 rule) (zx_uL (q_L L) 34 3 (0 : Int64)) 14).2) rfl ?_
          have h1 : fr_score (q_ask I 14 rule) (zx_uL (q_L L) 34 3 0) 14 ≥ 100 := fw_c c28
          have hK1 := (hK _ (zx_uL (q_L L) 34 3 0) hJ).2
          rcases e1 : fw_1 14 N 0 (fr_end (q_ask I 14 rule) (zx_uL (q_L L) 34 3 0) 14).1 (zx_uL (q_L L) 34 3 0) with ⟨_ | t, J, L'⟩
          · rcases e2 : fw_2 14 N N 0 J L' with ⟨_ | ⟨t, u⟩, J', L''⟩
            · have e : q_few I L 14 N rule what = (-4, J', L'') := by unfold q_few; rw [if_pos h1, e1]; dsimp only; rw [e2]
              rw [e]
              refine lp1_X9_few_14 hK hN hst N 0 _ _ _ none (Nat.zero_add N) hK1 (fun u la hu => by rw [e1] at hu; cases hu) (fun la _ hJ' => ?_)
              rw [e1] at hJ' ⊢
              refine W91_14 (d := d + 6) ?_
              exact lp2_X9_few_14 hK hN hst N 0 _ _ _ none (Nat.zero_add N) hJ' (fun u v la hu => by rw [e2] at hu; cases hu) (fun la _ => by rw [e2]; exact zw_toa rfl rfl rfl)
            · have e : q_few I L 14 N rule what = (fw_v2 what t u, J', L'') := by unfold q_few; rw [if_pos h1, e1]; dsimp only; rw [e2]
              rw [e]
              refine lp1_X9_few_14 hK hN hst N 0 _ _ _ none (Nat.zero_add N) hK1 (fun u la hu => by rw [e1] at hu; cases hu) (fun la _ hJ' => ?_)
              rw [e1] at hJ' ⊢
              refine W91_14 (d := d + 6) ?_
              exact lp2_X9_few_14 hK hN hst N 0 _ _ _ none (Nat.zero_add N) hJ' (fun u1 v la hu => by rw [e2] at hu ⊢; cases hu; exact zw_toa rfl rfl rfl) (fun la hu => by rw [e2] at hu; cases hu)
          · have e : q_few I L 14 N rule what = (fw_v1 what t, J, L') := by unfold q_few; rw [if_pos h1, e1]
            rw [e]
            exact lp1_X9_few_14 hK hN hst N 0 _ _ _ none (Nat.zero_add N) hK1 (fun u la hu => by rw [e1] at hu ⊢; cases hu; exact zw_toa rfl rfl rfl) (fun la hu => by rw [e1] at hu; cases hu)
        · have _c := c28
          refine zv_run 1 (pc' := 32) (lo' := [some (.ref 0), some (.int rule), some (.int what), none, none]) (st' := [.int what]) (I' := (fr_end (q_ask I 14 rule) (zx_uL (q_L L) 34 3 (0 : Int64)) 14).1) (L' := (zx_uL (q_L L) 34 3 (0 : Int64))) (R' := zw_RC 14 4 (fr_end (q_ask I 14 rule) (zx_uL (q_L L) 34 3 (0 : Int64)) 14).2) rfl ?_
          refine zv_if_ne (tgt := 39) (zs_at rfl) (by decide) (fun c32 => ?_) (fun c32 => ?_)
          · have _c := c32
            refine zv_run 1 (pc' := 41) (lo' := [some (.ref 0), some (.int rule), some (.int what), none, none]) (st' := [.int (-4)]) (I' := (fr_end (q_ask I 14 rule) (zx_uL (q_L L) 34 3 (0 : Int64)) 14).1) (L' := (zx_uL (q_L L) 34 3 (0 : Int64))) (R' := zw_RC 14 4 (fr_end (q_ask I 14 rule) (zx_uL (q_L L) 34 3 (0 : Int64)) 14).2) rfl ?_
            exact zv_iret (zs_at rfl) rfl ⟨Nat.le_refl _, Nat.le_refl _⟩ (zw_toa (by rw [show q_few I L 14 N rule what = (if what ≠ 0 then -4 else 0, (fr_end (q_ask I 14 rule) (zx_uL (q_L L) 34 3 0) 14).1, zx_uL (q_L L) 34 3 0) from by unfold q_few; rw [if_neg (fw_b c28)]]; dsimp only; rw [if_pos c32]) (by rw [show q_few I L 14 N rule what = (if what ≠ 0 then -4 else 0, (fr_end (q_ask I 14 rule) (zx_uL (q_L L) 34 3 0) 14).1, zx_uL (q_L L) 34 3 0) from by unfold q_few; rw [if_neg (fw_b c28)]]) (by rw [show q_few I L 14 N rule what = (if what ≠ 0 then -4 else 0, (fr_end (q_ask I 14 rule) (zx_uL (q_L L) 34 3 0) 14).1, zx_uL (q_L L) 34 3 0) from by unfold q_few; rw [if_neg (fw_b c28)]]))
          · have _c := c32
            refine zv_run 2 (pc' := 41) (lo' := [some (.ref 0), some (.int rule), some (.int what), none, none]) (st' := [.int 0]) (I' := (fr_end (q_ask I 14 rule) (zx_uL (q_L L) 34 3 (0 : Int64)) 14).1) (L' := (zx_uL (q_L L) 34 3 (0 : Int64))) (R' := zw_RC 14 4 (fr_end (q_ask I 14 rule) (zx_uL (q_L L) 34 3 (0 : Int64)) 14).2) rfl ?_
            exact zv_iret (zs_at rfl) rfl ⟨Nat.le_refl _, Nat.le_refl _⟩ (zw_toa (by rw [show q_few I L 14 N rule what = (if what ≠ 0 then -4 else 0, (fr_end (q_ask I 14 rule) (zx_uL (q_L L) 34 3 0) 14).1, zx_uL (q_L L) 34 3 0) from by unfold q_few; rw [if_neg (fw_b c28)]]; dsimp only; rw [if_neg (fun q => q c32)]) (by rw [show q_few I L 14 N rule what = (if what ≠ 0 then -4 else 0, (fr_end (q_ask I 14 rule) (zx_uL (q_L L) 34 3 0) 14).1, zx_uL (q_L L) 34 3 0) from by unfold q_few; rw [if_neg (fw_b c28)]]) (by rw [show q_few I L 14 N rule what = (if what ≠ 0 then -4 else 0, (fr_end (q_ask I 14 rule) (zx_uL (q_L L) 34 3 0) 14).1, zx_uL (q_L L) 34 3 0) from by unfold q_few; rw [if_neg (fw_b c28)]]))
      · have _c := c13
        refine zv_run 1 (pc' := 17) (lo' := [some (.ref 0), some (.int rule), some (.int what), none, none]) (st' := [.int (-1)]) (I' := I) (L' := L) (R' := zw_RC 14 4 la) rfl ?_
        exact zv_iret (zs_at rfl) rfl ⟨Nat.le_refl _, Nat.le_refl _⟩ (absurd hok (fun q => by first | exact q.1 c4 | exact q.2.1 c8 | exact c13 q.2.2))
theorem ct_X9_fewest {d : Nat} {I : zx_I} {L : zx_L} {h sp : Nat} {la : Option Nat} {rule what : Int32} {K : zx_I → Prop} {N : Nat} (hh : hsp h sp) (hok : q_fwok rule what) (hK : kr K h) (hN : N ≤ 60) (hst : ∀ J, K J → J h 12 = nI N) (hJ : K (q_ask I h rule)) : zx_M0 mm_X9_fewest (d + 6) 0 0 [.ref 0, .int rule, .int what] zw_SC I L (zw_RC h sp la) (zw_any (some (.int (q_few I L h N rule what).1)) (q_few I L h N rule what).2.1 (q_few I L h N rule what).2.2 h sp) := by
  rcases hh with ⟨rfl, rfl⟩ | ⟨rfl, rfl⟩
  · exact ct_X9_fewest_4 hok hK hN hst hJ
  · exact ct_X9_fewest_14 hok hK hN hst hJ
