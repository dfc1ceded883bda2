/-! a bath of the class and of the model -/
def tkC (I : zx_I) (m p c : Nat) (u : Nat → Nat) : Prop := I 37 1 = nI m ∧ I 37 2 = nI p ∧ I 37 3 = nI c ∧ 1 ≤ m ∧ m ≤ 6 ∧ 1 ≤ p ∧ p ≤ 60 ∧ c ≤ 40 ∧ ∀ i, i < m → I 38 i = nI (u i) ∧ u i ≤ 700000 ∧ c * p ≤ u i
theorem tkC_ok {I : zx_I} {m p c : Nat} {u : Nat → Nat} (h : tkC I m p c u) : tk_ok I := by
  obtain ⟨h0, h1, h2, a1, a2, a3, a4, -⟩ := h
  unfold tk_ok
  rw [h0, h1, nI_toInt (by omega), nI_toInt (by omega)]
  omega
def b_ok (u : Nat → Nat) (c p v lo k0 h : Nat) : Prop := lo * v ≤ 100 * k0 + c * (v - k0 - h) + ttop u p h
def b_heat (u : Nat → Nat) (c p v k0 h : Nat) : Nat := (ttop u p h + 100 * k0 + c * (v - k0 - h)) / v
theorem ut_N {I : zx_I} {u : Nat → Nat} {m : Nat} (hu : ∀ i, i < m → I 38 i = nI (u i)) : ∀ k, k ≤ m → ut_sum (I 38) k = nI (tsum u k) := by
  intro k
  induction k with
  | zero =>
    intro _
    rfl
  | succ k ih =>
    intro hk
    rw [ut_sum, ih (by omega), hu k (by omega), nI_add, tsum_s]
theorem top_C {I : zx_I} {m p c h : Nat} {u : Nat → Nat} (hT : tkC I m p c u) (hh : h ≤ m * p) : ft_topc I (nI h) = nI (ttop u p h) := by
  obtain ⟨h0, h1, h2, hm1, hm, hp1, hp, hc, hu⟩ := hT
  have hmp : m * p ≤ 6 * 60 := Nat.mul_le_mul hm hp
  have hk : h / p ≤ m := Nat.div_le_of_le_mul (by rw [Nat.mul_comm]; exact hh)
  have hr : h % p < p := Nat.mod_lt _ hp1
  unfold ft_topc ft_top
  rw [h0, h1, pk_rem (by omega) hp1 (by omega), pk_div (by omega) hp1 (by omega), nI_clamp (by omega), nI_clamp (by omega), ut_N (fun i hi => (hu i hi).1) _ hk]
  by_cases q : h / p < m
  · have hb : u (h / p) * (h % p) < 2 ^ 31 := Nat.lt_of_le_of_lt (Nat.mul_le_mul (hu _ q).2.1 (show h % p ≤ 60 by omega)) (by decide)
    rw [if_pos q, (hu _ q).1, pk_mul, pk_div hb hp1 (by omega), nI_add]
    rfl
  · rw [if_neg q]
    have e : h / p = m := by omega
    have hs : h = h / p * p + h % p := hsplit
    rw [e] at hs
    unfold ttop
    rw [show h % p = 0 by omega, Nat.mul_zero, Nat.zero_div, Nat.add_zero]
theorem nI_sub_npos {a b : Nat} (hb : b < 2 ^ 30) (h : a ≤ b) : ¬ (0 : Int32) < nI a - nI b := by
  rw [Int32.lt_iff_toInt_lt, pk_sub_toInt (by omega) hb]
  have : (0 : Int32).toInt = 0 := rfl
  omega
theorem b_gain {u : Nat → Nat} {c p m v k0 h : Nat} {w : Nat → Nat} (hp : 1 ≤ p) (hu : ∀ i, i < m → u i = w i + c * p) (hk : h ≤ v - k0) (hh : h ≤ m * p) : 100 * k0 + c * (v - k0 - h) + ttop u p h = 100 * k0 + c * (v - k0) + ttop w p h := by
  rw [ttop_gain hp hu hh, show c * (v - k0) = c * (v - k0 - h) + c * h by rw [← Nat.mul_add]; congr 1; omega]
  omega
theorem fc_spec {I : zx_I} {ww m p c v lo g0 : Nat} {u : Nat → Nat} (hT : tkC I m p c u) (h1 : I ww 1 = nI v) (h2 : I ww 2 = nI lo) (hv1 : 1 ≤ v) (hv : v ≤ 99) (hlo : lo ≤ 99) (hg : g0 ≤ 30) {k0 : Nat} (hk0 : k0 = if v < g0 then 0 else g0) :
    fc_k I ww (nI g0) = nI k0 ∧ k0 ≤ v ∧ ((fc_p I ww (nI g0) = -4 ∧ ∀ h, h ≤ v - k0 → h ≤ m * p → ¬ b_ok u c p v lo k0 h) ∨ ∃ h0, fc_p I ww (nI g0) = nI h0 ∧ h0 ≤ v - k0 ∧ h0 ≤ m * p ∧ b_ok u c p v lo k0 h0 ∧ (∀ h, h < h0 → ¬ b_ok u c p v lo k0 h) ∧ fc_h I ww (nI g0) = nI (b_heat u c p v k0 h0)) := by
  have hT' := hT
  obtain ⟨t0, t1, t2, hm1, hm, hp1, hp, hc, hu⟩ := hT
  have hmp : m * p ≤ 6 * 60 := Nat.mul_le_mul hm hp
  have ek : fc_k I ww (nI g0) = nI k0 := by
    unfold fc_k
    rw [h1, hk0]
    by_cases q : v < g0
    · rw [if_pos (by exact nI_lt q (by omega)), if_pos q]
      rfl
    · rw [if_neg (by exact nI_nlt (by omega) (by omega)), if_neg q]
  have hkv : k0 ≤ v := by
    rw [hk0]
    split <;> omega
  have hcv : c * (v - k0) ≤ 40 * 99 := Nat.mul_le_mul hc (by omega)
  have hk30 : k0 ≤ 30 := by
    rw [hk0]
    split <;> omega
  have end_ : fc_nd I ww (nI g0) = nI (100 * k0 + c * (v - k0)) := by
    unfold fc_nd
    rw [ek, h1, t2, pk_sub hkv, show (100 : Int32) = nI 100 from rfl, pk_mul, pk_mul, nI_add]
  -- warm units
  have hw : ∀ i, i < m → u i = (u i - c * p) + c * p := fun i hi => by have := (hu i hi).2.2; omega
  refine ⟨ek, hkv, ?_⟩
  have hlov : lo * v ≤ 99 * 99 := Nat.mul_le_mul hlo hv
  have heat : ∀ h0, h0 ≤ v - k0 → h0 ≤ m * p → fc_p I ww (nI g0) = nI h0 → fc_h I ww (nI g0) = nI (b_heat u c p v k0 h0) := by
    intro h0 a1 a2 e
    unfold fc_h
    rw [e, end_, top_C hT' a2, t2, h1, nI_add, pk_mul]
    have hg := b_gain (w := fun i => u i - c * p) (v := v) (k0 := k0) hp1 hw a1 a2
    have htl := ttop_le (u := u) hp1 a2 hm (fun i hi => (hu i hi).2.1)
    have e2 : c * (v - k0) = c * (v - k0 - h0) + c * h0 := by
      rw [← Nat.mul_add]
      congr 1
      omega
    rw [pk_sub (by omega), pk_div (by omega) (by omega) (by omega)]
    unfold b_heat
    congr 2
    omega
  have ep : fc_p I ww (nI g0) = if 100 * k0 + c * (v - k0) < lo * v then pf_loop (I 38) (nI p) (nI c) (nI (v - k0)) m 0 (nI (lo * v - (100 * k0 + c * (v - k0)))) else 0 := by
    unfold fc_p ft_pints
    rw [end_, ek, h1, h2, t0, t1, t2, pk_sub hkv, pk_mul, nI_toInt (by omega)]
    by_cases q : 100 * k0 + c * (v - k0) < lo * v
    · rw [if_pos q, pk_sub (by omega), if_pos (by exact nI_lt (a := 0) (by omega) (by omega))]
      rfl
    · rw [if_neg q, if_neg (nI_sub_npos (by omega) (by omega))]
  by_cases q : 100 * k0 + c * (v - k0) < lo * v
  · rw [if_pos q] at ep
    have hs := pf_spec (U := I 38) (u := u) (w := fun i => u i - c * p) (most := v - k0) (more := lo * v - (100 * k0 + c * (v - k0))) hp1 hp hm (by omega) (by omega) (fun i hi => ⟨(hu i hi).1, (hu i hi).2.1, hw i hi⟩) hc m 0 (lo * v - (100 * k0 + c * (v - k0))) (Nat.zero_add m) (by omega) (by simp [tsum, gsum])
    rw [← ep] at hs
    rcases hs with ⟨e, hs⟩ | ⟨h0, e, a1, a2, a3, a4⟩
    · refine Or.inl ⟨e, fun h b1 b2 => ?_⟩
      unfold b_ok
      rw [b_gain (w := fun i => u i - c * p) hp1 hw b1 b2]
      have := hs h (by omega) b1 b2
      omega
    · refine Or.inr ⟨h0, e, a1, a2, ?_, fun h b1 => ?_, heat h0 a1 a2 e⟩
      · unfold b_ok
        rw [b_gain (w := fun i => u i - c * p) hp1 hw a1 a2]
        omega
      · unfold b_ok
        rw [b_gain (w := fun i => u i - c * p) hp1 hw (by omega) (by omega)]
        have := a4 h (by omega) b1
        omega
  · rw [if_neg q] at ep
    refine Or.inr ⟨0, ep, Nat.zero_le _, Nat.zero_le _, ?_, fun h b1 => absurd b1 (Nat.not_lt_zero h), heat 0 (Nat.zero_le _) (Nat.zero_le _) ep⟩
    unfold b_ok
    rw [b_gain (w := fun i => u i - c * p) hp1 hw (Nat.zero_le _) (Nat.zero_le _)]
    omega
/-- without harm -/
theorem fc_harm {I : zx_I} {ww m p c v lo g0 : Nat} {u : Nat → Nat} (hT : tkC I m p c u) (h1 : I ww 1 = nI v) (h2 : I ww 2 = nI lo) (hv1 : 1 ≤ v) (hv : v ≤ 99) (hlo : lo ≤ 99) (hg : g0 ≤ 30) : (¬ fc_p I ww (nI g0) = -4 → ¬ fc_p I ww (nI g0) / I 37 2 < 0) ∧ (¬ fc_p I ww (nI g0) = -4 → fc_p I ww (nI g0) / I 37 2 ≤ I 37 1) := by
  have hmp : m * p ≤ 6 * 60 := Nat.mul_le_mul hT.2.2.2.2.1 hT.2.2.2.2.2.2.1
  have hp1 := hT.2.2.2.2.2.1
  have hp := hT.2.2.2.2.2.2.1
  obtain ⟨-, hk, hs⟩ := fc_spec hT h1 h2 hv1 hv hlo hg rfl
  rcases hs with ⟨e, -⟩ | ⟨h0, e, a1, a2, -⟩
  · exact ⟨fun q => absurd e q, fun q => absurd e q⟩
  · rw [e, hT.1, hT.2.1, pk_div (by omega) (by omega) (by omega)]
    have : h0 / p ≤ m := Nat.div_le_of_le_mul (by rw [Nat.mul_comm]; exact a2)
    have hm := hT.2.2.2.2.1
    exact ⟨fun _ => nI_pos (by omega), fun _ => nI_le this (by omega)⟩
theorem mf_of_ok {J : zx_I} {i w : Nat} (hi : i < 6) (hw : w < 8) : mf_of (nI i) (nI w) J = some (J 3 (17 + 8 * i + w)) := by
  unfold mf_of
  rw [show (17 : Int32) = nI 17 from rfl, show (8 : Int32) = nI 8 from rfl, pk_mul, nI_add, nI_add, mo_g1 (mo_inN (by omega) (by decide)), nI_clamp (by omega)]
theorem hb_loop {n : Nat} {J : zx_I} {i m p c v lo hi k0 most : Nat} {u : Nat → Nat} {K : Option (Int32 × zx_I)} (hn : 7 ≤ n) (hT : tkN J m p c u) (h6 : i < 6) (e2 : J 3 (17 + 8 * i + 1) = nI lo) (e3 : J 3 (17 + 8 * i + 2) = nI hi) (hv1 : 1 ≤ v) (hv : v ≤ 99) (hlo : lo ≤ 99) (hk30 : k0 ≤ 30) (hkv : k0 ≤ v) (hmost : most ≤ v - k0) (hmost2 : most ≤ m * p) (hhi : hi ≤ 99) :
    ∀ (d h k : Nat), h + d = most + 1 → d < k →
      ((∀ q, h ≤ q → q ≤ most → ¬ b_ok u c p v lo k0 q) → mf_hasBath_62 n (nI i) (nI v) (nI k0) (nI most) J K k (nI h) = K) ∧
      (∀ h0, h ≤ h0 → h0 ≤ most → b_ok u c p v lo k0 h0 → (∀ q, h ≤ q → q < h0 → ¬ b_ok u c p v lo k0 q) → mf_hasBath_62 n (nI i) (nI v) (nI k0) (nI most) J K k (nI h) = some (if hi < b_heat u c p v k0 h0 then 0 else 1, zx_uI (zx_uI J 0 31 (nI h0)) 0 32 (nI (b_heat u c p v k0 h0)))) := by
  have hp1 := hT.2.2.2.2.2.1
  have hm := hT.2.2.2.2.1
  have hc := hT.2.2.2.2.2.2.2.1
  intro d
  induction d with
  | zero =>
    intro h k hd hk
    obtain ⟨k, rfl⟩ : ∃ k9, k = k9 + 1 := ⟨k - 1, by omega⟩
    refine ⟨fun _ => ?_, fun h0 a1 a2 => by omega⟩
    show mf_hasBath_62_b _ _ _ _ _ _ _ _ _ = _
    unfold mf_hasBath_62_b
    rw [if_pos (nI_lt (by omega) (by omega))]
  | succ d ih =>
    intro h k hd hk
    obtain ⟨k, rfl⟩ : ∃ k9, k = k9 + 1 := ⟨k - 1, by omega⟩
    have hch : c * (v - k0 - h) ≤ 40 * 99 := Nat.mul_le_mul hc (by omega)
    have htl := ttop_le (u := u) (h := h) hp1 (by omega) hm (fun i hi => (hT.2.2.2.2.2.2.2.2 i hi).2.1)
    have ed : (nI (ttop u p h) + 100 * nI k0 + J 3 2 * (nI v - nI k0 - nI h)) / nI v = nI (b_heat u c p v k0 h) := by
      rw [hT.2.2.1, pk_sub hkv, pk_sub (by omega), show (100 : Int32) = nI 100 from rfl, pk_mul, pk_mul, nI_add, nI_add, pk_div (by omega) hv1 (by omega)]
      rfl
    have hbl : b_heat u c p v k0 h < 2 ^ 31 := Nat.lt_of_le_of_lt (Nat.div_le_self _ _) (by omega)
    have hiff : b_heat u c p v k0 h < lo ↔ ¬ b_ok u c p v lo k0 h := by
      unfold b_heat b_ok
      rw [Nat.div_lt_iff_lt_mul hv1]
      omega
    have body : mf_hasBath_62 n (nI i) (nI v) (nI k0) (nI most) J K (k + 1) (nI h) = if b_heat u c p v k0 h < lo then mf_hasBath_62 n (nI i) (nI v) (nI k0) (nI most) J K k (nI (h + 1)) else some (if hi < b_heat u c p v k0 h then 0 else 1, zx_uI (zx_uI J 0 31 (nI h)) 0 32 (nI (b_heat u c p v k0 h))) := by
      show mf_hasBath_62_b _ _ _ _ _ _ _ _ _ = _
      unfold mf_hasBath_62_b
      rw [if_neg (nI_nlt (by omega) (by omega)), un_top hn hT (by omega), Option.bind_some, mo_g1 (mo_nzN hv1 (by omega)), show (1 : Int32) = nI 1 from rfl, mf_of_ok h6 (by decide), Option.bind_some, ed, e2, nI_add]
      by_cases q : b_heat u c p v k0 h < lo
      · rw [if_pos (nI_lt q (by omega)), if_pos q]
      · rw [if_neg (nI_nlt (by omega) (by omega)), if_neg q, show (2 : Int32) = nI 2 from rfl, mf_of_ok h6 (by decide), Option.bind_some, show (zx_uI (zx_uI J 0 31 (nI h)) 0 32 (nI (b_heat u c p v k0 h))) 3 (17 + 8 * i + 2) = J 3 (17 + 8 * i + 2) by simp [zx_uI], e3]
        by_cases q2 : hi < b_heat u c p v k0 h
        · rw [if_pos (nI_lt q2 hbl), if_pos q2]
        · rw [if_neg (nI_nlt (by omega) (by omega)), if_neg q2]
    obtain ⟨i1, i2⟩ := ih (h + 1) k (by omega) (by omega)
    refine ⟨fun hno => ?_, fun h0 a1 a2 a3 a4 => ?_⟩
    · rw [body, if_pos (hiff.mpr (hno h (Nat.le_refl _) (by omega)))]
      exact i1 (fun q q1 q2 => hno q (by omega) q2)
    · rw [body]
      rcases Nat.lt_or_ge h h0 with q | q
      · rw [if_pos (hiff.mpr (a4 h (Nat.le_refl _) q))]
        exact i2 h0 (by omega) a2 a3 (fun q9 q1 q2 => a4 q9 (by omega) q2)
      · have : h0 = h := by omega
        subst this
        rw [if_neg (fun q9 => (hiff.mp q9) a3)]
theorem nI_ne4 {h : Nat} (hh : h < 2 ^ 31) : ¬ nI h = -4 := by
  intro q
  have := congrArg Int32.toInt q
  rw [nI_toInt hh] at this
  have e : (-4 : Int32).toInt = -4 := rfl
  omega
/-- the bath of a bather, in the class and in the model -/
theorem hb_spec {n : Nat} {I J : zx_I} {i ww m p c v lo hi kt : Nat} {b : Int32} {u : Nat → Nat} (hn : 200 ≤ n) (hTC : tkC I m p c u) (hT : tkN J m p c u) (h6 : i < 6) (r1 : J 3 (17 + 8 * i + 0) = I ww 1) (r2 : J 3 (17 + 8 * i + 1) = I ww 2) (r3 : J 3 (17 + 8 * i + 2) = I ww 3) (h1 : I ww 1 = nI v) (h2 : I ww 2 = nI lo) (h3 : I ww 3 = nI hi) (hv1 : 1 ≤ v) (hv : v ≤ 99) (hlo : lo ≤ 99) (hhi : hi ≤ 99) (hkt : J 3 13 = nI kt) (hkt30 : kt ≤ 30) {g : Int32} (hg : g = if b = 0 then 0 else nI kt) :
    mf_hasBath n (nI i) b J = some (fc_is I ww g, if fc_p I ww g = -4 then J else zx_uI (zx_uI J 0 31 (fc_p I ww g)) 0 32 (fc_h I ww g)) := by
  obtain ⟨g0, eg, hg30⟩ : ∃ g0, g = nI g0 ∧ g0 ≤ 30 := by
    by_cases q : b = 0
    · exact ⟨0, by rw [hg, if_pos q]; rfl, by omega⟩
    · exact ⟨kt, by rw [hg, if_neg q], hkt30⟩
  have hmp : m * p ≤ 6 * 60 := Nat.mul_le_mul hT.2.2.2.2.1 hT.2.2.2.2.2.2.1
  obtain ⟨k0, hk0⟩ : ∃ k0, k0 = if v < g0 then 0 else g0 := ⟨_, rfl⟩
  obtain ⟨-, hkv, hs⟩ := fc_spec hTC h1 h2 hv1 hv hlo hg30 hk0
  have hk30 : k0 ≤ 30 := by
    rw [hk0]
    split <;> omega
  rw [← eg] at hs
  unfold mf_hasBath
  rw [show (0 : Int32) = nI 0 from rfl, mf_of_ok h6 (by decide), r1, h1, Option.bind_some, hkt, show mf_holds J = nI (m * p) from by unfold mf_holds; rw [hT.1, hT.2.1, pk_mul]]
  have e8 : (if b = nI 0 then some (nI 0) else if nI v < nI kt then some (nI 0) else some (nI kt)) = some (nI k0) := by
    by_cases q : b = 0
    · rw [if_pos (show b = nI 0 from q)]
      have : g0 = 0 := by
        have e : nI g0 = nI 0 := by rw [← eg, hg, if_pos q]; rfl
        exact (nI_eq (by omega) (by omega)).mp e
      rw [hk0, this]
      split <;> rfl
    · rw [if_neg (show ¬ b = nI 0 from q)]
      have : g0 = kt := by
        have e : nI g0 = nI kt := by rw [← eg, hg, if_neg q]
        exact (nI_eq (by omega) (by omega)).mp e
      rw [hk0, this]
      by_cases q2 : v < kt
      · rw [if_pos (nI_lt q2 (by omega)), if_pos q2]
      · rw [if_neg (nI_nlt (by omega) (by omega)), if_neg q2]
  have e8' : ((if b = nI 0 then some (nI 0) else if nI v < nI kt then some (nI 0) else some (nI kt)) : Option Int32).bind = (some (nI k0) : Option Int32).bind (β := Int32 × zx_I) := by rw [e8]
  rw [show ∀ f : Int32 → Option (Int32 × zx_I), ((if b = nI 0 then some (nI 0) else if nI v < nI kt then some (nI 0) else some (nI kt)) : Option Int32).bind f = f (nI k0) from fun f => by rw [e8]; rfl]
  simp only [mo_ite]
  rw [pk_sub hkv, nI_minr (by omega) (by omega)]
  obtain ⟨l1, l2⟩ := hb_loop (n := n) (J := J) (K := some (nI 0, J)) (i := i) (v := v) (lo := lo) (hi := hi) (k0 := k0) (most := min (v - k0) (m * p)) (by omega) hT h6 (r2.trans h2) (r3.trans h3) hv1 hv hlo hk30 hkv (by omega) (by omega) hhi (min (v - k0) (m * p) + 1) 0 n (by omega) (by omega)
  rcases hs with ⟨e, hno⟩ | ⟨h0, e, a1, a2, a3, a4, a5⟩
  · rw [l1 (fun q _ hq => hno q (by omega) (by omega))]
    unfold fc_is
    rw [if_pos e, if_pos e]
    rfl
  · have hne : ¬ fc_p I ww g = -4 := by
      rw [e]
      exact nI_ne4 (by omega)
    rw [l2 h0 (Nat.zero_le _) (by omega) a3 (fun q _ hq => a4 q hq)]
    unfold fc_is
    rw [if_neg hne, if_neg hne, a5, h3, e]
    have hch : c * (v - k0 - h0) ≤ 40 * 99 := Nat.mul_le_mul hT.2.2.2.2.2.2.2.1 (by omega)
    have htl := ttop_le (u := u) (h := h0) hT.2.2.2.2.2.1 a2 hT.2.2.2.2.1 (fun i hi => (hT.2.2.2.2.2.2.2.2 i hi).2.1)
    have hbl : b_heat u c p v k0 h0 < 2 ^ 31 := Nat.lt_of_le_of_lt (Nat.div_le_self _ _) (by omega)
    by_cases q : hi < b_heat u c p v k0 h0
    · rw [if_pos q, if_pos (show nI (b_heat u c p v k0 h0) > nI hi from nI_lt q hbl)]
    · rw [if_neg q, if_neg (show ¬ nI (b_heat u c p v k0 h0) > nI hi from nI_nlt (by omega) (by omega))]
