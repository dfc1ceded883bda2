/-! class and model between two calls -/
def bytr (x y : Int32) : Prop := (∃ b, b < 128 ∧ x = nI b ∧ y = nI b) ∨ (x < 0 ∧ ∃ b, 128 ≤ b ∧ b < 256 ∧ y = nI b)
def w_text (I J : zx_I) : Prop := ∃ l, l ≤ 400 ∧ I 0 1 = nI l ∧ J 0 0 = nI l ∧ ∀ k, k < l → bytr (I 1 k) (J 1 k)
def wsh (I : zx_I) (L : zx_L) (w ct : Nat) (row : Nat → Int32) (hot : Int32) (plan : Int64) (ten : Nat → Int32) : Prop :=
  rowok (I (w + 1)) ct ∧ (∀ k, k < 6 → row k = I (w + 1) k) ∧ (hot = I w 1 ∧ rg (I w 1) 0 99) ∧ (plan = L w 2 ∧ ∃ P, P < 2 ^ 60 ∧ L w 2 = lN P) ∧ ∀ k, k < 6 → ten k = I (w + 2) k ∧ rg (I (w + 2) k) 0 10
def WRx (h sp : Nat) (I : zx_I) (L : zx_L) (J : zx_I) (M : zx_L) (m p c f ct : Nat) : Prop :=
  hsp h sp ∧ (hvt I h m p c f ∧ hvr I h) ∧ (I h 13 = nI ct ∧ ct ≤ 6 ∧ ∀ i, i < ct → hvb (I (h + 4 + i)) ct) ∧ hrl I h J ct ∧ (∀ i, i < 6 → I (sp + 4 + i) 0 = nI (2 ^ i) ∧ (1 ≤ i → i ≤ 3 → rg (I (h + 1) i) 0 9999)) ∧ w_text I J ∧ wsh I L 24 ct (J 4) (J 0 8) (M 0 9) (J 5) ∧
  ∃ kk, kk ≤ 2 ∧ I 0 7 = nI kk ∧ J 0 11 = nI kk ∧ ∀ q, q < kk → wsh I L (28 + 3 * q) ct (fun k => J 6 (6 * q + k)) (J 7 q) (M 8 q) (fun k => J 9 (6 * q + k))
def WR (h sp : Nat) (I : zx_I) (L : zx_L) (J : zx_I) (M : zx_L) : Prop := ∃ m p c f ct, WRx h sp I L J M m p c f ct
/-- a call of both: the same answer, and they are together again -/
def CR (MC MM : zx_M) (av : List Value) (h sp : Nat) (la : Option Nat) (I : zx_I) (L : zx_L) (J : zx_I) (M : zx_L) : Prop :=
  ∃ v Q J' M', zx_M0 MC 8 0 0 (.ref 0 :: av) zw_SC I L (zw_RC h sp la) Q ∧ (∀ r S1 I1 L1 R1, Q r S1 I1 L1 R1 → r = some (.int v) ∧ S1 = zw_SC ∧ ∃ h1 sp1 la1, R1 = zw_RC h1 sp1 la1 ∧ WR h1 sp1 I1 L1 J' M') ∧ zx_M0 MM 8 0 0 (.ref 0 :: av) zw_SM J M zw_RM (zw_ret (some (.int v)) zw_SM J' M' zw_RM)
theorem cr_ret {MC MM : zx_M} {av : List Value} {h sp h1 sp1 : Nat} {la la1 : Option Nat} {I I' : zx_I} {L L' : zx_L} {J J' : zx_I} {M M' : zx_L} {v : Int32} (h1' : zx_M0 MC 8 0 0 (.ref 0 :: av) zw_SC I L (zw_RC h sp la) (zw_ret (some (.int v)) zw_SC I' L' (zw_RC h1 sp1 la1))) (h2 : zx_M0 MM 8 0 0 (.ref 0 :: av) zw_SM J M zw_RM (zw_ret (some (.int v)) zw_SM J' M' zw_RM)) (h3 : WR h1 sp1 I' L' J' M') : CR MC MM av h sp la I L J M :=
  ⟨v, _, J', M', h1', fun r S1 I1 L1 R1 q => by obtain ⟨rfl, rfl, rfl, rfl, rfl⟩ := q; exact ⟨rfl, rfl, h1, sp1, la1, rfl, h3⟩, h2⟩
theorem cr_any {MC MM : zx_M} {av : List Value} {h sp h1 sp1 : Nat} {la : Option Nat} {I I' : zx_I} {L L' : zx_L} {J J' : zx_I} {M M' : zx_L} {v : Int32} (h1' : zx_M0 MC 8 0 0 (.ref 0 :: av) zw_SC I L (zw_RC h sp la) (zw_any (some (.int v)) I' L' h1 sp1)) (h2 : zx_M0 MM 8 0 0 (.ref 0 :: av) zw_SM J M zw_RM (zw_ret (some (.int v)) zw_SM J' M' zw_RM)) (h3 : WR h1 sp1 I' L' J' M') : CR MC MM av h sp la I L J M :=
  ⟨v, _, J', M', h1', fun r S1 I1 L1 R1 q => by obtain ⟨rfl, rfl, rfl, rfl, la1, rfl⟩ := q; exact ⟨rfl, rfl, h1, sp1, la1, rfl, h3⟩, h2⟩
/-- what calls leave -/
def cW (h sp : Nat) (I I' : zx_I) : Prop := (∀ b, b ≠ 2 → b ≠ 3 → b ≠ sp → b ≠ sp + 1 → b ≠ sp + 2 → (b < 34 ∨ 41 < b) → ¬ bt b → I' b = I b) ∧ (∀ b, bt b → I' b 0 = I b 0) ∧ ∀ i, i < 6 → ∀ k, k < 9 → I' (h + 4 + i) k = I (h + 4 + i) k
def mW (J J' : zx_I) : Prop := (∀ b, b = 1 ∨ (3 ≤ b ∧ b ≤ 9) → J' b = J b) ∧ J' 0 0 = J 0 0 ∧ J' 0 8 = J 0 8 ∧ J' 0 11 = J 0 11
theorem cW_rf {h sp : Nat} {I : zx_I} : cW h sp I I := ⟨fun _ _ _ _ _ _ _ _ => rfl, fun _ _ => rfl, fun _ _ _ _ => rfl⟩
theorem cW_tr {h sp : Nat} {I J K : zx_I} (h1 : cW h sp I J) (h2 : cW h sp J K) : cW h sp I K := ⟨fun b a1 a2 a3 a4 a5 a6 a7 => (h2.1 b a1 a2 a3 a4 a5 a6 a7).trans (h1.1 b a1 a2 a3 a4 a5 a6 a7), fun b hb => (h2.2.1 b hb).trans (h1.2.1 b hb), fun i hi k hk => (h2.2.2 i hi k hk).trans (h1.2.2 i hi k hk)⟩
theorem cW_cfr {h sp : Nat} {I J : zx_I} (hh : hsp h sp) (q : cfr I J) : cW h sp I J := ⟨fun b _ _ _ _ _ z1 z2 => q.1 b (by omega) (by omega) (by omega) (by omega) (by omega) z2, fun b hb => q.2 b hb 0 (by decide), fun i hi k hk => q.2 _ (by unfold hsp at hh; unfold bt; omega) k (by omega)⟩
theorem mW_rf {J : zx_I} : mW J J := ⟨fun _ _ => rfl, rfl, rfl, rfl⟩
theorem mW_tr {J K N : zx_I} (h1 : mW J K) (h2 : mW K N) : mW J N := ⟨fun b hb => (h2.1 b hb).trans (h1.1 b hb), h2.2.1.trans h1.2.1, h2.2.2.1.trans h1.2.2.1, h2.2.2.2.trans h1.2.2.2⟩
theorem mW_mkeep {J K : zx_I} (q : mkeep J K) : mW J K := ⟨fun b hb => q.1 b (by omega) (by omega) (by omega) (by omega) (by omega) (by omega) (by omega), q.2 0 (by omega), q.2 8 (by omega), q.2 11 (by omega)⟩
theorem hsp_h {h sp : Nat} (hh : hsp h sp) : h = 4 ∨ h = 14 := by unfold hsp at hh; omega
theorem hsp_s {h sp : Nat} (hh : hsp h sp) : sp = 4 ∨ sp = 14 := by unfold hsp at hh; omega
theorem wsh_cg {I I' : zx_I} {L L' : zx_L} {w ct : Nat} {row row' ten ten' : Nat → Int32} {hot hot' : Int32} {plan plan' : Int64} (h : wsh I L w ct row hot plan ten) (h0 : I' w = I w) (h1 : I' (w + 1) = I (w + 1)) (h2 : I' (w + 2) = I (w + 2)) (h3 : L' w = L w) (h4 : ∀ k, k < 6 → row' k = row k) (h5 : hot' = hot) (h6 : plan' = plan) (h7 : ∀ k, k < 6 → ten' k = ten k) : wsh I' L' w ct row' hot' plan' ten' := by
  obtain ⟨a1, a2, a3, a4, a5⟩ := h
  unfold wsh
  rw [h0, h1, h2, h3, h5, h6]
  exact ⟨a1, fun k hk => (h4 k hk).trans (a2 k hk), a3, a4, fun k hk => by rw [h7 k hk]; exact a5 k hk⟩
theorem WRx_cg {h sp : Nat} {I I' : zx_I} {L L' : zx_L} {J J' : zx_I} {M : zx_L} {m p c f ct : Nat} (q : WRx h sp I L J M m p c f ct) (h1 : cW h sp I I') (h2 : ∀ b, b ≠ 34 → L' b = L b) (h3 : mW J J') : WRx h sp I' L' J' M m p c f ct := by
  obtain ⟨a1, ⟨a2, a2'⟩, ⟨b1, b2, b3⟩, a3, a4, ⟨l, l1, l2, l3, l4⟩, a5, kk, k1, k2, k3, k4⟩ := q
  have ne : ∀ b, b ≠ 2 → b ≠ 3 → b ≠ sp → b ≠ sp + 1 → b ≠ sp + 2 → (b < 34 ∨ 41 < b) → ¬ bt b → I' b = I b := h1.1
  have hs : hsame I I' h := ⟨ne _ (by unfold hsp at a1; omega) (by unfold hsp at a1; omega) (by unfold hsp at a1; omega) (by unfold hsp at a1; omega) (by unfold hsp at a1; omega) (by unfold hsp at a1; omega) (by unfold hsp at a1; unfold bt; omega), ne _ (by unfold hsp at a1; omega) (by unfold hsp at a1; omega) (by unfold hsp at a1; omega) (by unfold hsp at a1; omega) (by unfold hsp at a1; omega) (by unfold hsp at a1; omega) (by unfold hsp at a1; unfold bt; omega), ne _ (by unfold hsp at a1; omega) (by unfold hsp at a1; omega) (by unfold hsp at a1; omega) (by unfold hsp at a1; omega) (by unfold hsp at a1; omega) (by unfold hsp at a1; omega) (by unfold hsp at a1; unfold bt; omega), h1.2.2⟩
  have n0 : ∀ b, b = 0 ∨ b = 1 ∨ (24 ≤ b ∧ b < 34) → I' b = I b := fun b hb => ne b (by omega) (by omega) (by unfold hsp at a1; omega) (by unfold hsp at a1; omega) (by unfold hsp at a1; omega) (by omega) (by unfold bt; omega)
  refine ⟨a1, ⟨hvt_cg hs.1 a2, hvr_cg hs a2'⟩, ⟨by rw [hs.1]; exact b1, b2, fun i hi => hvb_cg (fun k hk => hs.2.2.2 i (by omega) k hk) (b3 i hi)⟩, fun k hk => by rw [h3.1 3 (by omega), ho_cg hs b2 hk]; exact a3 k hk, fun i hi => by rw [h1.2.1 _ (by unfold hsp at a1; unfold bt; omega), hs.2.1]; exact a4 i hi, ⟨l, l1, by rw [n0 0 (by omega)]; exact l2, by rw [h3.2.1]; exact l3, fun k hk => by rw [n0 1 (by omega), h3.1 1 (by omega)]; exact l4 k hk⟩, ?_, kk, k1, by rw [n0 0 (by omega)]; exact k2, by rw [h3.2.2.2]; exact k3, fun x hx => ?_⟩
  · exact wsh_cg a5 (n0 24 (by omega)) (n0 25 (by omega)) (n0 26 (by omega)) (h2 24 (by decide)) (fun k _ => by rw [h3.1 4 (by omega)]) h3.2.2.1 rfl (fun k _ => by rw [h3.1 5 (by omega)])
  · exact wsh_cg (k4 x hx) (n0 _ (by omega)) (n0 _ (by omega)) (n0 _ (by omega)) (h2 _ (by omega)) (fun k _ => by rw [h3.1 6 (by omega)]) (by rw [h3.1 7 (by omega)]) rfl (fun k _ => by rw [h3.1 9 (by omega)])
/-! a bather by number -/
theorem who_cs {I J : zx_I} {h ct : Nat} (i : Int32) (e : I h 13 = nI ct) (hct : ct ≤ 6) (h16 : J 3 16 = nI ct) : (fh_who I h i = none ∧ mf_isBatherOf i J = 0) ∨ ∃ x, x < ct ∧ i = nI x ∧ fh_who I h i = some (h + 4 + x) ∧ mf_isBatherOf i J = 1 := by
  unfold mf_isBatherOf mf_in mf_many
  rw [h16]
  by_cases c1 : i < 0
  · refine Or.inl ⟨?_, if_pos c1⟩
    unfold fh_who
    rw [if_pos c1]
  · obtain ⟨x, hx, rfl⟩ := nI_of c1
    have e1 : nI ct - 1 < nI x ↔ ct ≤ x := by
      rw [Int32.lt_iff_toInt_lt, show (1 : Int32) = nI 1 from rfl, pk_sub_toInt (by omega) (by omega), nI_toInt hx]
      omega
    rw [if_neg c1]
    by_cases c2 : ct ≤ x
    · refine Or.inl ⟨?_, if_pos (e1.mpr c2)⟩
      unfold fh_who
      rw [if_neg c1, e, if_pos (show nI x ≥ nI ct from nI_le c2 hx)]
    · exact Or.inr ⟨x, by omega, rfl, fh_who_at e (by omega) hct, if_neg (fun z => c2 (e1.mp z))⟩
theorem in_cs {x a b : Int32} : (mf_in x a b = 0 ∧ (x < a ∨ b < x)) ∨ (mf_in x a b = 1 ∧ ¬ x < a ∧ ¬ b < x) := by
  unfold mf_in
  by_cases c1 : x < a
  · exact Or.inl ⟨if_pos c1, Or.inl c1⟩
  · by_cases c2 : b < x
    · exact Or.inl ⟨by rw [if_neg c1, if_pos c2], Or.inr c2⟩
    · exact Or.inr ⟨by rw [if_neg c1, if_neg c2], c1, c2⟩
theorem rule_eq (r : Int32) : q_rule r = mf_isRule r := rfl
theorem nlt_le {a b : Int32} : (¬ b < a) ↔ a ≤ b := by
  rw [Int32.lt_iff_toInt_lt, Int32.le_iff_toInt_le]
  omega
/-! it is asked -/
theorem hc_at {b0 : Nat} : ∀ (n j : Nat) (J : zx_I) (b k : Nat), hc_loop b0 n j J b k = if (b0 + j ≤ b ∧ b < b0 + j + n) ∧ k = 9 then J b 5 else J b k := by
  intro n
  induction n with
  | zero =>
    intro j J b k
    rw [if_neg (by omega)]
    rfl
  | succ n ih =>
    intro j J b k
    rw [hc_loop, ih]
    have e5 : zx_uI J (b0 + j) 9 (J (b0 + j) 5) b 5 = J b 5 := by simp [zx_uI]
    rw [e5]
    by_cases q : b = b0 + j
    · subst q
      by_cases q2 : k = 9
      · subst q2
        rw [if_neg (by omega), if_pos (by omega)]
        simp [zx_uI]
      · rw [if_neg (by omega), if_neg (by omega)]
        simp [zx_uI, q2]
    · rw [zx_uI_ne q]
      by_cases q2 : (b0 + (j + 1) ≤ b ∧ b < b0 + (j + 1) + n) ∧ k = 9
      · rw [if_pos q2, if_pos (by omega)]
      · rw [if_neg q2, if_neg (by omega)]
theorem ask_ne {I : zx_I} {h b k : Nat} {rule : Int32} (h1 : b ≠ 34) (h2 : b ≠ 35) (h3 : ¬ ((h + 4 ≤ b ∧ b < h + 10) ∧ k = 9)) : q_ask I h rule b k = I b k := by
  unfold q_ask fh_told
  rw [hc_at, if_neg (by omega)]
  unfold fa_become zcp zr
  rw [zx_uI_ne h1, zx_uI_ne h1, zx_uI_ne h1, if_neg h2, zx_uI_ne h1, zx_uI_ne h1, zx_uI_ne h1]
theorem ask_34 {I : zx_I} {h : Nat} {rule : Int32} (hh : h = 4 ∨ h = 14) : q_ask I h rule 34 0 = rule ∧ q_ask I h rule 34 1 = I 24 1 ∧ q_ask I h rule 34 2 = I h 8 ∧ q_ask I h rule 34 5 = 0 ∧ q_ask I h rule 34 6 = 0 ∧ q_ask I h rule 34 7 = 0 := by
  unfold q_ask fh_told
  rw [hc_at, hc_at, hc_at, hc_at, hc_at, hc_at, if_neg (by omega), if_neg (by omega), if_neg (by omega), if_neg (by omega), if_neg (by omega), if_neg (by omega)]
  unfold fa_become zcp zr
  refine ⟨?_, ?_, ?_, ?_, ?_, ?_⟩ <;> simp [zx_uI]
theorem ask_35 {I : zx_I} {h k : Nat} {rule : Int32} (hh : h = 4 ∨ h = 14) (hk : k < 6) : q_ask I h rule 35 k = I 25 k := by
  unfold q_ask fh_told
  rw [hc_at, if_neg (by omega)]
  unfold fa_become zcp zr
  rw [zx_uI_ne (by decide), zx_uI_ne (by decide), zx_uI_ne (by decide), if_pos rfl, pk_cpy_in (by omega) (by omega), zx_uI_ne (by decide), zx_uI_ne (by decide), zx_uI_ne (by decide)]
  show I 25 (0 + (k - 0)) = I 25 k
  rw [Nat.zero_add, Nat.sub_zero]
theorem ask_9 {I : zx_I} {h i : Nat} {rule : Int32} (hh : h = 4 ∨ h = 14) (hi : i < 6) : q_ask I h rule (h + 4 + i) 9 = I (h + 4 + i) 5 := by
  unfold q_ask fh_told
  rw [hc_at, if_pos (by omega)]
  unfold fa_become zcp zr
  rw [zx_uI_ne (by omega), zx_uI_ne (by omega), zx_uI_ne (by omega), if_neg (by omega), zx_uI_ne (by omega), zx_uI_ne (by omega), zx_uI_ne (by omega)]
theorem ask_cW {I : zx_I} {h sp : Nat} {rule : Int32} (hh : hsp h sp) : cW h sp I (q_ask I h rule) := by
  refine ⟨fun b _ _ _ _ _ z1 z2 => ?_, fun b hb => ?_, fun i hi k hk => ?_⟩
  · funext k
    exact ask_ne (by omega) (by omega) (fun z => z2 (by unfold hsp at hh; unfold bt; omega))
  · exact ask_ne (by unfold bt at hb; omega) (by unfold bt at hb; omega) (by omega)
  · exact ask_ne (by unfold hsp at hh; omega) (by unfold hsp at hh; omega) (by omega)
theorem rowok_cg {r r' : Nat → Int32} {ct : Nat} (hct : ct ≤ 6) (h : rowok r ct) (e : ∀ k, k < 6 → r' k = r k) : rowok r' ct := ⟨fun k hk => by rw [e k (by omega)]; exact h.1 k hk, fun k hk hk6 => by rw [e k hk6]; exact h.2 k hk hk6⟩
theorem as_loop {n : Nat} {K : zx_I → Option zx_I} : ∀ (d j e : Nat) (J : zx_I), j + d = 6 → d < e → ∃ J', mf_asTold_2 n K e (nI j) J = K J' ∧ (∀ b, b ≠ 12 → b ≠ 17 → J' b = J b) ∧ (∀ i, J' 12 i = if j ≤ i ∧ i < j + d then J 3 (17 + 8 * i + 4) else J 12 i) ∧ ∀ i, J' 17 i = if j ≤ i ∧ i < j + d then J 4 i else J 17 i := by
  intro d
  induction d with
  | zero =>
    intro j e J hj he
    obtain ⟨e, rfl⟩ : ∃ e9, e = e9 + 1 := ⟨e - 1, by omega⟩
    refine ⟨J, ?_, fun _ _ _ => rfl, fun i => by rw [if_neg (by omega)], fun i => by rw [if_neg (by omega)]⟩
    show mf_asTold_2_b _ _ _ _ _ = _
    unfold mf_asTold_2_b
    rw [if_pos (show (6 : Int32) ≤ nI j from nI_le (a := 6) (by omega) (by omega))]
  | succ d ih =>
    intro j e J hj he
    obtain ⟨e, rfl⟩ : ∃ e9, e = e9 + 1 := ⟨e - 1, by omega⟩
    obtain ⟨J', f1, f2, f3, f4⟩ := ih (j + 1) e (zx_uI (zx_uI J 12 j (J 3 (17 + 8 * j + 4))) 17 j (J 4 j)) (by omega) (by omega)
    refine ⟨J', ?_, fun b z1 z2 => by rw [f2 b z1 z2, zx_uI_ne z2, zx_uI_ne z1], fun i => ?_, fun i => ?_⟩
    · show mf_asTold_2_b _ _ _ _ _ = _
      unfold mf_asTold_2_b
      rw [if_neg (show ¬ (6 : Int32) ≤ nI j from nI_ge (b := 6) (by omega) (by decide)), show (4 : Int32) = nI 4 from rfl, mf_of_ok (by omega) (by decide), Option.bind_some, mo_g1 (mo_inN (by omega) (by decide)), mo_g1 (mo_inN (by omega) (by decide)), mo_g1 (mo_inN (by omega) (by decide)), nI_clamp (by omega), ← nI_succ]
      exact f1
    · rw [f3 i, zx_uI_ne (by decide), zx_uI_ne (by decide), zx_uI_ne (by decide)]
      by_cases q : i = j
      · subst q
        rw [if_neg (by omega), if_pos (by omega)]
        simp [zx_uI]
      · by_cases q2 : j + 1 ≤ i ∧ i < j + 1 + d
        · rw [if_pos q2, if_pos (by omega)]
        · rw [if_neg q2, if_neg (by omega)]
          simp [zx_uI, q]
    · rw [f4 i, zx_uI_ne (by decide), zx_uI_ne (by decide)]
      by_cases q : i = j
      · subst q
        rw [if_neg (by omega), if_pos (by omega)]
        simp [zx_uI]
      · by_cases q2 : j + 1 ≤ i ∧ i < j + 1 + d
        · rw [if_pos q2, if_pos (by omega)]
        · rw [if_neg q2, if_neg (by omega)]
          simp [zx_uI, q]
theorem as_spec {n : Nat} {J : zx_I} (hn : 200 ≤ n) : ∃ J', mf_asTold n J = some J' ∧ (∀ b, b ≠ 0 → b ≠ 12 → b ≠ 17 → J' b = J b) ∧ (∀ k, k ≠ 29 → J' 0 k = J 0 k) ∧ J' 0 29 = 0 ∧ (∀ i, i < 6 → J' 12 i = J 3 (17 + 8 * i + 4)) ∧ ∀ i, i < 6 → J' 17 i = J 4 i := by
  obtain ⟨J1, f1, f2, f3, f4⟩ := as_loop (n := n) (K := fun J_2 => some ((zx_uI J_2 0 29 0))) 6 0 n J rfl (by omega)
  refine ⟨zx_uI J1 0 29 0, f1, fun b z0 z1 z2 => by rw [zx_uI_ne z0, f2 b z1 z2], fun k hk => ?_, by simp [zx_uI], fun i hi => by rw [zx_uI_ne (by decide), f3 i, if_pos (by omega)], fun i hi => by rw [zx_uI_ne (by decide), f4 i, if_pos (by omega)]⟩
  simp only [zx_uI, if_pos]
  rw [if_neg hk, f2 0 (by decide) (by decide)]
theorem ask_AR {h sp n : Nat} {I : zx_I} {L : zx_L} {J : zx_I} {M : zx_L} {rule : Int32} {m p c f ct : Nat} (hn : 200 ≤ n) (q : WRx h sp I L J M m p c f ct) : ∃ J1, mf_asTold n J = some J1 ∧ AR h (q_ask I h rule) J1 rule m p c f ct ∧ mW J J1 ∧ J1 3 = J 3 ∧ (∀ k, k ≠ 29 → J1 0 k = J 0 k) ∧ ∀ b, b ≠ 0 → b ≠ 12 → b ≠ 17 → J1 b = J b := by
  obtain ⟨J1, f1, f2, f3, f4, f5, f6⟩ := as_spec (n := n) (J := J) hn
  have hk := ask_cW (I := I) (rule := rule) q.1
  have hh := hsp_h q.1
  have hm : mW J J1 := ⟨fun b hb => f2 b (by omega) (by omega) (by omega), f3 0 (by decide), f3 8 (by decide), f3 11 (by decide)⟩
  obtain ⟨a1, ⟨a2, a2'⟩, ⟨b1, b2, b3⟩, a3, -⟩ := WRx_cg (L' := L) q hk (fun _ _ => rfl) hm
  obtain ⟨s0, s1, s2, s5, s6, s7⟩ := ask_34 (I := I) (rule := rule) hh
  obtain ⟨w1, w2, ⟨w3, w3'⟩, w4, w5⟩ := q.2.2.2.2.2.2.1
  refine ⟨J1, f1, ⟨⟨a2, a2'⟩, ⟨b1, b2, b3⟩, a3, ⟨s0, by rw [s1, hm.2.2.1]; exact w3⟩, fun k hk => by rw [f6 k hk, ask_35 hh hk]; exact w2 k hk, rowok_cg b2 w1 (fun k hk => ask_35 hh hk), fun j hj => ?_, Or.inl ⟨s6, f4⟩, ⟨0, s7, by decide, by decide⟩⟩, hm, f2 3 (by decide) (by decide) (by decide), f3, f2⟩
  have hj6 : j < 6 := by omega
  have hb := q.2.2.1.2.2 j hj
  obtain ⟨x, ex, -, hx⟩ := hb.2.2.2.2.1
  rw [f5 j hj6, ask_9 hh hj6, hrl_b q.2.2.2.1 hj (by decide)]
  exact ⟨rfl, x, ex, by omega, by omega⟩
/-- an evening as things stand -/
theorem so_spec {h sp n : Nat} {I : zx_I} {L : zx_L} {J : zx_I} {M : zx_L} {rule : Int32} {m p c f ct : Nat} (hn : 200 ≤ n) (q : WRx h sp I L J M m p c f ct) : ∃ J', mf_scoreOf n rule J M = some (q_scr I L h rule, J') ∧ rn_ok (q_ask I h rule) (q_L L) h ∧ WRx h sp (q_end I L h rule).1 (q_L L) J' M m p c f ct ∧ EA h m ct (q_end I L h rule).1 J' ∧ ∃ lt dn, lt ≤ 6 ∧ dn ≤ 99 ∧ mf_lateNow n J' = some (nI lt) ∧ mf_doneNow n J' = some (nI dn) ∧ q_scr I L h rule = nI (100 * lt + dn) := by
  obtain ⟨J1, f1, f2, f3, f4, -⟩ := ask_AR (rule := rule) hn q
  have hh := hsp_h q.1
  obtain ⟨J2, g1, g2, g3, g4, g5, g6⟩ := run_spec (L := q_L L) hh hn f2
  have eL : q_L L 34 3 = M 0 9 := by
    unfold q_L
    have := q.2.2.2.2.2.2.1.2.2.2.1.1
    simp [zx_uL, this]
  have e8 : q_ask I h rule 34 2 = J1 3 11 := by
    rw [(ask_34 hh).2.2.1, f4, q.2.2.2.1 11 (by omega)]
    rfl
  refine ⟨J2, ?_, Kh_rn hh (AR_Kh f2), WRx_cg q (cW_tr (ask_cW q.1) (cW_cfr q.1 g4)) (fun b hb => zx_uL_ne hb) (mW_tr f3 (mW_mkeep g2)), g5, g6⟩
  unfold mf_scoreOf
  rw [f1, Option.bind_some, ← eL, ← e8, g1]
  rfl
