/-! looks in both -/
def cfx (w : Nat) (I I' : zx_I) : Prop := cf9 I I' ∧ ∀ b, bt b → b ≠ w → I' b 9 = I b 9
theorem cfx_rf {w : Nat} {I : zx_I} : cfx w I I := ⟨cf9_rf, fun _ _ _ => rfl⟩
theorem cfx_tr {w : Nat} {I J K : zx_I} (h1 : cfx w I J) (h2 : cfx w J K) : cfx w I K := ⟨cf9_tr h1.1 h2.1, fun b hb hw => (h2.2 b hb hw).trans (h1.2 b hb hw)⟩
theorem cfx_of {w : Nat} {I J : zx_I} (h : cfr I J) : cfx w I J := ⟨cf9_of h, fun b hb _ => h.2 b hb 9 (by decide)⟩
theorem cfx_u {I : zx_I} {w : Nat} {v : Int32} (hw : bt w) : cfx w I (zx_uI I w 9 v) := ⟨cf9_u hw, fun b _ hb => by rw [zx_uI_ne hb]⟩
theorem bc_spec {n h x F : Nat} {x1 x2 x3 may : Int32} {m p c f ct : Nat} {L : zx_L} {M : zx_L} {K : Int32 → zx_I → Option (Int32 × zx_I)} (ha : h = 4 ∨ h = 14) (hn : 200 ≤ n) (hx : x < ct) (hct : ct ≤ 6) (hF : F ≤ 60) (hL : L 34 3 = M 0 9) : ∀ (d t e fd : Nat) (s : Int32) (Jc Jm : zx_I), t + d = 6 → d < e → fd ≤ 5 → Jm 3 11 = may → Jm 3 (17 + 8 * x + 4) = nI F → Jc (h + 4 + x) 5 = nI F → RX h x 1 may m p c f ct Jc Jm → ∃ fd' Jm', fd' ≤ 5 ∧ mf_looks_88 n x1 x2 x3 (nI x) M K e (nI fd) s (nI t) Jm = K (nI fd') Jm' ∧ (bc_loop h (h + 4 + x) L d t (nI (F + fd)) s Jc).1 = nI (F + fd') ∧ RX h x 1 may m p c f ct (bc_loop h (h + 4 + x) L d t (nI (F + fd)) s Jc).2 Jm' ∧ mk2 Jm Jm' ∧ Jm' 19 = Jm 19 ∧ cfx (h + 4 + x) Jc (bc_loop h (h + 4 + x) L d t (nI (F + fd)) s Jc).2 := by
  intro d
  induction d with
  | zero =>
    intro t e fd s Jc Jm ht he hfd h11 hf hF5 hR
    obtain ⟨e, rfl⟩ : ∃ e9, e = e9 + 1 := ⟨e - 1, by omega⟩
    refine ⟨fd, Jm, hfd, ?_, rfl, hR, mk2_rf, rfl, cfx_rf⟩
    show mf_looks_88_b _ _ _ _ _ _ _ _ _ _ _ _ = _
    unfold mf_looks_88_b
    rw [if_pos (show (6 : Int32) ≤ nI t from nI_le (a := 6) (by omega) (by omega))]
  | succ d ih =>
    intro t e fd s Jc Jm ht he hfd h11 hf hF5 hR
    obtain ⟨e, rfl⟩ : ∃ e9, e = e9 + 1 := ⟨e - 1, by omega⟩
    have hx6 : x < 6 := by omega
    have hbt : bt (h + 4 + x) := bt_of ha hx6
    have hR2 := rx_rr (cx := nI (F + t)) ha hx ⟨F + t, rfl, by omega, by omega⟩ hR
    have eJ : zx_uI Jc (h + 4 + x) 9 (Jc (h + 4 + x) 5 + nI t) = zx_uI Jc (h + 4 + x) 9 (nI (F + t)) := by rw [hF5, nI_add]
    obtain ⟨J1, g1, g2, g3, g4, g5, -⟩ := run_RR (n := n) L ha hn hR2
    rw [hL] at g1
    have k3 := mkeep_3 g3
    have k12 : J1 12 = (zx_uI Jm 12 x (nI (F + t))) 12 := g3.1 12 (by decide) (by decide) (by decide) (by decide) (by decide) (by decide) (by decide)
    have k19 : J1 19 = Jm 19 := by rw [g3.1 19 (by decide) (by decide) (by decide) (by decide) (by decide) (by decide) (by decide), zx_uI_ne (by decide)]
    obtain ⟨r13, r14, -, -⟩ := g5.1 x hx6
    have eb9 : bc_J h (h + 4 + x) L t Jc (h + 4 + x) 9 = nI (F + t) := by
      unfold bc_J
      rw [eJ, g4.2 _ hbt 9 (by decide)]
      simp [zx_uI]
    have eb5 : bc_J h (h + 4 + x) L t Jc (h + 4 + x) 5 = nI F := by
      unfold bc_J
      rw [eJ, g4.2 _ hbt 5 (by decide)]
      simp [zx_uI]
      exact hF5
    have egr : mf_grief n (nI x) (zx_uI Jm 12 x (nI (F + t))) M = some (bc_p (bc_J h (h + 4 + x) L t Jc) (h + 4 + x), J1) := by
      unfold mf_grief
      rw [show (zx_uI Jm 12 x (nI (F + t))) 3 11 = may from by rw [zx_uI_ne (by decide)]; exact h11, g1, Option.bind_some, mo_g1 (mo_inN hx6 (by decide)), mo_g1 (mo_inN hx6 (by decide)), mo_g1 (mo_inN hx6 (by decide)), mo_g1 (mo_inN hx6 (by decide)), nI_clamp (by omega)]
      have ep : bc_p (bc_J h (h + 4 + x) L t Jc) (h + 4 + x) = if (fr_end (zx_uI Jc (h + 4 + x) 9 (nI (F + t))) L h).1 (h + 4 + x) 10 ≠ -4 then (fr_end (zx_uI Jc (h + 4 + x) 9 (nI (F + t))) L h).1 (h + 4 + x) 11 + (fr_end (zx_uI Jc (h + 4 + x) 9 (nI (F + t))) L h).1 (h + 4 + x) 10 - nI (F + t) else 198 := by
        unfold bc_p
        rw [eb9]
        unfold bc_J
        rw [eJ]
      have hiff := g5.2.2.2.2.2.1 x hx
      rw [ep]
      by_cases u : (fr_end (zx_uI Jc (h + 4 + x) 9 (nI (F + t))) L h).1 (h + 4 + x) 10 = -4
      · rw [if_pos (show J1 14 x = -4 from r14.trans (hiff.mp u)), if_neg (fun w => w u)]
      · rw [if_neg (show ¬ J1 14 x = -4 from fun w => u (hiff.mpr (r14.symm.trans w))), if_pos u]
        show some (J1 14 x + J1 13 x - J1 12 x, J1) = _
        rw [r13, r14, k12]
        simp [zx_uI]
    have hRX : RX h x 1 may m p c f ct (bc_J h (h + 4 + x) L t Jc) J1 := by
      unfold bc_J
      rw [eJ]
      exact rx_of ha hx g2
    have hcf : cfx (h + 4 + x) Jc (bc_J h (h + 4 + x) L t Jc) := by
      unfold bc_J
      rw [eJ]
      exact cfx_tr (cfx_u hbt) (cfx_of g4)
    have hmk : mk2 Jm J1 := mk2_tr mk2_u (mk2_of g3)
    have body : mf_looks_88 n x1 x2 x3 (nI x) M K (e + 1) (nI fd) s (nI t) Jm = (if nI t = 0 then mf_looks_88 n x1 x2 x3 (nI x) M K e (nI t) (bc_p (bc_J h (h + 4 + x) L t Jc) (h + 4 + x)) (nI (t + 1)) J1 else if s ≤ bc_p (bc_J h (h + 4 + x) L t Jc) (h + 4 + x) then mf_looks_88 n x1 x2 x3 (nI x) M K e (nI fd) s (nI (t + 1)) J1 else mf_looks_88 n x1 x2 x3 (nI x) M K e (nI t) (bc_p (bc_J h (h + 4 + x) L t Jc) (h + 4 + x)) (nI (t + 1)) J1) := by
      show mf_looks_88_b _ _ _ _ _ _ _ _ _ _ _ _ = _
      unfold mf_looks_88_b
      rw [if_neg (show ¬ (6 : Int32) ≤ nI t from nI_ge (b := 6) (by omega) (by decide)), show (4 : Int32) = nI 4 from rfl, mf_of_ok hx6 (by decide), Option.bind_some, mo_g1 (mo_inN hx6 (by decide)), nI_clamp (by omega), hf, nI_add, egr, Option.bind_some, ← nI_succ]
    rw [body, bc_loop, eb9]
    have upd := ih (t + 1) e t (bc_p (bc_J h (h + 4 + x) L t Jc) (h + 4 + x)) (bc_J h (h + 4 + x) L t Jc) J1 (by omega) (by omega) (by omega) (by rw [k3, zx_uI_ne (by decide)]; exact h11) (by rw [k3, zx_uI_ne (by decide)]; exact hf) eb5 hRX
    by_cases u : nI t = 0 ∨ ¬ bc_p (bc_J h (h + 4 + x) L t Jc) (h + 4 + x) ≥ s
    · rw [if_pos u]
      obtain ⟨fd', Jm', r1, r2, r3, r4, r5, r6, r7⟩ := upd
      refine ⟨fd', Jm', r1, ?_, r3, r4, mk2_tr hmk r5, by rw [r6, k19], cfx_tr hcf r7⟩
      by_cases v : nI t = 0
      · rw [if_pos v]
        exact r2
      · rw [if_neg v, if_neg (u.resolve_left v)]
        exact r2
    · rw [if_neg u]
      obtain ⟨fd', Jm', r1, r2, r3, r4, r5, r6, r7⟩ := ih (t + 1) e fd s (bc_J h (h + 4 + x) L t Jc) J1 (by omega) (by omega) hfd (by rw [k3, zx_uI_ne (by decide)]; exact h11) (by rw [k3, zx_uI_ne (by decide)]; exact hf) eb5 hRX
      refine ⟨fd', Jm', r1, ?_, r3, r4, mk2_tr hmk r5, by rw [r6, k19], cfx_tr hcf r7⟩
      rw [if_neg (fun w => u (Or.inl w)), if_pos (Classical.byContradiction (fun w => u (Or.inr w)))]
      exact r2
/-- within a round -/
def LK (h : Nat) (may : Int32) (m p c f ct : Nat) (I J : zx_I) : Prop := RR h 1 may m p c f ct I J ∧ J 3 11 = may ∧ ∀ j, j < ct → ∃ l F, l ≤ 5 ∧ F ≤ 60 ∧ J 19 j = nI l ∧ I (h + 4 + j) 5 = nI F ∧ I (h + 4 + j) 9 = nI (F + l)
theorem l2_spec {n h : Nat} {x1 x2 may : Int32} {m p c f ct : Nat} {L : zx_L} {M : zx_L} {K : Int32 → zx_I → Option (Int32 × zx_I)} (ha : h = 4 ∨ h = 14) (hn : 200 ≤ n) (hct : ct ≤ 6) (hL : L 34 3 = M 0 9) : ∀ (d x e : Nat) (an : Int32) (Jc Jm : zx_I), x + d = ct → d < e → LK h may m p c f ct Jc Jm → ∃ Jm', mf_looks_70 n x1 x2 M K e an (nI x) Jm = K (lk_2 h L d x an Jc).1 Jm' ∧ LK h may m p c f ct (lk_2 h L d x an Jc).2 Jm' ∧ mk2 Jm Jm' ∧ cf9 Jc (lk_2 h L d x an Jc).2 := by
  intro d
  induction d with
  | zero =>
    intro x e an Jc Jm hx he hK
    obtain ⟨e, rfl⟩ : ∃ e9, e = e9 + 1 := ⟨e - 1, by omega⟩
    refine ⟨Jm, ?_, hK, mk2_rf, cf9_rf⟩
    have h16 : Jm 3 16 = nI ct := (hK.1.1.2.2.1 16 (by omega)).trans hK.1.1.2.1.1
    show mf_looks_70_b _ _ _ _ _ _ _ _ _ = _
    unfold mf_looks_70_b mf_many
    rw [h16, if_pos (nI_le (by omega) (by omega))]
    rfl
  | succ d ih =>
    intro x e an Jc Jm hx he hK
    obtain ⟨e, rfl⟩ : ∃ e9, e = e9 + 1 := ⟨e - 1, by omega⟩
    have h16 : Jm 3 16 = nI ct := (hK.1.1.2.2.1 16 (by omega)).trans hK.1.1.2.1.1
    have hxc : x < ct := by omega
    have hx6 : x < 6 := by omega
    have hbt : bt (h + 4 + x) := bt_of ha hx6
    obtain ⟨hR, h11, hl⟩ := hK
    obtain ⟨l, F, l5, F60, e19, e5, e9⟩ := hl x hxc
    have hf : Jm 3 (17 + 8 * x + 4) = nI F := (hrl_b hR.1.2.2.1 hxc (by decide)).trans e5
    obtain ⟨fd, J1, r1, r2, r3, r4, r5, r6, r7⟩ := bc_spec (n := n) (x1 := x1) (x2 := x2) (x3 := an) (K := fun x5_88 J_88 => ((mf_of (nI x) (4 : Int32) J_88).bind fun p156 => (mo_g (mo_in (nI x) 6) (((if an = 0 then (mo_g (mo_in (nI x) 6) (if x5_88 = (J_88 19 (nI x).toNatClampNeg) then some ((0 : Int32)) else some ((1 : Int32)))) else some ((1 : Int32))) : Option (Int32)).bind fun v164 => (mo_g (mo_in (nI x) 6) (mf_looks_70 n x1 x2 M K e v164 (nI x + 1) (zx_uI (zx_uI J_88 12 (nI x).toNatClampNeg (p156 + x5_88)) 19 (nI x).toNatClampNeg x5_88))))))) ha hn hxc hct F60 hL 6 0 n 0 0 Jc Jm rfl (by omega) (by omega) h11 hf e5 (rx_of ha hxc hR)
    have ebest : bc_best h (h + 4 + x) L Jc = bc_loop h (h + 4 + x) L 6 0 (nI (F + 0)) 0 Jc := by
      unfold bc_best
      rw [e5]
      rfl
    rw [← ebest] at r3 r4 r7
    have k3 : J1 3 = Jm 3 := r5.1 3 (by decide) (by decide) (by decide) (by decide) (by decide) (by decide) (by decide) (by decide) (by decide)
    have ean : lk_an an h (h + 4 + x) L Jc = (if an = 0 then (if fd = l then 0 else 1) else 1) := by
      unfold lk_an
      rw [r3, e9]
      by_cases u : an = 0
      · rw [if_neg (fun w => w u), if_pos u]
        by_cases v : fd = l
        · rw [if_pos (by rw [v]), if_pos v]
        · rw [if_neg (fun w => v (by have := (nI_eq (by omega) (by omega)).mp w; omega)), if_neg v]
      · rw [if_pos u, if_neg u]
    have hR' : RR h 1 may m p c f ct (lk_next h (h + 4 + x) L Jc) (zx_uI (zx_uI J1 12 x (nI (F + fd))) 19 x (nI fd)) := by
      have q := rx_rr (cx := nI (F + fd)) ha hxc ⟨F + fd, rfl, by omega, by omega⟩ r4
      unfold lk_next
      rw [r3]
      exact ⟨AR_34 ha q.1 (fun _ _ => rfl) ⟨rfl, rfl⟩ (fun b hb => zx_uI_ne (by omega)) (by rw [zx_uI_ne (by decide)]) (by
        have := q.1.2.2.2.2.2.2.2.1
        unfold tpr at this ⊢
        rw [zx_uI_ne (show (0 : Nat) ≠ 19 by decide)]
        exact this) q.1.2.2.2.2.2.2.2.2, q.2⟩
    have hLK : LK h may m p c f ct (lk_next h (h + 4 + x) L Jc) (zx_uI (zx_uI J1 12 x (nI (F + fd))) 19 x (nI fd)) := by
      refine ⟨hR', by rw [zx_uI_ne (by decide), zx_uI_ne (by decide), k3]; exact h11, fun j hj => ?_⟩
      by_cases u : j = x
      · subst u
        refine ⟨fd, F, r1, F60, by simp [zx_uI], ?_, ?_⟩
        · unfold lk_next
          rw [show ∀ v, zx_uI (bc_best h (h + 4 + j) L Jc).2 (h + 4 + j) 9 v (h + 4 + j) 5 = (bc_best h (h + 4 + j) L Jc).2 (h + 4 + j) 5 from fun v => by simp [zx_uI], r7.1.2 _ hbt 5 (by decide)]
          exact e5
        · unfold lk_next
          rw [r3]
          simp [zx_uI]
      · obtain ⟨l', F', l5', F60', e19', e5', e9'⟩ := hl j hj
        have hbj : bt (h + 4 + j) := bt_of ha (by omega)
        have hjn : h + 4 + j ≠ h + 4 + x := by omega
        refine ⟨l', F', l5', F60', ?_, ?_, ?_⟩
        · rw [show zx_uI (zx_uI J1 12 x (nI (F + fd))) 19 x (nI fd) 19 j = J1 19 j by simp [zx_uI, u], r6]
          exact e19'
        · unfold lk_next
          rw [zx_uI_ne hjn, r7.1.2 _ hbj 5 (by decide)]
          exact e5'
        · unfold lk_next
          rw [zx_uI_ne hjn, r7.2 _ hbj hjn]
          exact e9'
    have hmk : mk2 Jm (zx_uI (zx_uI J1 12 x (nI (F + fd))) 19 x (nI fd)) := mk2_tr r5 (mk2_tr mk2_u ⟨fun b _ _ _ _ _ _ _ _ z => zx_uI_ne z, fun k _ => by rw [zx_uI_ne (by decide)]⟩)
    have hcf : cf9 Jc (lk_next h (h + 4 + x) L Jc) := by
      unfold lk_next
      exact cf9_tr r7.1 (cf9_u hbt)
    obtain ⟨Jm', s1, s2, s3, s4⟩ := ih (x + 1) e (lk_an an h (h + 4 + x) L Jc) _ _ (by omega) (by omega) hLK
    refine ⟨Jm', ?_, ?_, mk2_tr hmk s3, ?_⟩
    · rw [lk_2, ← s1]
      show mf_looks_70_b _ _ _ _ _ _ _ _ _ = _
      unfold mf_looks_70_b mf_many
      rw [h16, if_neg (nI_ge (by omega) (by omega))]
      refine r2.trans ?_
      have e8 : ((if an = 0 then (if nI fd = nI l then some ((0 : Int32)) else some ((1 : Int32))) else some ((1 : Int32))) : Option Int32) = some (lk_an an h (h + 4 + x) L Jc) := by
        rw [ean]
        by_cases u : an = 0
        · rw [if_pos u, if_pos u]
          by_cases v : fd = l
          · rw [if_pos (by rw [v]), if_pos v]
          · rw [if_neg (nI_e (by omega) (by omega) v), if_neg v]
        · rw [if_neg u, if_neg u]
      rw [show (4 : Int32) = nI 4 from rfl, mf_of_ok hx6 (by decide), Option.bind_some, mo_g1 (mo_inN hx6 (by decide)), mo_g1 (mo_inN hx6 (by decide)), nI_clamp (by omega), r6, e19, e8, Option.bind_some, mo_g1 (mo_inN hx6 (by decide)), k3, hf, nI_add, ← nI_succ]
    · rw [lk_2]
      exact s2
    · rw [lk_2]
      exact cf9_tr hcf s4
theorem l1_spec {n h : Nat} {x1 may : Int32} {m p c f ct : Nat} {L : zx_L} {M : zx_L} {K : Int32 → Int32 → zx_I → Option (Int32 × zx_I)} (ha : h = 4 ∨ h = 14) (hn : 200 ≤ n) (hct : ct ≤ 6) (hL : L 34 3 = M 0 9) : ∀ (d r e : Nat) (an : Int32) (Jc Jm : zx_I), r + d = 12 → d < e → LK h may m p c f ct Jc Jm → ∃ Jm', mf_looks_55 n x1 M K e (nI r) an Jm = K (nI (lk_1 h ct L d r an Jc).1) (lk_1 h ct L d r an Jc).2.1 Jm' ∧ LK h may m p c f ct (lk_1 h ct L d r an Jc).2.2 Jm' ∧ mk2 Jm Jm' ∧ cf9 Jc (lk_1 h ct L d r an Jc).2.2 := by
  intro d
  induction d with
  | zero =>
    intro r e an Jc Jm hr he hK
    obtain ⟨e, rfl⟩ : ∃ e9, e = e9 + 1 := ⟨e - 1, by omega⟩
    refine ⟨Jm, ?_, hK, mk2_rf, cf9_rf⟩
    show mf_looks_55_b _ _ _ _ _ _ _ _ = _
    unfold mf_looks_55_b
    rw [if_pos (show (12 : Int32) ≤ nI r from nI_le (a := 12) (by omega) (by omega)), ite_self]
    rfl
  | succ d ih =>
    intro r e an Jc Jm hr he hK
    obtain ⟨e, rfl⟩ : ∃ e9, e = e9 + 1 := ⟨e - 1, by omega⟩
    rw [lk_1]
    by_cases u : an = 0
    · rw [if_pos u]
      refine ⟨Jm, ?_, hK, mk2_rf, cf9_rf⟩
      show mf_looks_55_b _ _ _ _ _ _ _ _ = _
      unfold mf_looks_55_b
      rw [if_pos u]
    · rw [if_neg u]
      obtain ⟨J1, s1, s2, s3, s4⟩ := l2_spec (n := n) (x1 := x1) (x2 := nI r) (K := fun x3_70 J_70 => mf_looks_55 n x1 M K e (nI r + 1) x3_70 J_70) ha hn hct hL ct 0 n 0 Jc Jm (by omega) (by omega) hK
      obtain ⟨Jm', t1, t2, t3, t4⟩ := ih (r + 1) e _ _ J1 (by omega) (by omega) s2
      refine ⟨Jm', ?_, t2, mk2_tr s3 t3, cf9_tr s4 t4⟩
      rw [← t1, nI_succ r]
      refine Eq.trans ?_ s1
      show mf_looks_55_b _ _ _ _ _ _ _ _ = _
      unfold mf_looks_55_b
      rw [if_neg u, if_neg (show ¬ (12 : Int32) ≤ nI r from nI_ge (b := 12) (by omega) (by decide))]
      rfl
theorem l32 {n : Nat} {x1 : Int32} {L : zx_L} {K : zx_I → Option (Int32 × zx_I)} : ∀ (d j e : Nat) (J : zx_I), j + d = 6 → d < e → ∃ J', mf_looks_32 n x1 L K e (nI j) J = K J' ∧ (∀ b, b ≠ 19 → J' b = J b) ∧ ∀ y, J' 19 y = if j ≤ y ∧ y < j + d then 0 else J 19 y := by
  intro d
  induction d with
  | zero =>
    intro j e J hj he
    obtain ⟨e, rfl⟩ : ∃ e9, e = e9 + 1 := ⟨e - 1, by omega⟩
    refine ⟨J, ?_, fun _ _ => rfl, fun y => by rw [if_neg (by omega)]⟩
    show mf_looks_32_b _ _ _ _ _ _ _ = _
    unfold mf_looks_32_b
    rw [if_pos (show (6 : Int32) ≤ nI j from nI_le (a := 6) (by omega) (by omega))]
  | succ d ih =>
    intro j e J hj he
    obtain ⟨e, rfl⟩ : ∃ e9, e = e9 + 1 := ⟨e - 1, by omega⟩
    obtain ⟨J', f1, f2, f3⟩ := ih (j + 1) e (zx_uI J 19 j 0) (by omega) (by omega)
    refine ⟨J', ?_, fun b hb => (f2 b hb).trans (zx_uI_ne hb), fun y => ?_⟩
    · refine Eq.trans ?_ f1
      show mf_looks_32_b _ _ _ _ _ _ _ = _
      unfold mf_looks_32_b
      rw [if_neg (show ¬ (6 : Int32) ≤ nI j from nI_ge (b := 6) (by omega) (by decide)), mo_g1 (mo_inN (by omega) (by decide)), nI_clamp (by omega), ← nI_succ]
    · rw [f3 y]
      by_cases u : y = j
      · rw [if_neg (by omega), if_pos (by omega), u]
        simp [zx_uI]
      · by_cases u2 : j + 1 ≤ y ∧ y < j + 1 + d
        · rw [if_pos u2, if_pos (by omega)]
        · rw [if_neg u2, if_neg (by omega)]
          simp [zx_uI, u]
theorem cr_looks {h sp : Nat} {la : Option Nat} {I : zx_I} {L : zx_L} {J : zx_I} {M : zx_L} (what : Int32) (hW : WR h sp I L J M) : CR mm_X9_looks mm_X10_looks [.int what] h sp la I L J M := by
  have hW0 := hW
  obtain ⟨m, p, c, f, ct, q⟩ := hW
  have ha := hsp_h q.1
  have e13 := q.2.2.1.1
  have hct6 := q.2.2.1.2.1
  have h16 : J 3 16 = nI ct := (q.2.2.2.1 16 (by omega)).trans e13
  have bad : fh_who I h what = none → ¬ what = 6 → mf_looks 200 what J M = some (-1, J) → CR mm_X9_looks mm_X10_looks [.int what] h sp la I L J M := fun b1 b2 b3 => cr_ret (J' := J) (ct_X9_looks_no (d := 7) q.1 b1 b2) (mt_looks (d := 1) b3) hW0
  have good : (fh_who I h what = none ∧ what = 6) ∨ (∃ x, x < ct ∧ what = nI x ∧ fh_who I h what = some (h + 4 + x)) → mf_looks 200 what J M = ((mf_asTold 200 J).bind fun p27 => (mf_looks_32 200 what M (fun J_32 => (mf_looks_55 200 what M (fun x2_55 x3_55 J_55 => (if x3_55 = 0 then (if (6 : Int32) ≤ what then some (x2_55, J_55) else (mo_g (mo_in what 6) (some ((J_55 19 what.toNatClampNeg), J_55)))) else some ((-4 : Int32), J_55))) 200 (0 : Int32) (1 : Int32) J_32)) 200 (0 : Int32) p27)) → CR mm_X9_looks mm_X10_looks [.int what] h sp la I L J M := by
    intro hw hm
    obtain ⟨J1, f1, f2, f3, f4, f5, f6⟩ := ask_RR (n := 200) (rule := 1) (by omega) q
    have hok : fh_who I h what ≠ none ∨ what = 6 := by
      rcases hw with ⟨-, w⟩ | ⟨x, -, -, w⟩
      · exact Or.inr w
      · refine Or.inl ?_
        rw [w]
        intro z
        cases z
    have hct := ct_X9_looks (d := 2) (I := I) (L := L) (la := la) q.1 hok (KK_kr (I0 := q_ask I h 1) ha) (fun j hj Jx v hx => KK_9 ha hj Jx v hx) (fun Jx hx => by
      rw [hx.2.1, ask_ne (by omega) (by omega) (by omega)]
      exact e13) hct6 (KK_of f2.1)
    have eL : q_L L 34 3 = M 0 9 := by
      unfold q_L
      have := q.2.2.2.2.2.2.1.2.2.2.1.1
      simp [zx_uL, this]
    obtain ⟨J2, g1, g2, g3⟩ := l32 (n := 200) (x1 := what) (L := M) (K := fun J_32 => (mf_looks_55 200 what M (fun x2_55 x3_55 J_55 => (if x3_55 = 0 then (if (6 : Int32) ≤ what then some (x2_55, J_55) else (mo_g (mo_in what 6) (some ((J_55 19 what.toNatClampNeg), J_55)))) else some ((-4 : Int32), J_55))) 200 (0 : Int32) (1 : Int32) J_32)) 6 0 200 J1 rfl (by omega)
    have hLK : LK h (J 3 11) m p c f ct (q_ask I h 1) J2 := by
      refine ⟨⟨AR_34 ha f2.1 (fun _ _ => rfl) ⟨rfl, rfl⟩ (fun b hb => g2 b (by omega)) (by rw [g2 0 (by decide)]) ?_ f2.1.2.2.2.2.2.2.2.2, f2.2⟩, by rw [g2 3 (by decide), f4], fun j hj => ?_⟩
      · have := f2.1.2.2.2.2.2.2.2.1
        unfold tpr at this ⊢
        rw [g2 0 (by decide)]
        exact this
      · obtain ⟨F, eF, -, hF⟩ := (q.2.2.1.2.2 j hj).2.2.2.2.1
        refine ⟨0, F, by omega, hF, ?_, ?_, ?_⟩
        · rw [g3 j, if_pos (by omega)]
          rfl
        · rw [ask_ne (by omega) (by omega) (by omega)]
          exact eF
        · rw [ask_9 ha (by omega)]
          exact eF
    obtain ⟨J3, r1, r2, r3, r4⟩ := l1_spec (n := 200) (x1 := what) (K := fun x2_55 x3_55 J_55 => (if x3_55 = 0 then (if (6 : Int32) ≤ what then some (x2_55, J_55) else (mo_g (mo_in what 6) (some ((J_55 19 what.toNatClampNeg), J_55)))) else some ((-4 : Int32), J_55))) (L := q_L L) ha (by omega) hct6 eL 12 0 200 1 (q_ask I h 1) J2 rfl (by omega) hLK
    refine cr_any (J' := J3) hct (mt_looks (d := 1) (n := 200) (p := (lk_v (q_ask I h 1) ct (q_L L) h (fh_who I h what), J3)) ?_) ⟨m, p, c, f, ct, WRx_cg q (cW_tr (ask_cW q.1) (cW_cf9 q.1 r4)) (fun b hb => qL_34 b hb) (mW_tr f3 (mW_mk2 (mk2_tr ⟨fun b _ _ _ _ _ _ _ _ z => g2 b z, fun k _ => by rw [g2 0 (by decide)]⟩ r3)))⟩
    rw [hm, f1, Option.bind_some]
    refine g1.trans ?_
    refine r1.trans ?_
    unfold lk_v
    by_cases u : (lk_1 h ct (q_L L) 12 0 1 (q_ask I h 1)).2.1 = 0
    · rw [if_pos u, if_pos u]
      rcases hw with ⟨w1, w2⟩ | ⟨x, hx, w2, w1⟩
      · rw [w1, if_pos (by rw [w2]; decide)]
      · obtain ⟨l, F, l5, F60, e19, e5, e9⟩ := r2.2.2 x hx
        rw [w1, w2, if_neg (show ¬ (6 : Int32) ≤ nI x from nI_ge (b := 6) (by omega) (by decide)), mo_g1 (mo_inN (by omega) (by decide)), nI_clamp (by omega), e19]
        dsimp only
        rw [e5, e9, pk_sub (by omega), show F + l - F = l by omega]
    · rw [if_neg u, if_neg u]
  rcases in_cs (x := what) (a := 0) (b := 6) with ⟨z, z1⟩ | ⟨z, z1, z2⟩
  · refine bad ?_ ?_ ?_
    · rcases who_cs what e13 hct6 h16 with ⟨w1, w2⟩ | ⟨x, hx, rfl, w1, w2⟩
      · exact w1
      · exfalso
        rcases z1 with z1 | z1
        · exact nI_pos (show x < 2 ^ 31 by omega) z1
        · exact nI_nlt (a := 6) (b := x) (by omega) (by decide) z1
    · intro w
      rw [w] at z1
      rcases z1 with z1 | z1 <;> exact absurd z1 (by decide)
    · unfold mf_looks
      rw [if_pos z]
  · obtain ⟨y, hy, rfl⟩ := in_le (k := 6) rfl z1 z2
    rcases who_cs (nI y) e13 hct6 h16 with ⟨w1, w2⟩ | ⟨x, hx, ex, w1, w2⟩
    · by_cases y6 : y = 6
      · subst y6
        refine good (Or.inl ⟨w1, rfl⟩) ?_
        unfold mf_looks
        rw [if_neg (by rw [z]; decide), if_pos (show (6 : Int32) ≤ nI 6 by decide)]
      · refine bad w1 (nI_e (b := 6) (by omega) (by decide) y6) ?_
        unfold mf_looks
        rw [if_neg (by rw [z]; decide), if_neg (show ¬ (6 : Int32) ≤ nI y from nI_ge (b := 6) (by omega) (by decide)), if_pos w2]
    · refine good (Or.inr ⟨x, hx, ex, w1⟩) ?_
      have : y = x := (nI_eq (by omega) (by omega)).mp ex
      unfold mf_looks
      rw [if_neg (by rw [z]; decide), if_neg (show ¬ (6 : Int32) ≤ nI y from nI_ge (b := 6) (by omega) (by decide)), if_neg (by rw [w2]; decide)]
