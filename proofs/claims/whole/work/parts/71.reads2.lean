/-! fault and lay, in both -/
theorem tx_of {l : Nat} {I J K J' : zx_I} (hl : l ≤ 400) (h0 : I 0 1 = nI l) (j0 : J 0 0 = nI l) (hb : ∀ k, k < l → bytr (I 1 k) (J 1 k)) (k0 : K 0 = I 0) (k1 : K 1 = I 1) (j0' : J' 0 0 = J 0 0) (j1 : J' 1 = J 1) : tx l (fun k => (J 1 k).toInt.toNat) K J' := by
  refine ⟨hl, by rw [k0]; exact h0, j0'.trans j0, fun k hk => ?_⟩
  rw [k1, j1]
  rcases hb k hk with ⟨b, b1, b2, b3⟩ | ⟨b1, b, b2, b3, b4⟩
  · have e : (J 1 k).toInt.toNat = b := by rw [b3, nI_toInt (by omega)]; rfl
    refine ⟨?_, ?_, fun _ => ?_, fun w => ?_⟩
    · show (J 1 k).toInt.toNat < 256
      omega
    · show J 1 k = nI (J 1 k).toInt.toNat
      rw [e]; exact b3
    · show I 1 k = nI (J 1 k).toInt.toNat
      rw [e]; exact b2
    · have w : 128 ≤ (J 1 k).toInt.toNat := w
      omega
  · have e : (J 1 k).toInt.toNat = b := by rw [b4, nI_toInt (by omega)]; rfl
    refine ⟨?_, ?_, fun w => ?_, fun _ => b1⟩
    · show (J 1 k).toInt.toNat < 256
      omega
    · show J 1 k = nI (J 1 k).toInt.toNat
      rw [e]; exact b4
    · have w : (J 1 k).toInt.toNat < 128 := w
      omega
theorem first_PS {l : Nat} {sp : Nat} {I J : zx_I} {T : Nat → Nat} {n9 : Nat} (ha : sp = 4 ∨ sp = 14) (hn : 200 ≤ n9) (hT : ∀ J', J' 0 0 = J 0 0 → J' 1 = J 1 → tx l T (fh_clear I sp) J') (hbit : ∀ i, i < 6 → I (sp + 4 + i) 0 = nI (2 ^ i)) : ∃ J1, mf_firstHouse n9 (zx_uI (zx_uI J 0 2 0) 0 3 0) = some J1 ∧ fr3 J J1 ∧ J1 0 3 = 0 ∧ PS sp l T true (fh_clear I sp) J1 1 10 10 10 0 0 := by
  obtain ⟨c1, c2, ⟨c30, c31, c32, c33, c34, c35⟩, ⟨c38, c39, c3a, c3b, c3c, c3d⟩⟩ := fhc (I := I) (a := sp) ha
  obtain ⟨JA, r1, r2, r3, -⟩ := fh_loop (n := n9) (K := fun J_2 => some (zx_uI (zx_uI (zx_uI (zx_uI (zx_uI (zx_uI (zx_uI (zx_uI (zx_uI (zx_uI J_2 2 0 1) 2 1 10) 2 2 10) 2 3 10) 2 6 1) 2 8 1) 2 10 1) 2 12 1) 2 14 1) 2 15 40)) 65 n9 0 (zx_uI (zx_uI J 0 2 0) 0 3 0) (by omega) (by omega)
  have nb : ∀ b, b ≠ 2 → (zx_uI (zx_uI (zx_uI (zx_uI (zx_uI (zx_uI (zx_uI (zx_uI (zx_uI (zx_uI JA 2 0 1) 2 1 10) 2 2 10) 2 3 10) 2 6 1) 2 8 1) 2 10 1) 2 12 1) 2 14 1) 2 15 40) b = JA b := fun b hb => by
    rw [zx_uI_ne hb, zx_uI_ne hb, zx_uI_ne hb, zx_uI_ne hb, zx_uI_ne hb, zx_uI_ne hb, zx_uI_ne hb, zx_uI_ne hb, zx_uI_ne hb, zx_uI_ne hb]
  have va : ∀ k, (zx_uI (zx_uI (zx_uI (zx_uI (zx_uI (zx_uI (zx_uI (zx_uI (zx_uI (zx_uI JA 2 0 1) 2 1 10) 2 2 10) 2 3 10) 2 6 1) 2 8 1) 2 10 1) 2 12 1) 2 14 1) 2 15 40) 2 k = if k = 15 then 40 else if k = 14 then 1 else if k = 12 then 1 else if k = 10 then 1 else if k = 8 then 1 else if k = 6 then 1 else if k = 3 then 10 else if k = 2 then 10 else if k = 1 then 10 else if k = 0 then 1 else JA 2 k := fun k => by
    rw [zx_uI_at, zx_uI_at, zx_uI_at, zx_uI_at, zx_uI_at, zx_uI_at, zx_uI_at, zx_uI_at, zx_uI_at, zx_uI_at]
    rfl
  generalize hJ1 : (zx_uI (zx_uI (zx_uI (zx_uI (zx_uI (zx_uI (zx_uI (zx_uI (zx_uI (zx_uI JA 2 0 1) 2 1 10) 2 2 10) 2 3 10) 2 6 1) 2 8 1) 2 10 1) 2 12 1) 2 14 1) 2 15 40) = J1 at nb va
  have e0 : ∀ y, y ≠ 2 → y ≠ 3 → J1 0 y = J 0 y := fun y y2 y3 => by
    rw [nb 0 (by decide), r2 0 (by decide)]
    simp [zx_uI, y2, y3]
  have f : fr3 J J1 := ⟨fun b b0 b2 => by rw [nb b b2, r2 b b2, zx_uI_ne b0, zx_uI_ne b0], fun y y2 y3 _ => e0 y y2 y3⟩
  refine ⟨J1, ?_, f, ?_, hT J1 (e0 0 (by decide) (by decide)) (f.1 1 (by decide) (by decide)), c30, ⟨⟨c31, c32, c33, c34, by decide, by decide, by decide, by decide, by decide, by decide, by decide⟩, ⟨0, c35, by decide, by decide⟩, fun s s1 s2 => ?_, ⟨0, c38, by decide, by decide⟩, ⟨0, c39, by decide, by decide⟩, ⟨1, c3a, by decide, by decide⟩, ⟨1, c3b, by decide, by decide⟩, ⟨40, c3c, by decide, by decide⟩, ⟨0, by decide, c3d, fun i hi => by omega⟩, fun i hi => ?_⟩, fun s s1 s2 => ?_, ⟨c3d, by decide, fun i hi => by omega⟩, fun k hk => ?_, ?_, Nat.zero_le _⟩
  · unfold mf_firstHouse
    rw [← hJ1]
    exact r1
  · rw [nb 0 (by decide), r2 0 (by decide)]
    simp [zx_uI]
  · obtain ⟨u1, u2⟩ := c2 s (by omega)
    rw [u1, u2]
    exact ⟨⟨0, rfl, by decide, by decide⟩, ⟨1, rfl, by decide, by decide⟩⟩
  · rw [c1 _ (by omega) (by omega) (by omega)]
    exact hbit i hi
  · rw [(c2 s (by omega)).1]
    exact ⟨0, rfl, by decide, by decide⟩
  · rw [va]
    have z : ∀ k, k < 65 → JA 2 k = 0 := fun k hk => r3 k (Nat.zero_le _) hk
    obtain ⟨u1, u2⟩ := c2 1 (by decide)
    obtain ⟨u3, u4⟩ := c2 2 (by decide)
    obtain ⟨u5, u6⟩ := c2 3 (by decide)
    rcases (show k = 0 ∨ k = 1 ∨ k = 2 ∨ k = 3 ∨ k = 4 ∨ k = 5 ∨ k = 6 ∨ k = 7 ∨ k = 8 ∨ k = 9 ∨ k = 10 ∨ k = 11 ∨ k = 12 ∨ k = 13 ∨ k = 14 ∨ k = 15 ∨ k = 16 by omega) with rfl | rfl | rfl | rfl | rfl | rfl | rfl | rfl | rfl | rfl | rfl | rfl | rfl | rfl | rfl | rfl | rfl
    · exact c31.symm
    · exact c32.symm
    · exact c33.symm
    · exact c34.symm
    · exact (z 4 (by decide)).trans c35.symm
    · exact (z 5 (by decide)).trans u1.symm
    · exact u2.symm
    · exact (z 7 (by decide)).trans u3.symm
    · exact u4.symm
    · exact (z 9 (by decide)).trans u5.symm
    · exact u6.symm
    · exact (z 11 (by decide)).trans c38.symm
    · exact c3b.symm
    · exact (z 13 (by decide)).trans c39.symm
    · exact c3a.symm
    · exact c3c.symm
    · exact (z 16 (by decide)).trans c3d.symm
  · rw [nb 0 (by decide), r2 0 (by decide)]
    simp [zx_uI]
    rfl
theorem read_both {h sp : Nat} {I : zx_I} {L : zx_L} {J : zx_I} {M : zx_L} {m p c f ct l : Nat} (q : WRx h sp I L J M m p c f ct) (hl : l ≤ 400) (h0 : I 0 1 = nI l) (j0 : J 0 0 = nI l) (hb : ∀ k, k < l → bytr (I 1 k) (J 1 k)) : ∃ J', fr3 J J' ∧ cT sp I (q_fault I sp l).2 ∧ ((mf_isRead 1000 J = some (1, J') ∧ (q_fault I sp l).1 = -4 ∧ ∃ T m p c f ct, PS sp l T false (q_fault I sp l).2 J' m p c f ct l) ∨ (mf_isRead 1000 J = some (0, J') ∧ ∃ pp, pp < 2 ^ 30 ∧ (q_fault I sp l).1 = nI pp ∧ J' 0 3 = nI pp)) := by
  have ha := hsp_s q.1
  obtain ⟨c1, -, -, -⟩ := fhc (I := I) (a := sp) ha
  have hT : ∀ J', J' 0 0 = J 0 0 → J' 1 = J 1 → tx l (fun k => (J 1 k).toInt.toNat) (fh_clear I sp) J' := fun J' e0 e1 => tx_of hl h0 j0 hb (c1 0 (by omega) (by omega) (by omega)) (c1 1 (by omega) (by omega) (by omega)) e0 e1
  obtain ⟨J1, r1, r2, r3, r4⟩ := first_PS (n9 := 1000) ha (by decide) hT (fun i hi => (q.2.2.2.2.1 i hi).1)
  have cT0 : cT sp I (fh_clear I sp) := ⟨fun b _ _ y4 y5 y6 _ => c1 b y4 y5 y6, fun i hi => by rw [c1 _ (by omega) (by omega) (by omega)]⟩
  have eR : mf_isRead 1000 J = mf_isRead_19 1000 (fun J_19 => some ((1 : Int32), J_19)) 1000 1 J1 := by
    unfold mf_isRead
    rw [r1, Option.bind_some]
  by_cases l0 : l = 0
  · subst l0
    have eq0 : q_fault I sp 0 = (0, fh_clear I sp) := by unfold q_fault; rw [if_pos rfl]
    have p2 : J1 0 2 = nI 0 := r4.2.2.2.2.2.2.1
    have z0' : J1 0 0 = nI 0 := r4.1.2.2.1
    have htx := r4.1
    have hby : mf_byteNow (zx_uI J1 0 3 (J1 0 2)) = some (-4) := by
      rw [by_at (J := zx_uI J1 0 3 (J1 0 2)) htx (by simp [zx_uI]; exact z0') (zx_uI_ne (by decide)) (by simp [zx_uI]; exact p2) (by omega), if_neg (by decide)]
    have f1 : fr3 J (zx_uI (zx_uI J1 0 3 (J1 0 2)) 0 2 (zx_uI J1 0 3 (J1 0 2) 0 2 + 1)) := fr3_tr r2 ⟨fun b b0 _ => by rw [zx_uI_ne b0, zx_uI_ne b0], fun y y2 y3 _ => by simp [zx_uI, y2, y3]⟩
    rw [eq0, eR]
    refine ⟨_, f1, cT0, Or.inr ⟨?_, 0, by decide, rfl, ?_⟩⟩
    · show mf_isRead_19_b _ _ _ _ _ = _
      unfold mf_isRead_19_b
      rw [p2, z0', if_neg (by decide), if_neg (by decide), ← p2]
      have : mf_isItem 1000 1 (zx_uI J1 0 3 (J1 0 2)) = some (0, zx_uI (zx_uI J1 0 3 (J1 0 2)) 0 2 (zx_uI J1 0 3 (J1 0 2) 0 2 + 1)) := by
        unfold mf_isItem
        rw [hby, Option.bind_some, if_neg (by decide), Option.bind_some, if_neg (by decide)]
      rw [this, Option.bind_some, if_pos rfl]
    · simp [zx_uI]
      exact p2
  · have eq0 : q_fault I sp l = ff_loop sp l l 0 (fh_clear I sp) := by unfold q_fault; rw [if_neg l0]
    obtain ⟨J', t1, t2, t3⟩ := text_loop (K := fun J_19 => some ((1 : Int32), J_19)) ha (n9 := 1000) (by decide) hl l 1000 0 true (fh_clear I sp) J1 1 10 10 10 0 r4 (by omega) (by omega) (fun _ => by omega)
    rw [eq0, eR]
    refine ⟨J', fr3_tr r2 t1, cT_tr cT0 t2, ?_⟩
    rcases t3 with ⟨s1, s2, m, p, c, f, ct, s3⟩ | ⟨s1, pp, s2, s3, s4⟩
    · exact Or.inl ⟨s1, s2, _, m, p, c, f, ct, s3⟩
    · exact Or.inr ⟨s1, pp, by omega, s3, s4⟩
theorem cr_fault {h sp : Nat} {la : Option Nat} {I : zx_I} {L : zx_L} {J : zx_I} {M : zx_L} (hW : WR h sp I L J M) : CR mm_X9_fault mm_X10_fault [] h sp la I L J M := by
  obtain ⟨m, p, c, f, ct, q⟩ := hW
  obtain ⟨l, l1, l2, l3, l4⟩ := q.2.2.2.2.2.1
  obtain ⟨J', t1, t2, t3⟩ := read_both q l1 l2 l3 l4
  have hW' : WR h sp (q_fault I sp l).2 L J' M := ⟨m, p, c, f, ct, WRx_cg q (cT_cW q.1 t2) (fun _ _ => rfl) (fr3_mW t1)⟩
  have hc : zx_M0 mm_X9_fault 8 0 0 [.ref 0] zw_SC I L (zw_RC h sp la) (zw_ret (some (.int (q_fault I sp l).1)) zw_SC (q_fault I sp l).2 L (zw_RC h sp la)) := by
    rcases q.1 with ⟨rfl, rfl⟩ | ⟨rfl, rfl⟩
    · exact ct_X9_fault_4 (d := 3) l1 l2
    · exact ct_X9_fault_14 (d := 3) l1 l2
  have hm : mf_fault 1000 J = some ((q_fault I sp l).1, J') := by
    unfold mf_fault
    rcases t3 with ⟨s1, s2, -⟩ | ⟨s1, pp, s2, s3, s4⟩
    · rw [s1, Option.bind_some]
      dsimp only
      rw [if_neg (by decide), s2]
    · rw [s1, Option.bind_some]
      dsimp only
      rw [if_pos rfl, s3, s4]
  exact cr_ret (J' := J') (M' := M) hc (mt_fault (d := 2) hm) hW'
theorem lay_both {h sp l : Nat} {I K : zx_I} {L : zx_L} {J J1 : zx_I} {M : zx_L} {T : Nat → Nat} {m0 p0 c0 f0 ct0 m p c f ct : Nat} (q : WRx h sp I L J M m0 p0 c0 f0 ct0) (hf : fr3 J J1) (hc : cT sp I K) (hP : PS sp l T false K J1 m p c f ct l) : ∃ J', mf_layDown 1000 J1 M = some (J', zx_uL M 0 9 0) ∧ J' 3 16 = q_laym K sp 13 ∧ WRx sp h (q_laym K) (zx_uL L 24 2 0) J' (zx_uL M 0 9 0) m p c f ct := by
  obtain ⟨p1, p2, ⟨p3, p4⟩, p5, ⟨p6, p7, p8⟩, p9, p10, p11⟩ := hP
  obtain ⟨a1, ⟨a2, a2'⟩, -, -, a4, ⟨lt, l1, l2, l3, l4⟩, -, -⟩ := q
  obtain ⟨JB, s1, s2, s3, -⟩ := ly_loop (n := 1000) (L := M) (K := fun J_2 => mf_layDown_28 1000 M (fun J_28 => some ((zx_uI (zx_uI J_28 0 8 50) 0 11 0), (zx_uL M 0 9 (0 : Int64)))) 1000 (0 : Int32) J_2) 65 1000 0 J1 (by omega) (by omega)
  obtain ⟨JC, t1, t2, t3, -⟩ := ly2_loop (n := 1000) (L := M) (K := fun J_28 => some ((zx_uI (zx_uI J_28 0 8 50) 0 11 0), (zx_uL M 0 9 (0 : Int64)))) 6 1000 0 JB (by omega) (by omega)
  have ne : ∀ b, b ≠ 0 → (zx_uI (zx_uI JC 0 8 50) 0 11 0) b = JC b := fun b hb => by rw [zx_uI_ne hb, zx_uI_ne hb]
  have e16 : (zx_uI (zx_uI JC 0 8 50) 0 11 0) 3 = JB 3 := by rw [ne 3 (by decide), t2 3 (by decide) (by decide)]
  have fw : ∀ b, b ≠ 0 → b ≠ 24 → b ≠ 25 → b ≠ 26 → q_laym K b = K b := fun b b0 b4 b5 b6 => by
    unfold q_laym fw_clear
    rw [zx_uI_ne b0, zmap_ne b6, zx_uI_ne b4, zmap_ne b5]
  have w25 : ∀ k, k < 6 → q_laym K 25 k = nI k := fun k hk => by
    unfold q_laym fw_clear
    rw [zx_uI_ne (by decide), zmap_ne (by decide), zx_uI_ne (by decide)]
    simp [zmap, zr, hk]
  have w26 : ∀ k, k < 6 → q_laym K 26 k = fw_ten k := fun k hk => by
    unfold q_laym fw_clear
    rw [zx_uI_ne (by decide)]
    simp [zmap, zr, hk]
  have w24 : q_laym K 24 1 = 50 := by
    unfold q_laym fw_clear
    rw [zx_uI_ne (by decide), zmap_ne (by decide)]
    simp [zx_uI]
  have w0 : q_laym K 0 1 = K 0 1 ∧ q_laym K 0 7 = 0 := by
    have : ∀ y, q_laym K 0 y = if y = 7 then 0 else K 0 y := fun y => by
      unfold q_laym fw_clear
      rw [zx_uI_at, zmap_ne (by decide), zx_uI_ne (by decide), zmap_ne (by decide)]
      rfl
    rw [this, this]
    exact ⟨rfl, rfl⟩
  have hs : hsame K (q_laym K) sp := ⟨fw _ (by unfold hsp at a1; omega) (by unfold hsp at a1; omega) (by unfold hsp at a1; omega) (by unfold hsp at a1; omega), fw _ (by omega) (by unfold hsp at a1; omega) (by unfold hsp at a1; omega) (by unfold hsp at a1; omega), fw _ (by omega) (by unfold hsp at a1; omega) (by unfold hsp at a1; omega) (by unfold hsp at a1; omega), fun i hi k _ => by rw [fw _ (by omega) (by unfold hsp at a1; omega) (by unfold hsp at a1; omega) (by unfold hsp at a1; omega)]⟩
  have hr : ∀ k, k < 17 + 8 * ct → (zx_uI (zx_uI JC 0 8 50) 0 11 0) 3 k = ho (q_laym K) sp k := fun k hk => by
    rw [e16, s3 k (Nat.zero_le _) (by omega), ho_cg hs p7 hk]
    exact p9 k hk
  have c01 : K 0 = I 0 ∧ K 1 = I 1 := ⟨hc.1 0 (by decide) (by decide) (by unfold hsp at a1; omega) (by omega) (by omega) (by omega), hc.1 1 (by decide) (by decide) (by unfold hsp at a1; omega) (by unfold hsp at a1; omega) (by omega) (by omega)⟩
  have j00 : (zx_uI (zx_uI JC 0 8 50) 0 11 0) 0 0 = J 0 0 := by
    rw [show (zx_uI (zx_uI JC 0 8 50) 0 11 0) 0 0 = JC 0 0 by simp [zx_uI], t2 0 (by decide) (by decide), s2 0 (by decide)]
    exact hf.2 0 (by decide) (by decide) (by decide)
  have j1 : (zx_uI (zx_uI JC 0 8 50) 0 11 0) 1 = J 1 := by
    rw [ne 1 (by decide), t2 1 (by decide) (by decide), s2 1 (by decide)]
    exact hf.1 1 (by decide) (by decide)
  refine ⟨_, ?_, ?_, ?_, ⟨hvt_cg hs.1 p3, hvr_cg hs p4⟩, ⟨by rw [hs.1]; exact p6, p7, fun i hi => hvb_cg (fun k hk => hs.2.2.2 i (by omega) k hk) (p8 i hi)⟩, hr, fun i hi => ⟨?_, fun i1 i3 => by rw [hs.2.1]; exact p5 i i1 i3⟩, ⟨lt, l1, by rw [w0.1, c01.1]; exact l2, by rw [j00]; exact l3, fun k hk => by rw [fw 1 (by decide) (by decide) (by decide) (by decide), c01.2, j1]; exact l4 k hk⟩, ⟨⟨fun k hk => ⟨k, hk, w25 k (by omega)⟩, fun k k1 k2 => ⟨k, k1, k2, w25 k k2⟩⟩, fun k hk => ?_, ⟨?_, 50, w24, by decide, by decide⟩, ⟨?_, 0, by decide, ?_⟩, fun k hk => ⟨?_, ?_⟩⟩, 0, by decide, w0.2, ?_, fun x hx => by omega⟩
  · unfold mf_layDown
    exact s1.trans t1
  · rw [hr 16 (by omega)]
    rfl
  · unfold hsp at a1 ⊢
    omega
  · rw [fw _ (by omega) (by unfold hsp at a1; omega) (by unfold hsp at a1; omega) (by unfold hsp at a1; omega), hc.1 _ (by omega) (by unfold hsp at a1; omega) (by unfold hsp at a1; omega) (by unfold hsp at a1; omega) (by unfold hsp at a1; omega) (by unfold hsp at a1; omega)]
    exact a2'.2.2.2.2.2.2.2.2 i hi
  · rw [ne 4 (by decide), (t3 k (Nat.zero_le _) hk).1]
    exact (w25 k hk).symm
  · rw [w24]
    simp [zx_uI]
  · simp [zx_uL]
  · simp [zx_uL]
    rfl
  · rw [ne 5 (by decide), (t3 k (Nat.zero_le _) hk).2]
    exact (w26 k hk).symm
  · rw [show q_laym K (24 + 2) k = q_laym K 26 k from rfl, w26 k hk]
    unfold fw_ten
    split
    · exact ⟨10, rfl, by decide, by decide⟩
    · exact ⟨0, rfl, by decide, by decide⟩
  · simp [zx_uI]
    rfl
theorem cr_lay {h sp : Nat} {la : Option Nat} {I : zx_I} {L : zx_L} {J : zx_I} {M : zx_L} (hW : WR h sp I L J M) : CR mm_X9_lay mm_X10_lay [] h sp la I L J M := by
  obtain ⟨m, p, c, f, ct, q⟩ := hW
  obtain ⟨l, l1, l2, l3, l4⟩ := q.2.2.2.2.2.1
  obtain ⟨J', t1, t2, t3⟩ := read_both q l1 l2 l3 l4
  have hc : zx_M0 mm_X9_lay 8 0 0 [.ref 0] zw_SC I L (zw_RC h sp la) (if (q_fault I sp l).1 = -4 then zw_ret (some (.int (q_laym (q_fault I sp l).2 sp 13))) zw_SC (q_laym (q_fault I sp l).2) (zx_uL L 24 2 0) (zw_RC sp h la) else zw_ret (some (.int (-2))) zw_SC (q_fault I sp l).2 L (zw_RC h sp la)) := by
    rcases q.1 with ⟨rfl, rfl⟩ | ⟨rfl, rfl⟩
    · exact ct_X9_lay_4 (d := 2) l1 l2
    · exact ct_X9_lay_14 (d := 2) l1 l2
  rcases t3 with ⟨s1, s2, T, m', p', c', f', ct', s3⟩ | ⟨s1, pp, s2, s3, s4⟩
  · rw [if_pos s2] at hc
    obtain ⟨J2, u1, u2, u3⟩ := lay_both q t1 t2 s3
    have hm : mf_lay 1000 J M = some (q_laym (q_fault I sp l).2 sp 13, J2, zx_uL M 0 9 0) := by
      unfold mf_lay
      rw [s1, Option.bind_some]
      dsimp only
      rw [if_neg (by decide), u1, Option.bind_some]
      dsimp only
      rw [u2]
    exact cr_ret (J' := J2) (M' := zx_uL M 0 9 0) hc (mt_lay (d := 2) hm) ⟨m', p', c', f', ct', u3⟩
  · have hne : ¬ (q_fault I sp l).1 = -4 := fun w => by
      have w2 : nI pp = -4 := s3.symm.trans w
      exact absurd (show nI pp < 0 by rw [w2]; decide) (nI_pos (by omega))
    rw [if_neg hne] at hc
    have hm : mf_lay 1000 J M = some (-2, J', M) := by
      unfold mf_lay
      rw [s1, Option.bind_some, if_pos rfl]
    exact cr_ret (J' := J') (M' := M) hc (mt_lay (d := 2) hm) ⟨m, p, c, f, ct, WRx_cg q (cT_cW q.1 t2) (fun _ _ => rfl) (fr3_mW t1)⟩
