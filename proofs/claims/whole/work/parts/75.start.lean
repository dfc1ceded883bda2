/-! the two together, after both constructors -/
theorem kv_4 : ki_92 4 1 = nI 1 ∧ ki_92 4 2 = nI 10 ∧ ki_92 4 3 = nI 10 ∧ ki_92 4 4 = nI 10 ∧ ki_92 4 5 = nI 0 ∧ ki_92 4 8 = nI 0 ∧ ki_92 4 11 = nI 1 ∧ ki_92 4 9 = nI 0 ∧ ki_92 4 10 = nI 1 ∧ ki_92 4 12 = nI 40 ∧ ki_92 4 13 = nI 0 := ⟨rfl, rfl, rfl, rfl, rfl, rfl, rfl, rfl, rfl, rfl, rfl⟩
theorem kv_5 : ki_92 5 1 = 0 ∧ ki_92 6 1 = 1 ∧ ki_92 5 2 = 0 ∧ ki_92 6 2 = 1 ∧ ki_92 5 3 = 0 ∧ ki_92 6 3 = 1 := ⟨rfl, rfl, rfl, rfl, rfl, rfl⟩
theorem both_start : ∃ J1 J, mf_firstHouse 1000 kmi_0 = some J1 ∧ mf_layDown 1000 J1 kml_0 = some (J, zx_uL kml_0 0 9 0) ∧ WR 4 14 ki_92 kl_3 J (zx_uL kml_0 0 9 0) := by
  have hbit : ∀ s, s = 4 ∨ s = 14 → ∀ i, i < 6 → ki_92 (s + 4 + i) 0 = nI (2 ^ i) := fun s hs i hi => by
    rcases hs with rfl | rfl <;> rcases (show i = 0 ∨ i = 1 ∨ i = 2 ∨ i = 3 ∨ i = 4 ∨ i = 5 by omega) with rfl | rfl | rfl | rfl | rfl | rfl <;> rfl
  obtain ⟨J1, r1, r2, -, r4⟩ := first_PS (sp := 4) (I := ki_92) (J := kmi_0) (l := 0) (T := fun _ => 0) (n9 := 1000) (Or.inl rfl) (by decide) (fun J' e0 _ => ⟨Nat.zero_le _, rfl, e0, fun k hk => absurd hk (Nat.not_lt_zero _)⟩) (hbit 4 (Or.inl rfl))
  have e : zx_uI (zx_uI kmi_0 0 2 0) 0 3 0 = kmi_0 := by
    funext a k
    simp [zx_uI, kmi_0]
  rw [e] at r1
  obtain ⟨JB, s1, s2, s3, -⟩ := ly_loop (n := 1000) (L := kml_0) (K := fun J_2 => mf_layDown_28 1000 kml_0 (fun J_28 => some ((zx_uI (zx_uI J_28 0 8 50) 0 11 0), (zx_uL kml_0 0 9 (0 : Int64)))) 1000 (0 : Int32) J_2) 65 1000 0 J1 (by omega) (by omega)
  obtain ⟨JC, t1, t2, t3, -⟩ := ly2_loop (n := 1000) (L := kml_0) (K := fun J_28 => some ((zx_uI (zx_uI J_28 0 8 50) 0 11 0), (zx_uL kml_0 0 9 (0 : Int64)))) 6 1000 0 JB (by omega) (by omega)
  obtain ⟨-, c2, ⟨-, hk1, c32, c33, c34, c35⟩, ⟨c38, c39, c3a, c3b, c3c, c3d⟩⟩ := fhc (I := ki_92) (a := 4) (Or.inl rfl)
  obtain ⟨u1, u2⟩ := c2 1 (by decide)
  obtain ⟨u3, u4⟩ := c2 2 (by decide)
  obtain ⟨u5, u6⟩ := c2 3 (by decide)
  have hv := kv_4
  have hw := kv_5
  have ne : ∀ b, b ≠ 0 → (zx_uI (zx_uI JC 0 8 50) 0 11 0) b = JC b := fun b hb => by rw [zx_uI_ne hb, zx_uI_ne hb]
  have six : ∀ (P : Nat → Prop), P 0 → P 1 → P 2 → P 3 → P 4 → P 5 → ∀ k, k < 6 → P k := fun P p0 p1 p2 p3 p4 p5 k hk => by
    rcases (show k = 0 ∨ k = 1 ∨ k = 2 ∨ k = 3 ∨ k = 4 ∨ k = 5 by omega) with rfl | rfl | rfl | rfl | rfl | rfl <;> assumption
  have w25 : ∀ k, k < 6 → ki_92 25 k = nI k := six (fun k => ki_92 25 k = nI k) rfl rfl rfl rfl rfl rfl
  have w26 : ∀ k, k < 6 → ki_92 26 k = fw_ten k := six (fun k => ki_92 26 k = fw_ten k) rfl rfl rfl rfl rfl rfl
  refine ⟨J1, zx_uI (zx_uI JC 0 8 50) 0 11 0, r1, ?_, 1, 10, 10, 10, 0, Or.inl ⟨rfl, rfl⟩, ⟨⟨rfl, rfl, rfl, rfl, by decide, by decide, by decide, by decide, by decide, by decide, by decide⟩, ⟨0, rfl, by decide, by decide⟩, fun s s1 s2 => ?_, ⟨0, rfl, by decide, by decide⟩, ⟨0, rfl, by decide, by decide⟩, ⟨1, rfl, by decide, by decide⟩, ⟨1, rfl, by decide, by decide⟩, ⟨40, rfl, by decide, by decide⟩, ⟨0, by decide, rfl, fun i hi => by omega⟩, hbit 4 (Or.inl rfl)⟩, ⟨rfl, by decide, fun i hi => by omega⟩, fun k hk => ?_, fun i hi => ⟨hbit 14 (Or.inr rfl) i hi, fun i1 i3 => ?_⟩, ⟨0, by decide, rfl, ?_, fun k hk => by omega⟩, ⟨⟨fun k hk => by omega, fun k _ k2 => ⟨k, Nat.zero_le _, k2, w25 k k2⟩⟩, fun k hk => ?_, ⟨?_, 50, rfl, by decide, by decide⟩, ⟨?_, 0, by decide, rfl⟩, fun k hk => ⟨?_, ?_⟩⟩, 0, by decide, rfl, ?_, fun x hx => by omega⟩
  · unfold mf_layDown
    exact s1.trans t1
  · rcases (show s = 1 ∨ s = 2 ∨ s = 3 by omega) with rfl | rfl | rfl <;> exact ⟨⟨0, rfl, by decide, by decide⟩, ⟨1, rfl, by decide, by decide⟩⟩
  · rw [ne 3 (by decide), t2 3 (by decide) (by decide), s3 k (Nat.zero_le _) (by omega), r4.2.2.2.2.2.1 k hk]
    rcases (show k = 0 ∨ k = 1 ∨ k = 2 ∨ k = 3 ∨ k = 4 ∨ k = 5 ∨ k = 6 ∨ k = 7 ∨ k = 8 ∨ k = 9 ∨ k = 10 ∨ k = 11 ∨ k = 12 ∨ k = 13 ∨ k = 14 ∨ k = 15 ∨ k = 16 by omega) with rfl | rfl | rfl | rfl | rfl | rfl | rfl | rfl | rfl | rfl | rfl | rfl | rfl | rfl | rfl | rfl | rfl
    · exact hk1.trans hv.1.symm
    · exact c32.trans hv.2.1.symm
    · exact c33.trans hv.2.2.1.symm
    · exact c34.trans hv.2.2.2.1.symm
    · exact c35.trans hv.2.2.2.2.1.symm
    · exact u1.trans hw.1.symm
    · exact u2.trans hw.2.1.symm
    · exact u3.trans hw.2.2.1.symm
    · exact u4.trans hw.2.2.2.1.symm
    · exact u5.trans hw.2.2.2.2.1.symm
    · exact u6.trans hw.2.2.2.2.2.symm
    · exact c38.trans hv.2.2.2.2.2.1.symm
    · exact c3b.trans hv.2.2.2.2.2.2.1.symm
    · exact c39.trans hv.2.2.2.2.2.2.2.1.symm
    · exact c3a.trans hv.2.2.2.2.2.2.2.2.1.symm
    · exact c3c.trans hv.2.2.2.2.2.2.2.2.2.1.symm
    · exact c3d.trans hv.2.2.2.2.2.2.2.2.2.2.symm
  · rcases (show i = 1 ∨ i = 2 ∨ i = 3 by omega) with rfl | rfl | rfl <;> exact ⟨0, rfl, by decide, by decide⟩
  · rw [show (zx_uI (zx_uI JC 0 8 50) 0 11 0) 0 0 = JC 0 0 by simp [zx_uI], t2 0 (by decide) (by decide), s2 0 (by decide), r2.2 0 (by decide) (by decide) (by decide)]
    rfl
  · rw [ne 4 (by decide), (t3 k (Nat.zero_le _) hk).1]
    exact (w25 k hk).symm
  · show (zx_uI (zx_uI JC 0 8 50) 0 11 0) 0 8 = 50
    simp [zx_uI]
  · show zx_uL kml_0 0 9 0 0 9 = 0
    simp [zx_uL]
  · rw [ne 5 (by decide), (t3 k (Nat.zero_le _) hk).2]
    exact (w26 k hk).symm
  · rw [show ki_92 (24 + 2) k = ki_92 26 k from rfl, w26 k hk]
    unfold fw_ten
    split
    · exact ⟨10, rfl, by decide, by decide⟩
    · exact ⟨0, rfl, by decide, by decide⟩
  · simp [zx_uI]
    rfl
