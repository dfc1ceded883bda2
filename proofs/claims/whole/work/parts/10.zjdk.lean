/-! Math.max, Math.min, System.arraycopy -/
section
variable {M : zx_M} {d : Nat} {b : zx_B} {Q : zx_Qt} {S : zx_S} {pc : Nat} {lo : List (Option Value)} {st : List Value} {I : zx_I} {L : zx_L} {R : zx_R}
theorem zx_sum {ad : Nat → Nat} : ((st.map (zx_rl ad)).map fun v => v.category).sum = (st.map fun v => v.category).sum := by
  rw [List.map_map]
  congr 1
  exact List.map_congr_left fun v _ => zx_rl_cat ad v
def zj_max (oc idx : Nat) : Prop := ∃ own, zt_own[oc]? = some own ∧ Cond.methodLink own idx Lib.Math.max.name ∈ zx_G ∧ Cond.static Lib.Math.max.name ∈ zx_G ∧ Cond.initialized "java/lang/Math" ∈ zx_G ∧ Cond.code Lib.Math.max.name Lib.Math.max.code 2 (some .int) ∈ zx_G
def zj_min (oc idx : Nat) : Prop := ∃ own, zt_own[oc]? = some own ∧ Cond.methodLink own idx Lib.Math.min.name ∈ zx_G ∧ Cond.static Lib.Math.min.name ∈ zx_G ∧ Cond.initialized "java/lang/Math" ∈ zx_G ∧ Cond.code Lib.Math.min.name Lib.Math.min.code 2 (some .int) ∈ zx_G
theorem zv_max {idx : Nat} {x y : Int32} (hd : (zs_from M.2.2.2.2.2 pc).head? = some (pc, .invokestatic idx, 3)) (hl : zj_max M.2.2.2.2.1 idx) (hw : (st.map fun v => v.category).sum ≤ 8) (hb : b.1 ≤ b.2.2.1 ∧ b.2.1 ≤ b.2.2.2) (k : zx_V M (d + 1) b Q S (pc + 3) lo (.int (if x < y then y else x) :: st) I L R) : zx_V M (d + 1) b Q S pc lo (.int y :: .int x :: st) I L R := by
  intro p l e s m args below meth c D cA A ad0 ad n0 H locs ls hg hC hX hS hA hll hol hos hn0 had
  have h9 := hg.1 _ (zs_at hd)
  obtain ⟨own, ho, w1, w2, w3, w4⟩ := hl
  have hown : own = M.1.cls := Option.some.inj (ho.symm.trans hg.2.2.2.1)
  subst hown
  have h8 := k p l e s m args below meth c D cA A ad0 ad n0 H locs ls hg hC hX hS hA hll hol (zo_c trivial (zo_t (zo_t hos))) hn0 had
  have hts := hC.2.2.2.2.2.1
  exact va_mmax hC.1 hC.2.1 (hC.2.2.2.1.trans hll.1.symm) hC.2.2.2.2.1 (hts _ w1) (hts _ w2) (hts _ w3) (hts _ w4) (by show 1 ≤ d + 1; omega) (by show _ + 13 ≤ 40 * (d + 1); rw [zx_sum]; omega) hb.1 hb.2 h9 h8
theorem zv_min {idx : Nat} {x y : Int32} (hd : (zs_from M.2.2.2.2.2 pc).head? = some (pc, .invokestatic idx, 3)) (hl : zj_min M.2.2.2.2.1 idx) (hw : (st.map fun v => v.category).sum ≤ 8) (hb : b.1 ≤ b.2.2.1 ∧ b.2.1 ≤ b.2.2.2) (k : zx_V M (d + 1) b Q S (pc + 3) lo (.int (if y < x then y else x) :: st) I L R) : zx_V M (d + 1) b Q S pc lo (.int y :: .int x :: st) I L R := by
  intro p l e s m args below meth c D cA A ad0 ad n0 H locs ls hg hC hX hS hA hll hol hos hn0 had
  have h9 := hg.1 _ (zs_at hd)
  obtain ⟨own, ho, w1, w2, w3, w4⟩ := hl
  have hown : own = M.1.cls := Option.some.inj (ho.symm.trans hg.2.2.2.1)
  subst hown
  have h8 := k p l e s m args below meth c D cA A ad0 ad n0 H locs ls hg hC hX hS hA hll hol (zo_c trivial (zo_t (zo_t hos))) hn0 had
  have hts := hC.2.2.2.2.2.1
  exact va_mmin hC.1 hC.2.1 (hC.2.2.2.1.trans hll.1.symm) hC.2.2.2.2.1 (hts _ w1) (hts _ w2) (hts _ w3) (hts _ w4) (by show 1 ≤ d + 1; omega) (by show _ + 13 ≤ 40 * (d + 1); rw [zx_sum]; omega) hb.1 hb.2 h9 h8
def zj_cp (oc idx : Nat) : Prop := ∃ own, zt_own[oc]? = some own ∧ Cond.methodLink own idx arraycopyName ∈ zx_G ∧ Cond.native arraycopyName ∈ zx_G ∧ Cond.static arraycopyName ∈ zx_G ∧ Cond.initialized "java/lang/System" ∈ zx_G
/-- a row becomes another's copy -/
theorem zv_copy {idx a0 a n0' n1 : Nat} {n : Int32} (hd : (zs_from M.2.2.2.2.2 pc).head? = some (pc, .invokestatic idx, 3)) (hl : zj_cp M.2.2.2.2.1 idx) (h0 : S[a0]? = some (100, n0')) (h1 : S[a]? = some (100, n1)) (hn : ¬ n < 0) (hn0' : n.toNatClampNeg ≤ n0') (hn1 : n.toNatClampNeg ≤ n1) (hw : (st.map fun v => v.category).sum ≤ 8)
    (kk : zx_V M (d + 1) b Q S (pc + 3) lo st (fun x => if x = a then va_cpy (I a0) (I a) 0 0 n.toNatClampNeg else I x) L R) : zx_V M (d + 1) b Q S pc lo (.int n :: .int 0 :: .ref a :: .int 0 :: .ref a0 :: st) I L R := by
  intro p l e s m args below meth c D cA A ad0 ad n0 H locs ls hg hC hX hS hA hll hol hos hn0 had
  have h9 := hg.1 _ (zs_at hd)
  obtain ⟨own, ho, w1, w2, w3, w4⟩ := hl
  have hown : own = M.1.cls := Option.some.inj (ho.symm.trans hg.2.2.2.1)
  subst hown
  have hts := hC.2.2.2.2.2.1
  have hset : zx_W cA ad S (fun x => if x = a then va_cpy (I a0) (I a) 0 0 n.toNatClampNeg else I x) L R = (zx_W cA ad S I L R).set a (ad a, .inl (cA 100, n1, .inl (va_cpy (I a0) (I a) 0 0 n.toNatClampNeg))) := by
    rw [zx_W_aset (I := I) (I' := fun x => if x = a then va_cpy (I a0) (I a) 0 0 n.toNatClampNeg else I x) (L := L) (L' := L) (R := R) (R' := R) h1 (by decide) (fun b hb => ⟨by simp [hb], rfl, rfl⟩)]
    simp [zx_row]
  have z0 : (0 : Int32).toNatClampNeg = 0 := rfl
  have h8 : ∀ (H1 : Heap) (locs1 : List Loc), va_P D vwCl ((zx_W cA ad S I L R).set a (ad a, .inl (cA 100, n1, .inl (va_cpy (I a0) (I a) (0 : Int32).toNatClampNeg (0 : Int32).toNatClampNeg n.toNatClampNeg)))) H1 → va_D A ((zx_W cA ad S I L R).set a (ad a, .inl (cA 100, n1, .inl (va_cpy (I a0) (I a) (0 : Int32).toNatClampNeg (0 : Int32).toNatClampNeg n.toNatClampNeg)))) → va_S A s.heap H1 locs1 → W p l e (zx_rm (d + 1) b.2.2.1 b.2.2.2) s m args below meth c H1 locs1 b.1 b.2.1 (MQ below (zx_Q D cA A ad0 n0 Q) args s b.2.2.1 b.2.2.2 A) (F0 m (pc + 3) ls (st.map (zx_rl ad))) := by
    intro H1 locs1 g1 g2 g3
    rw [z0, ← hset] at g1 g2
    exact kk p l e s m args below meth c D cA A ad0 ad n0 H1 locs1 ls hg hC ⟨g1, g2, hX.2.2.1, hX.2.2.2.1, hX.2.2.2.2⟩ g3 hA hll hol (zo_t (zo_t (zo_t (zo_t (zo_t hos))))) hn0 had
  have hnz : ¬ (0 : Int32) < 0 := by decide
  have hnf : nativeFrameWords "java/lang/System" "arraycopy" 5 ≤ 20 := by decide +kernel
  exact va_copyi (D := D) (R := zx_rm (d + 1) b.2.2.1 b.2.2.2) (rest := st.map (zx_rl ad)) hC.1 hC.2.1 (hC.2.2.2.1.trans hll.1.symm) hC.2.2.2.2.1 (hts _ w1) (hts _ w2) (hts _ w3) (hts _ w4) hX.2.2.1 hX.1 hX.2.1 hS a0 a 0 0 (zx_W_arr h0 (by decide)) (zx_W_arr h1 (by decide)) rfl rfl rfl hnz hnz hn (by rw [z0]; omega) (by rw [z0]; omega) (fun _ _ => rfl) (by show 1 ≤ d + 1; omega) (by show ((st.map (zx_rl ad)).map fun v => v.category).sum + (nativeFrameWords "java/lang/System" "arraycopy" 5 + 11) ≤ 40 * (d + 1); rw [zx_sum]; omega) h9 h8
end
