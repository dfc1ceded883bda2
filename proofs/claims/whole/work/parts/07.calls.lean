/-! rules of making, answers, entry, calls -/
theorem zx_W_ad {cA : Nat → ClassId} {ad ad' : Nat → Nat} {S : zx_S} {I : zx_I} {L : zx_L} {R : zx_R} (h : ∀ i, i < S.length → ad' i = ad i) (hR : ∀ a k j, R a k = some j → j < S.length) : zx_W cA ad' S I L R = zx_W cA ad S I L R := by
  apply List.ext_getElem?
  intro a
  simp only [zx_W, List.getElem?_mapIdx]
  cases hs : S[a]? with
  | none => rfl
  | some sh =>
    simp only [Option.map_some]
    rw [h a (zx_S_lt hs), zx_e_ad (fun k j hj => h j (hR a k j hj))]
theorem zx_W_push {cA : Nat → ClassId} {ad : Nat → Nat} {S : zx_S} {I : zx_I} {L : zx_L} {R : zx_R} {sh : Nat × Nat} : zx_W cA ad (S ++ [sh]) I L R = zx_W cA ad S I L R ++ [(ad S.length, zx_e cA ad (I S.length) (L S.length) (R S.length) sh)] := by
  simp [zx_W, List.mapIdx_concat]
/-- the numbering with a new cell -/
def zx_na (ad : Nat → Nat) (n q : Nat) : Nat → Nat := fun i => if i = n then q else ad i
theorem zx_na_lt {ad : Nat → Nat} {n q i : Nat} (h : i < n) : zx_na ad n q i = ad i := by simp [zx_na, Nat.ne_of_lt h]
theorem zx_na_at {ad : Nat → Nat} {n q : Nat} : zx_na ad n q n = q := by simp [zx_na]
theorem zx_lo_ad {ad ad' : Nat → Nat} {n k : Nat} {lo : List (Option Value)} {ls : Array Slot} (h : zx_lo ad n lo ls) (ho : zx_okl k lo) (ha : ∀ i, i < k → ad' i = ad i) : zx_lo ad' n lo ls := ⟨h.1, h.2.1, h.2.2.1, fun i v hv => by rw [h.2.2.2 i v hv, zx_rl_ad (ho i v hv) ha]⟩
theorem zx_okl_mono {n n' : Nat} {lo : List (Option Value)} (h : zx_okl n lo) (hn : n ≤ n') : zx_okl n' lo := fun i v hv => zx_ok_mono (h i v hv) hn
theorem zx_oks_mono {n n' : Nat} {st : List Value} (h : zx_oks n st) (hn : n ≤ n') : zx_oks n' st := fun v hv => zx_ok_mono (h v hv) hn
/-- a class that can be made, from here -/
def zcN (oc idx ci N : Nat) : Prop := ∃ (own C : String) (T : u_T) (ty : Nat → FieldType), zt_own[oc]? = some own ∧ zk_C ci C T N ty ∧ Cond.classLink own idx C ∈ zx_G ∧ Cond.instantiable C N ∈ zx_G ∧ Cond.initialized C ∈ zx_G
section
variable {M : zx_M} {d : Nat} {b : zx_B} {Q : zx_Qt} {S : zx_S} {pc : Nat} {lo : List (Option Value)} {st : List Value} {I : zx_I} {L : zx_L} {R : zx_R}
theorem zv_new {idx ci N : Nat} (hd : (pc, .new idx, 3) ∈ M.2.2.2.2.2) (hc : zcN M.2.2.2.2.1 idx ci N) (hz : ∀ k, I S.length k = 0 ∧ L S.length k = 0 ∧ R S.length k = none) (hb : b.1 + 1 ≤ b.2.2.1 ∧ b.2.1 + N ≤ b.2.2.2)
    (kk : zx_V M d (b.1 + 1, b.2.1 + N, b.2.2) Q (S ++ [(ci, N)]) (pc + 3) lo (.ref S.length :: st) I L R) : zx_V M d b Q S pc lo st I L R := by
  intro p l e s m args below meth c D cA A ad0 ad n0 H locs ls hg hC hX hS hA hl hol hos hn0 had
  have h9 := hg.1 _ hd
  obtain ⟨own, C, T, ty, hw0, hk, w1, w2, w3⟩ := hc
  have hown : own = M.1.cls := Option.some.inj (hw0.symm.trans hg.2.2.2.1)
  subst hown
  have hfs : ∀ j, j < N → defaultValue (ty j) = vp_V (zx_fs ad (I S.length) (L S.length) (R S.length) (zt_T.getD ci []) 0) j := by
    intro j hj
    have h1 : (zx_fs ad (I S.length) (L S.length) (R S.length) (zt_T.getD ci []) 0)[j]? = some (zx_v ad (I S.length) (L S.length) (R S.length) (zk_code (ty j)) j) := by rw [zx_fs_get, hk.2.2.2.2.1 j hj]; simp
    unfold vp_V
    rw [List.getD_eq_getElem?_getD, h1, Option.getD_some]
    unfold zx_v
    rw [(hz j).1, (hz j).2.1, (hz j).2.2]
    rcases hk.2.2.2.2.2.2.2.2 j hj with h | h | h | h
    · rw [h]; rfl
    · rw [h]; rfl
    · rw [h]; rfl
    · rw [h]
      cases hty : ty j with
      | object w => rfl
      | array w => rfl
      | _ => rw [hty] at h; exact absurd h (by decide)
  refine va_new (D := D) hC.1 hC.2.1 hC.2.2.2.2.2.1 hk.2.1 ty hk.2.2.1 hC.2.2.2.2.1 (hC.2.2.2.2.2.1 _ w1) (hC.2.2.2.2.2.1 _ w2) (hC.2.2.2.2.2.1 _ w3) hX.2.2.1 hX.1 hX.2.1 hS hA hk.1 hfs hb.1 hb.2 h9 (fun q H1 g1 g2 g3 => ?_)
  have e1 : zx_W cA ad S I L R ++ [(q, .inr (ci, zx_fs ad (I S.length) (L S.length) (R S.length) (zt_T.getD ci []) 0))] = zx_W cA (zx_na ad S.length q) (S ++ [(ci, N)]) I L R := by
    rw [zx_W_push, zx_W_ad (ad := ad) (ad' := zx_na ad S.length q) (fun i hi => zx_na_lt hi) hX.2.2.2.2, zx_na_at]
    rw [zx_e_ad (ad := ad) (ad' := zx_na ad S.length q) (fun k j hj => by rw [(hz k).2.2] at hj; cases hj), show zx_e cA ad (I S.length) (L S.length) (R S.length) (ci, N) = .inr (ci, zx_fs ad (I S.length) (L S.length) (R S.length) (zt_T.getD ci []) 0) from if_pos hk.2.2.2.2.2.1]
  rw [e1] at g1 g2
  have hlen : (S ++ [(ci, N)]).length = S.length + 1 := by simp
  have h8 := kk p l e s m args below meth c D cA A ad0 (zx_na ad S.length q) n0 H1 locs ls hg hC ⟨g1, g2, hX.2.2.1, hX.2.2.2.1, fun a k j hj => by rw [hlen]; exact Nat.lt_succ_of_lt (hX.2.2.2.2 a k j hj)⟩ g3 hA (zx_lo_ad hl hol (fun i hi => zx_na_lt hi)) (zx_okl_mono hol (by omega)) (zo_c (by show S.length < _; omega) (zx_oks_mono hos (by omega))) (by omega) (fun i hi => by rw [zx_na_lt (by omega)]; exact had i hi)
  rw [List.map_cons, zo_ad hos (fun i hi => zx_na_lt hi)] at h8
  have e2 : zx_rl (zx_na ad S.length q) (.ref S.length) = .ref q := by simp [zx_rl, zx_na_at]
  rw [e2] at h8
  exact h8
/-- a new array of numbers -/
theorem zv_newarr {at' : ArrayType} {kd t0 : Nat} {n : Int32} {N : Nat} {ty : FieldType} (hd : (pc, .newarray at', 2) ∈ M.2.2.2.2.2) (hty : newarray.typeOf at' = ty) (hcl : Cond.arrayClass ty ∈ zx_G) (hkd : kd = 100 ∧ t0 = 0 ∧ ty = .int ∨ kd = 101 ∧ t0 = 1 ∧ ty = .byte ∨ kd = 102 ∧ t0 = 2 ∧ ty = .long)
    (hz : ∀ k, I S.length k = 0 ∧ L S.length k = 0 ∧ R S.length k = none) (hn : ¬ n < 0) (hN : n.toNatClampNeg = N) (hbig : N ≤ 1000) (hb : b.1 + 1 ≤ b.2.2.1 ∧ b.2.1 + N ≤ b.2.2.2)
    (kk : zx_V M d (b.1 + 1, b.2.1 + N, b.2.2) Q (S ++ [(kd, N)]) (pc + 2) lo (.ref S.length :: st) I L R) : zx_V M d b Q S pc lo (.int n :: st) I L R := by
  intro p l e s m args below meth c D cA A ad0 ad n0 H locs ls hg hC hX hS hA hl hol hos hn0 had
  have h9 := hg.1 _ hd
  have hI : I S.length = fun _ => 0 := funext fun k => (hz k).1
  have hL : L S.length = fun _ => 0 := funext fun k => (hz k).2.1
  have ha : ∀ cA' : ClassId, vp_cell cA' (N, zx_row ad (I S.length) (L S.length) (R S.length) kd) = arrV cA' N (fun _ => defaultValue ty) := by
    intro cA'
    rw [hI, hL]
    rcases hkd with ⟨rfl, -, rfl⟩ | ⟨rfl, -, rfl⟩ | ⟨rfl, -, rfl⟩ <;> rfl
  have hbytes : N * componentBytes ty ≤ 536870912 := by
    rcases hkd with ⟨-, -, rfl⟩ | ⟨-, -, rfl⟩ | ⟨-, -, rfl⟩
    · show N * 4 ≤ _; omega
    · show N * 1 ≤ _; omega
    · show N * 8 ≤ _; omega
  refine va_newa (D := D) (N' := N) hC.1 hC.2.1 (by rw [hty]; exact hC.2.2.2.2.2.1 _ hcl) hty hX.2.2.1 hX.1 hX.2.1 hS hA ha hn hN hbytes hb.1 hb.2 h9 (fun q cA' H1 g0 g1 g2 g3 => ?_)
  have hcA : cA' = cA kd := by
    have r1 := (g0.2 (zx_tys cA).length (cA', ty) (by rw [List.getElem?_append_right (Nat.le_refl _), Nat.sub_self]; rfl)).2
    rcases hkd with ⟨rfl, rfl, rfl⟩ | ⟨rfl, rfl, rfl⟩ | ⟨rfl, rfl, rfl⟩
    · exact Option.some.inj (Eq.symm (Eq.trans (Eq.symm (hX.2.2.1.2 0 _ rfl).2) r1)).symm.symm
    · exact Option.some.inj (Eq.symm (Eq.trans (Eq.symm (hX.2.2.1.2 1 _ rfl).2) r1)).symm.symm
    · exact Option.some.inj (Eq.symm (Eq.trans (Eq.symm (hX.2.2.1.2 2 _ rfl).2) r1)).symm.symm
  subst hcA
  have hk100 : ¬ kd < 100 := by omega
  have e1 : zx_W cA ad S I L R ++ [(q, .inl (cA kd, N, zx_row ad (I S.length) (L S.length) (R S.length) kd))] = zx_W cA (zx_na ad S.length q) (S ++ [(kd, N)]) I L R := by
    rw [zx_W_push, zx_W_ad (ad := ad) (ad' := zx_na ad S.length q) (fun i hi => zx_na_lt hi) hX.2.2.2.2, zx_na_at]
    rw [zx_e_ad (ad := ad) (ad' := zx_na ad S.length q) (fun k j hj => by rw [(hz k).2.2] at hj; cases hj), show zx_e cA ad (I S.length) (L S.length) (R S.length) (kd, N) = .inl (cA kd, N, zx_row ad (I S.length) (L S.length) (R S.length) kd) from if_neg hk100]
  rw [e1] at g1 g2
  have hlen : (S ++ [(kd, N)]).length = S.length + 1 := by simp
  have h8 := kk p l e s m args below meth c D cA A ad0 (zx_na ad S.length q) n0 H1 locs ls hg hC ⟨g1, g2, hX.2.2.1, hX.2.2.2.1, fun a k j hj => by rw [hlen]; exact Nat.lt_succ_of_lt (hX.2.2.2.2 a k j hj)⟩ g3 hA (zx_lo_ad hl hol (fun i hi => zx_na_lt hi)) (zx_okl_mono hol (by omega)) (zo_c (by show S.length < _; omega) (zx_oks_mono (zo_t hos) (by omega))) (by omega) (fun i hi => by rw [zx_na_lt (by omega)]; exact had i hi)
  rw [List.map_cons, zo_ad (zo_t hos) (fun i hi => zx_na_lt hi)] at h8
  have e2 : zx_rl (zx_na ad S.length q) (.ref S.length) = .ref q := by simp [zx_rl, zx_na_at]
  rw [e2] at h8
  exact h8
/-- a new array of references -/
def zcA (oc idx kd : Nat) : Prop := ∃ (own C : String), zt_own[oc]? = some own ∧ Cond.classLink own idx C ∈ zx_G ∧ Cond.arrayOver (.object C) ∈ zx_N ∧ (kd = 103 ∧ C = "BathNight$Bather" ∨ kd = 104 ∧ C = "BathNight$Wishes")
theorem zv_newq {idx kd : Nat} {n : Int32} {N : Nat} (hd : (pc, .anewarray idx, 3) ∈ M.2.2.2.2.2) (hc : zcA M.2.2.2.2.1 idx kd)
    (hz : ∀ k, I S.length k = 0 ∧ L S.length k = 0 ∧ R S.length k = none) (hn : ¬ n < 0) (hN : n.toNatClampNeg = N) (hbig : N ≤ 1000) (hb : b.1 + 1 ≤ b.2.2.1 ∧ b.2.1 + N ≤ b.2.2.2)
    (kk : zx_V M d (b.1 + 1, b.2.1 + N, b.2.2) Q (S ++ [(kd, N)]) (pc + 3) lo (.ref S.length :: st) I L R) : zx_V M d b Q S pc lo (.int n :: st) I L R := by
  intro p l e s m args below meth c D cA A ad0 ad n0 H locs ls hg hC hX hS hA hl hol hos hn0 had
  have h9 := hg.1 _ hd
  obtain ⟨own, C, hw0, w1, w2, hkd⟩ := hc
  have hown : own = M.1.cls := Option.some.inj (hw0.symm.trans hg.2.2.2.1)
  subst hown
  have hR : R S.length = fun _ => none := funext fun k => (hz k).2.2
  refine va_newq (D := D) (N' := N) hC.1 hC.2.1 hC.2.2.2.2.1 (hC.2.2.2.2.2.1 _ w1) (hX.2.2.2.1 _ w2) hX.2.2.1 hX.1 hX.2.1 hS hA hn hN (by omega) hb.1 hb.2 h9 (fun q cA' H1 g0 g1 g2 g3 => ?_)
  have hcA : cA' = cA kd := by
    obtain ⟨-, -, -, -, -, r1⟩ := (g0.2 (zx_tys cA).length (cA', .object C) (by rw [List.getElem?_append_right (Nat.le_refl _), Nat.sub_self]; rfl)).2
    rcases hkd with ⟨rfl, rfl⟩ | ⟨rfl, rfl⟩
    · obtain ⟨-, -, -, -, -, r2⟩ := (hX.2.2.1.2 3 _ rfl).2
      exact Option.some.inj (r1.symm.trans r2)
    · obtain ⟨-, -, -, -, -, r2⟩ := (hX.2.2.1.2 4 _ rfl).2
      exact Option.some.inj (r1.symm.trans r2)
  subst hcA
  have hk100 : ¬ kd < 100 := by omega
  have hrow : zx_row ad (I S.length) (L S.length) (R S.length) kd = .inr (.inr (.inr (.inr (fun _ => none)))) := by
    rw [hR]
    rcases hkd with ⟨rfl, -⟩ | ⟨rfl, -⟩ <;> rfl
  have e1 : zx_W cA ad S I L R ++ [(q, .inl (cA kd, N, .inr (.inr (.inr (.inr (fun _ => none))))))] = zx_W cA (zx_na ad S.length q) (S ++ [(kd, N)]) I L R := by
    rw [zx_W_push, zx_W_ad (ad := ad) (ad' := zx_na ad S.length q) (fun i hi => zx_na_lt hi) hX.2.2.2.2, zx_na_at]
    rw [zx_e_ad (ad := ad) (ad' := zx_na ad S.length q) (fun k j hj => by rw [(hz k).2.2] at hj; cases hj), show zx_e cA ad (I S.length) (L S.length) (R S.length) (kd, N) = .inl (cA kd, N, zx_row ad (I S.length) (L S.length) (R S.length) kd) from if_neg hk100, hrow]
  rw [e1] at g1 g2
  have hlen : (S ++ [(kd, N)]).length = S.length + 1 := by simp
  have h8 := kk p l e s m args below meth c D cA A ad0 (zx_na ad S.length q) n0 H1 locs ls hg hC ⟨g1, g2, hX.2.2.1, hX.2.2.2.1, fun a k j hj => by rw [hlen]; exact Nat.lt_succ_of_lt (hX.2.2.2.2 a k j hj)⟩ g3 hA (zx_lo_ad hl hol (fun i hi => zx_na_lt hi)) (zx_okl_mono hol (by omega)) (zo_c (by show S.length < _; omega) (zx_oks_mono (zo_t hos) (by omega))) (by omega) (fun i hi => by rw [zx_na_lt (by omega)]; exact had i hi)
  rw [List.map_cons, zo_ad (zo_t hos) (fun i hi => zx_na_lt hi)] at h8
  have e2 : zx_rl (zx_na ad S.length q) (.ref S.length) = .ref q := by simp [zx_rl, zx_na_at]
  rw [e2] at h8
  exact h8
/-- answers -/
theorem zx_end {D : va_G} {cA : Nat → ClassId} {A : Nat → Prop} {ad0 ad : Nat → Nat} {n0 : Nat} {args : Array Value} {s t : State} {H : Heap} {locs : List Loc} {r : Option Value} (hX : zx_X D cA A ad S I L R s H) (hS : va_S A s.heap H locs) (hn0 : n0 ≤ S.length) (had : ∀ i, i < n0 → ad i = ad0 i) (hr : ∀ v, r = some v → zx_ok S.length v) (hq : Q r S I L R) (ht : t.heap = H) (hW : s.WarmedH t.vm) : zx_Q D cA A ad0 n0 Q args s (.returned (r.map (zx_rl ad))) t :=
  ⟨⟨r, S, I, L, R, ad, rfl, hq, hn0, had, hr, by rw [ht]; exact hX.1, hX.2.1, va_K.moved hW.alike hX.2.2.1, fun w hw => zx_nw_warm (zg_nest w hw) (hX.2.2.2.1 w hw) hW, hX.2.2.2.2⟩, hS.F ht⟩
theorem zv_iret {v : Int32} (hd : (pc, .ireturn, 1) ∈ M.2.2.2.2.2) (hr : M.2.2.2.1 = some .int) (hb : b.1 ≤ b.2.2.1 ∧ b.2.1 ≤ b.2.2.2) (hq : Q (some (.int v)) S I L R) : zx_V M d b Q S pc lo [.int v] I L R := by
  intro p l e s m args below meth c D cA A ad0 ad n0 H locs ls hg hC hX hS hA hl hol hos hn0 had
  have h9 := hg.1 _ hd
  have hlocks := hC.2.2.2.2.2.2.1
  refine W.widen (k := b.2.2.1) (n := b.2.2.2) hb.1 hb.2 ?_
  exact W.iret hC.1 hC.2.1 (hC.2.2.1.trans hr) (fun t ht hW => zx_end (r := some (.int v)) hX hS hn0 had (fun w hw => by cases hw; trivial) hq ht hW) hS.2.2 h9
theorem zv_zret {v : Int32} (hd : (pc, .ireturn, 1) ∈ M.2.2.2.2.2) (hr : M.2.2.2.1 = some .boolean) (hv : v = 0 ∨ v = 1) (hb : b.1 ≤ b.2.2.1 ∧ b.2.1 ≤ b.2.2.2) (hq : Q (some (.int v)) S I L R) : zx_V M d b Q S pc lo [.int v] I L R := by
  intro p l e s m args below meth c D cA A ad0 ad n0 H locs ls hg hC hX hS hA hl hol hos hn0 had
  have h9 := hg.1 _ hd
  have hlocks := hC.2.2.2.2.2.2.1
  refine W.widen (k := b.2.2.1) (n := b.2.2.2) hb.1 hb.2 ?_
  exact W.zret (ty := .boolean) hC.1 hC.2.1 (hC.2.2.1.trans hr) (by rcases hv with rfl | rfl <;> decide) (fun t ht hW => zx_end (r := some (.int v)) hX hS hn0 had (fun w hw => by cases hw; trivial) hq ht hW) hS.2.2 h9
theorem zv_vret (hd : (pc, .return_, 1) ∈ M.2.2.2.2.2) (hr : M.2.2.2.1 = none) (hb : b.1 ≤ b.2.2.1 ∧ b.2.1 ≤ b.2.2.2) (hq : Q none S I L R) : zx_V M d b Q S pc lo [] I L R := by
  intro p l e s m args below meth c D cA A ad0 ad n0 H locs ls hg hC hX hS hA hl hol hos hn0 had
  have h9 := hg.1 _ hd
  have hlocks := hC.2.2.2.2.2.2.1
  refine W.widen (k := b.2.2.1) (n := b.2.2.2) hb.1 hb.2 ?_
  exact W.vret hC.1 hC.2.1 (hC.2.2.1.trans hr) (fun t ht hW => zx_end (r := none) hX hS hn0 had (fun w hw => by cases hw) hq ht hW) hS.2.2 h9
theorem zv_aret {r : Option Nat} {w : String} (hd : (pc, .areturn, 1) ∈ M.2.2.2.2.2) (hr : M.2.2.2.1 = some (.object w)) (hb : b.1 ≤ b.2.2.1 ∧ b.2.1 ≤ b.2.2.2) (hq : Q (some (va_rf r)) S I L R) : zx_V M d b Q S pc lo [va_rf r] I L R := by
  intro p l e s m args below meth c D cA A ad0 ad n0 H locs ls hg hC hX hS hA hl hol hos hn0 had
  have h9 := hg.1 _ hd
  have hlocks := hC.2.2.2.2.2.2.1
  refine W.widen (k := b.2.2.1) (n := b.2.2.2) hb.1 hb.2 ?_
  have hv : zx_rl ad (va_rf r) = .null ∨ ∃ a, zx_rl ad (va_rf r) = .ref a := by
    cases r with
    | none => exact Or.inl rfl
    | some a => exact Or.inr ⟨ad a, rfl⟩
  exact W.aret hC.1 hC.2.1 (hC.2.2.1.trans hr) (Or.inl ⟨w, rfl⟩) hv (fun t ht hW => zx_end (r := some (va_rf r)) hX hS hn0 had (fun w hw => by cases hw; exact zo_h hos) hq ht hW) hS.2.2 h9
/-- the constructor of Object -/
theorem zv_objInit {idx x : Nat} (hd : (pc, .invokespecial idx, 3) ∈ M.2.2.2.2.2) (hl : Cond.methodLink M.1.cls idx Lib.objectInit ∈ zx_G) (hw : (st.map fun v => v.category).sum ≤ 8) (kk : zx_V M (d + 1) b Q S (pc + 3) lo st I L R) (hi : Cond.instanceMethod Lib.objectInit ∈ zx_G) (hc : Cond.code Lib.objectInit ⟨#[0xb1]⟩ 1 none ∈ zx_G) : zx_V M (d + 1) b Q S pc lo (.ref x :: st) I L R := by
  intro p l e s m args below meth c D cA A ad0 ad n0 H locs ls hg hC hX hS hA hll hol hos hn0 had
  have h9 := hg.1 _ hd
  have h8 := kk p l e s m args below meth c D cA A ad0 ad n0 H locs ls hg hC hX hS hA hll hol (zo_t hos) hn0 had
  have hsum : ((st.map (zx_rl ad)).map fun v => v.category).sum = (st.map fun v => v.category).sum := by
    rw [List.map_map]
    congr 1
    exact List.map_congr_left fun v _ => zx_rl_cat ad v
  exact W.objInit hC.1 hC.2.1 hC.2.2.2.2.1 (hC.2.2.2.2.2.1 _ hl) (hC.2.2.2.2.2.1 _ hi) (hC.2.2.2.2.2.1 _ hc) rfl (hll.1.trans hC.2.2.2.1.symm) rfl h9 (by show 1 ≤ d + 1; omega) (by show 2 * 0 + _ + 12 ≤ 40 * (d + 1); rw [hsum]; omega) h8
end
