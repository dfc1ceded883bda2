/-! the class's constructor, by program -/
section
variable {M : zx_M} {d : Nat} {b : zx_B} {Q : zx_Qt} {S S' : zx_S} {pc : Nat} {lo : List (Option Value)} {st : List Value} {I I' : zx_I} {L L' : zx_L} {R R' : zx_R}
theorem zn_new {idx ci N n : Nat} (hd : (pc, .new idx, 3) ∈ M.2.2.2.2.2) (hc : zcN M.2.2.2.2.1 idx ci N) (hn : S.length = n) (hS : S ++ [(ci, N)] = S') (hz : ∀ k, I n k = 0 ∧ L n k = 0 ∧ R n k = none) (hb : b.1 + 1 ≤ b.2.2.1 ∧ b.2.1 + N ≤ b.2.2.2) (kk : zx_V M d (b.1 + 1, b.2.1 + N, b.2.2) Q S' (pc + 3) lo (.ref n :: st) I L R) : zx_V M d b Q S pc lo st I L R := by
  subst hn
  subst hS
  exact zv_new hd hc hz hb kk
theorem zn_newarr {at' : ArrayType} {kd t0 n : Nat} {x : Int32} {N : Nat} {ty : FieldType} (hd : (pc, .newarray at', 2) ∈ M.2.2.2.2.2) (hty : newarray.typeOf at' = ty) (hcl : Cond.arrayClass ty ∈ zx_G) (hkd : kd = 100 ∧ t0 = 0 ∧ ty = .int ∨ kd = 101 ∧ t0 = 1 ∧ ty = .byte ∨ kd = 102 ∧ t0 = 2 ∧ ty = .long) (hn : S.length = n) (hS : S ++ [(kd, N)] = S') (hz : ∀ k, I n k = 0 ∧ L n k = 0 ∧ R n k = none) (hx : ¬ x < 0) (hN : x.toNatClampNeg = N) (hbig : N ≤ 1000) (hb : b.1 + 1 ≤ b.2.2.1 ∧ b.2.1 + N ≤ b.2.2.2) (kk : zx_V M d (b.1 + 1, b.2.1 + N, b.2.2) Q S' (pc + 2) lo (.ref n :: st) I L R) : zx_V M d b Q S pc lo (.int x :: st) I L R := by
  subst hn
  subst hS
  exact zv_newarr hd hty hcl hkd hz hx hN hbig hb kk
theorem zn_newq {idx kd n : Nat} {x : Int32} {N : Nat} (hd : (pc, .anewarray idx, 3) ∈ M.2.2.2.2.2) (hc : zcA M.2.2.2.2.1 idx kd) (hn : S.length = n) (hS : S ++ [(kd, N)] = S') (hz : ∀ k, I n k = 0 ∧ L n k = 0 ∧ R n k = none) (hx : ¬ x < 0) (hN : x.toNatClampNeg = N) (hbig : N ≤ 1000) (hb : b.1 + 1 ≤ b.2.2.1 ∧ b.2.1 + N ≤ b.2.2.2) (kk : zx_V M d (b.1 + 1, b.2.1 + N, b.2.2) Q S' (pc + 3) lo (.ref n :: st) I L R) : zx_V M d b Q S pc lo (.int x :: st) I L R := by
  subst hn
  subst hS
  exact zv_newq hd hc hz hx hN hbig hb kk
theorem zn_cI {M' : zx_M} {idx np mc' ms' a : Nat} {av : List Value} (hd : (pc, .invokespecial idx, 3) ∈ M.2.2.2.2.2) (hl : zcI M.2.2.2.2.1 idx M'.1 np) (hg' : zx_good M') (hret : M'.2.2.2.1 = none) (hnp : av.length = np) (hc : zx_M0 M' d mc' ms' (.ref a :: av) S I L R (zw_ret none S' I' L' R')) (hb : b.1 + mc' ≤ b.2.2.1 ∧ b.2.1 + ms' ≤ b.2.2.2) (hw : (st.map fun v => v.category).sum ≤ 8) (kk : zx_V M (d + 1) (b.1 + mc', b.2.1 + ms', b.2.2) Q S' (pc + 3) lo st I' L' R') : zx_V M (d + 1) b Q S pc lo (av.reverse ++ .ref a :: st) I L R :=
  zv_callI hd hl hg' hret hnp hc hb hw (fun r1 S1 I1 L1 R1 hq => by obtain ⟨rfl, rfl, rfl, rfl, rfl⟩ := hq; exact kk)
theorem zn_cV {M' : zx_M} {idx a ci n N : Nat} {T : u_T} (hd : (pc, .invokevirtual idx, 3) ∈ M.2.2.2.2.2) (hl : zcV M.2.2.2.2.1 idx M'.1 0) (hg' : zx_good M') (hs : S[a]? = some (ci, n)) (hcn : vwCl[ci]? = some (M'.1.cls, T, N)) (hc : zx_M0 M' d 0 0 [.ref a] S I L R (zw_ret none S I' L' R')) (hb : b.1 + 0 ≤ b.2.2.1 ∧ b.2.1 + 0 ≤ b.2.2.2) (hw : (st.map fun v => v.category).sum ≤ 8) (kk : zx_V M (d + 1) b Q S (pc + 3) lo st I' L' R') : zx_V M (d + 1) b Q S pc lo (.ref a :: st) I L R :=
  zv_callV (av := []) hd hl hg' hs hcn rfl hc hb hw (fun r1 S1 I1 L1 R1 hq => by obtain ⟨rfl, rfl, rfl, rfl, rfl⟩ := hq; exact kk)
end
def kS (n : Nat) : zx_S := zw_SC.take n
def ki_0 : zx_I := fun _ _ => 0
def kl_0 : zx_L := fun _ _ => 0
def kr_0 : zx_R := fun _ _ => none
def kr_1 : zx_R := zx_uR kr_0 0 0 (some 1)
def kr_2 : zx_R := zx_uR kr_1 2 0 (some 3)
def kr_3 : zx_R := zx_uR kr_2 0 2 (some 2)
def kr_4 : zx_R := zx_uR kr_3 4 6 (some 5)
def kr_5 : zx_R := zx_uR kr_4 4 7 (some 6)
def kr_6 : zx_R := zx_uR kr_5 4 14 (some 7)
def ki_1 : zx_I := zx_uI ki_0 8 0 1
def kr_7 : zx_R := zx_uR kr_6 7 0 (some 8)
def ki_2 : zx_I := zx_uI ki_1 9 0 2
def kr_8 : zx_R := zx_uR kr_7 7 1 (some 9)
def ki_3 : zx_I := zx_uI ki_2 10 0 4
def kr_9 : zx_R := zx_uR kr_8 7 2 (some 10)
def ki_4 : zx_I := zx_uI ki_3 11 0 8
def kr_10 : zx_R := zx_uR kr_9 7 3 (some 11)
def ki_5 : zx_I := zx_uI ki_4 12 0 16
def kr_11 : zx_R := zx_uR kr_10 7 4 (some 12)
def ki_6 : zx_I := zx_uI ki_5 13 0 32
def kr_12 : zx_R := zx_uR kr_11 7 5 (some 13)
def ki_7 : zx_I := zx_uI ki_6 4 0 0
def ki_8 : zx_I := zx_uI ki_7 4 1 1
def ki_9 : zx_I := zx_uI ki_8 4 2 10
def ki_10 : zx_I := zx_uI ki_9 4 3 10
def ki_11 : zx_I := zx_uI ki_10 4 4 10
def ki_12 : zx_I := zx_uI ki_11 4 5 0
def ki_13 : zx_I := zx_uI ki_12 5 0 0
def ki_14 : zx_I := zx_uI ki_13 6 0 1
def ki_15 : zx_I := zx_uI ki_14 5 1 0
def ki_16 : zx_I := zx_uI ki_15 6 1 1
def ki_17 : zx_I := zx_uI ki_16 5 2 0
def ki_18 : zx_I := zx_uI ki_17 6 2 1
def ki_19 : zx_I := zx_uI ki_18 5 3 0
def ki_20 : zx_I := zx_uI ki_19 6 3 1
def ki_21 : zx_I := zx_uI ki_20 4 8 0
def ki_22 : zx_I := zx_uI ki_21 4 9 0
def ki_23 : zx_I := zx_uI ki_22 4 10 1
def ki_24 : zx_I := zx_uI ki_23 4 11 1
def ki_25 : zx_I := zx_uI ki_24 4 12 40
def ki_26 : zx_I := zx_uI ki_25 4 13 0
def kr_13 : zx_R := zx_uR kr_12 0 3 (some 4)
def kr_14 : zx_R := zx_uR kr_13 14 6 (some 15)
def kr_15 : zx_R := zx_uR kr_14 14 7 (some 16)
def kr_16 : zx_R := zx_uR kr_15 14 14 (some 17)
def ki_27 : zx_I := zx_uI ki_26 18 0 1
def kr_17 : zx_R := zx_uR kr_16 17 0 (some 18)
def ki_28 : zx_I := zx_uI ki_27 19 0 2
def kr_18 : zx_R := zx_uR kr_17 17 1 (some 19)
def ki_29 : zx_I := zx_uI ki_28 20 0 4
def kr_19 : zx_R := zx_uR kr_18 17 2 (some 20)
def ki_30 : zx_I := zx_uI ki_29 21 0 8
def kr_20 : zx_R := zx_uR kr_19 17 3 (some 21)
def ki_31 : zx_I := zx_uI ki_30 22 0 16
def kr_21 : zx_R := zx_uR kr_20 17 4 (some 22)
def ki_32 : zx_I := zx_uI ki_31 23 0 32
def kr_22 : zx_R := zx_uR kr_21 17 5 (some 23)
def ki_33 : zx_I := zx_uI ki_32 14 0 0
def ki_34 : zx_I := zx_uI ki_33 14 1 1
def ki_35 : zx_I := zx_uI ki_34 14 2 10
def ki_36 : zx_I := zx_uI ki_35 14 3 10
def ki_37 : zx_I := zx_uI ki_36 14 4 10
def ki_38 : zx_I := zx_uI ki_37 14 5 0
def ki_39 : zx_I := zx_uI ki_38 15 0 0
def ki_40 : zx_I := zx_uI ki_39 16 0 1
def ki_41 : zx_I := zx_uI ki_40 15 1 0
def ki_42 : zx_I := zx_uI ki_41 16 1 1
def ki_43 : zx_I := zx_uI ki_42 15 2 0
def ki_44 : zx_I := zx_uI ki_43 16 2 1
def ki_45 : zx_I := zx_uI ki_44 15 3 0
def ki_46 : zx_I := zx_uI ki_45 16 3 1
def ki_47 : zx_I := zx_uI ki_46 14 8 0
def ki_48 : zx_I := zx_uI ki_47 14 9 0
def ki_49 : zx_I := zx_uI ki_48 14 10 1
def ki_50 : zx_I := zx_uI ki_49 14 11 1
def ki_51 : zx_I := zx_uI ki_50 14 12 40
def ki_52 : zx_I := zx_uI ki_51 14 13 0
def kr_23 : zx_R := zx_uR kr_22 0 4 (some 14)
def kr_24 : zx_R := zx_uR kr_23 24 0 (some 25)
def kr_25 : zx_R := zx_uR kr_24 24 3 (some 26)
def ki_53 : zx_I := zx_uI ki_52 25 0 0
def ki_54 : zx_I := zx_uI ki_53 25 1 1
def ki_55 : zx_I := zx_uI ki_54 25 2 2
def ki_56 : zx_I := zx_uI ki_55 25 3 3
def ki_57 : zx_I := zx_uI ki_56 25 4 4
def ki_58 : zx_I := zx_uI ki_57 25 5 5
def ki_59 : zx_I := zx_uI ki_58 24 1 50
def kl_1 : zx_L := zx_uL kl_0 24 2 0
def ki_60 : zx_I := zx_uI ki_59 26 0 10
def ki_61 : zx_I := zx_uI ki_60 26 1 0
def ki_62 : zx_I := zx_uI ki_61 26 2 0
def ki_63 : zx_I := zx_uI ki_62 26 3 0
def ki_64 : zx_I := zx_uI ki_63 26 4 0
def ki_65 : zx_I := zx_uI ki_64 26 5 0
def kr_26 : zx_R := zx_uR kr_25 0 5 (some 24)
def kr_27 : zx_R := zx_uR kr_26 28 0 (some 29)
def kr_28 : zx_R := zx_uR kr_27 28 3 (some 30)
def ki_66 : zx_I := zx_uI ki_65 29 0 0
def ki_67 : zx_I := zx_uI ki_66 29 1 1
def ki_68 : zx_I := zx_uI ki_67 29 2 2
def ki_69 : zx_I := zx_uI ki_68 29 3 3
def ki_70 : zx_I := zx_uI ki_69 29 4 4
def ki_71 : zx_I := zx_uI ki_70 29 5 5
def ki_72 : zx_I := zx_uI ki_71 28 1 50
def kl_2 : zx_L := zx_uL kl_1 28 2 0
def ki_73 : zx_I := zx_uI ki_72 30 0 10
def ki_74 : zx_I := zx_uI ki_73 30 1 0
def ki_75 : zx_I := zx_uI ki_74 30 2 0
def ki_76 : zx_I := zx_uI ki_75 30 3 0
def ki_77 : zx_I := zx_uI ki_76 30 4 0
def ki_78 : zx_I := zx_uI ki_77 30 5 0
def kr_29 : zx_R := zx_uR kr_28 27 0 (some 28)
def kr_30 : zx_R := zx_uR kr_29 31 0 (some 32)
def kr_31 : zx_R := zx_uR kr_30 31 3 (some 33)
def ki_79 : zx_I := zx_uI ki_78 32 0 0
def ki_80 : zx_I := zx_uI ki_79 32 1 1
def ki_81 : zx_I := zx_uI ki_80 32 2 2
def ki_82 : zx_I := zx_uI ki_81 32 3 3
def ki_83 : zx_I := zx_uI ki_82 32 4 4
def ki_84 : zx_I := zx_uI ki_83 32 5 5
def ki_85 : zx_I := zx_uI ki_84 31 1 50
def kl_3 : zx_L := zx_uL kl_2 31 2 0
def ki_86 : zx_I := zx_uI ki_85 33 0 10
def ki_87 : zx_I := zx_uI ki_86 33 1 0
def ki_88 : zx_I := zx_uI ki_87 33 2 0
def ki_89 : zx_I := zx_uI ki_88 33 3 0
def ki_90 : zx_I := zx_uI ki_89 33 4 0
def ki_91 : zx_I := zx_uI ki_90 33 5 0
def kr_32 : zx_R := zx_uR kr_31 27 1 (some 31)
def kr_33 : zx_R := zx_uR kr_32 0 6 (some 27)
def kr_34 : zx_R := zx_uR kr_33 34 4 (some 35)
def kr_35 : zx_R := zx_uR kr_34 0 8 (some 34)
def kr_36 : zx_R := zx_uR kr_35 37 0 (some 38)
def ki_92 : zx_I := zx_uI ki_91 37 2 1
def kr_37 : zx_R := zx_uR kr_36 36 0 (some 37)
def kr_38 : zx_R := zx_uR kr_37 36 1 (some 39)
def kr_39 : zx_R := zx_uR kr_38 36 2 (some 40)
def kr_40 : zx_R := zx_uR kr_39 0 9 (some 36)
def kr_41 : zx_R := zx_uR kr_40 0 10 (some 41)
theorem kc_1_X6_init {d : Nat} : zx_M0 mm_X6_init (d + 1) 1 6 [.ref 2] (kS 3) ki_0 kl_0 kr_1 (zw_ret none (kS 4) ki_0 kl_0 kr_2) := by
  refine zv_entry gd_X6_init (Nat.le_of_ble_eq_true rfl) ?_
  refine zv_run 1 (pc' := 1) (lo' := [some (.ref 2)]) (st' := [.ref 2]) (I' := ki_0) (L' := kl_0) (R' := kr_1) rfl ?_
  refine zv_objInit (zs_at rfl) zm_6_3 (Nat.le_of_ble_eq_true rfl) ?_ zq_oi1 zq_oi2
  refine zv_run 2 (pc' := 7) (lo' := [some (.ref 2)]) (st' := [.int 6, .ref 2]) (I' := ki_0) (L' := kl_0) (R' := kr_1) rfl ?_
  refine zn_newarr (n := 3) (S' := kS 4) (kd := 100) (N := 6) (ty := .int) (zs_at rfl) rfl zq_int (Or.inl ⟨rfl, rfl, rfl⟩) rfl rfl (fun _ => ⟨rfl, rfl, rfl⟩) (by decide) (by decide) (Nat.le_of_ble_eq_true rfl) ⟨Nat.le_of_ble_eq_true rfl, Nat.le_of_ble_eq_true rfl⟩ ?_
  refine zv_run 1 (pc' := 12) (lo' := [some (.ref 2)]) (st' := []) (I' := ki_0) (L' := kl_0) (R' := kr_2) rfl ?_
  exact zv_vret (zs_at rfl) rfl ⟨Nat.le_of_ble_eq_true rfl, Nat.le_of_ble_eq_true rfl⟩ ⟨rfl, rfl, rfl, rfl, rfl⟩
theorem kc_2_X2_init {d : Nat} : zx_M0 mm_X2_init (d + 1) 0 0 [.ref 8, .int 0] (kS 9) ki_0 kl_0 kr_6 (zw_ret none (kS 9) ki_1 kl_0 kr_6) := by
  refine zv_entry gd_X2_init (Nat.le_of_ble_eq_true rfl) ?_
  refine zv_run 1 (pc' := 1) (lo' := [some (.ref 8), some (.int 0)]) (st' := [.ref 8]) (I' := ki_0) (L' := kl_0) (R' := kr_6) rfl ?_
  refine zv_objInit (zs_at rfl) zm_2_3 (Nat.le_of_ble_eq_true rfl) ?_ zq_oi1 zq_oi2
  refine zv_run 5 (pc' := 11) (lo' := [some (.ref 8), some (.int 0)]) (st' := []) (I' := ki_1) (L' := kl_0) (R' := kr_6) rfl ?_
  exact zv_vret (zs_at rfl) rfl ⟨Nat.le_of_ble_eq_true rfl, Nat.le_of_ble_eq_true rfl⟩ ⟨rfl, rfl, rfl, rfl, rfl⟩
theorem kc_3_X2_init {d : Nat} : zx_M0 mm_X2_init (d + 1) 0 0 [.ref 9, .int 1] (kS 10) ki_1 kl_0 kr_7 (zw_ret none (kS 10) ki_2 kl_0 kr_7) := by
  refine zv_entry gd_X2_init (Nat.le_of_ble_eq_true rfl) ?_
  refine zv_run 1 (pc' := 1) (lo' := [some (.ref 9), some (.int 1)]) (st' := [.ref 9]) (I' := ki_1) (L' := kl_0) (R' := kr_7) rfl ?_
  refine zv_objInit (zs_at rfl) zm_2_3 (Nat.le_of_ble_eq_true rfl) ?_ zq_oi1 zq_oi2
  refine zv_run 5 (pc' := 11) (lo' := [some (.ref 9), some (.int 1)]) (st' := []) (I' := ki_2) (L' := kl_0) (R' := kr_7) rfl ?_
  exact zv_vret (zs_at rfl) rfl ⟨Nat.le_of_ble_eq_true rfl, Nat.le_of_ble_eq_true rfl⟩ ⟨rfl, rfl, rfl, rfl, rfl⟩
theorem kc_4_X2_init {d : Nat} : zx_M0 mm_X2_init (d + 1) 0 0 [.ref 10, .int 2] (kS 11) ki_2 kl_0 kr_8 (zw_ret none (kS 11) ki_3 kl_0 kr_8) := by
  refine zv_entry gd_X2_init (Nat.le_of_ble_eq_true rfl) ?_
  refine zv_run 1 (pc' := 1) (lo' := [some (.ref 10), some (.int 2)]) (st' := [.ref 10]) (I' := ki_2) (L' := kl_0) (R' := kr_8) rfl ?_
  refine zv_objInit (zs_at rfl) zm_2_3 (Nat.le_of_ble_eq_true rfl) ?_ zq_oi1 zq_oi2
  refine zv_run 5 (pc' := 11) (lo' := [some (.ref 10), some (.int 2)]) (st' := []) (I' := ki_3) (L' := kl_0) (R' := kr_8) rfl ?_
  exact zv_vret (zs_at rfl) rfl ⟨Nat.le_of_ble_eq_true rfl, Nat.le_of_ble_eq_true rfl⟩ ⟨rfl, rfl, rfl, rfl, rfl⟩
theorem kc_5_X2_init {d : Nat} : zx_M0 mm_X2_init (d + 1) 0 0 [.ref 11, .int 3] (kS 12) ki_3 kl_0 kr_9 (zw_ret none (kS 12) ki_4 kl_0 kr_9) := by
  refine zv_entry gd_X2_init (Nat.le_of_ble_eq_true rfl) ?_
  refine zv_run 1 (pc' := 1) (lo' := [some (.ref 11), some (.int 3)]) (st' := [.ref 11]) (I' := ki_3) (L' := kl_0) (R' := kr_9) rfl ?_
  refine zv_objInit (zs_at rfl) zm_2_3 (Nat.le_of_ble_eq_true rfl) ?_ zq_oi1 zq_oi2
  refine zv_run 5 (pc' := 11) (lo' := [some (.ref 11), some (.int 3)]) (st' := []) (I' := ki_4) (L' := kl_0) (R' := kr_9) rfl ?_
  exact zv_vret (zs_at rfl) rfl ⟨Nat.le_of_ble_eq_true rfl, Nat.le_of_ble_eq_true rfl⟩ ⟨rfl, rfl, rfl, rfl, rfl⟩
theorem kc_6_X2_init {d : Nat} : zx_M0 mm_X2_init (d + 1) 0 0 [.ref 12, .int 4] (kS 13) ki_4 kl_0 kr_10 (zw_ret none (kS 13) ki_5 kl_0 kr_10) := by
  refine zv_entry gd_X2_init (Nat.le_of_ble_eq_true rfl) ?_
  refine zv_run 1 (pc' := 1) (lo' := [some (.ref 12), some (.int 4)]) (st' := [.ref 12]) (I' := ki_4) (L' := kl_0) (R' := kr_10) rfl ?_
  refine zv_objInit (zs_at rfl) zm_2_3 (Nat.le_of_ble_eq_true rfl) ?_ zq_oi1 zq_oi2
  refine zv_run 5 (pc' := 11) (lo' := [some (.ref 12), some (.int 4)]) (st' := []) (I' := ki_5) (L' := kl_0) (R' := kr_10) rfl ?_
  exact zv_vret (zs_at rfl) rfl ⟨Nat.le_of_ble_eq_true rfl, Nat.le_of_ble_eq_true rfl⟩ ⟨rfl, rfl, rfl, rfl, rfl⟩
theorem kc_7_X2_init {d : Nat} : zx_M0 mm_X2_init (d + 1) 0 0 [.ref 13, .int 5] (kS 14) ki_5 kl_0 kr_11 (zw_ret none (kS 14) ki_6 kl_0 kr_11) := by
  refine zv_entry gd_X2_init (Nat.le_of_ble_eq_true rfl) ?_
  refine zv_run 1 (pc' := 1) (lo' := [some (.ref 13), some (.int 5)]) (st' := [.ref 13]) (I' := ki_5) (L' := kl_0) (R' := kr_11) rfl ?_
  refine zv_objInit (zs_at rfl) zm_2_3 (Nat.le_of_ble_eq_true rfl) ?_ zq_oi1 zq_oi2
  refine zv_run 5 (pc' := 11) (lo' := [some (.ref 13), some (.int 5)]) (st' := []) (I' := ki_6) (L' := kl_0) (R' := kr_11) rfl ?_
  exact zv_vret (zs_at rfl) rfl ⟨Nat.le_of_ble_eq_true rfl, Nat.le_of_ble_eq_true rfl⟩ ⟨rfl, rfl, rfl, rfl, rfl⟩
theorem kc_8_X5_clear {d : Nat} : zx_M0 mm_X5_clear (d + 0) 0 0 [.ref 4] (kS 14) ki_6 kl_0 kr_12 (zw_ret none (kS 14) ki_26 kl_0 kr_12) := by
  refine zv_entry gd_X5_clear (Nat.le_of_ble_eq_true rfl) ?_
  refine zv_run 22 (pc' := 37) (lo' := [some (.ref 4), some (.int 0)]) (st' := [.int 3, .int 0]) (I' := ki_12) (L' := kl_0) (R' := kr_12) rfl ?_
  refine zv_icmp_gt (tgt := 60) (zs_at rfl) (by decide) (fun c => absurd c (by decide)) (fun c => ?_)
  refine zv_run 12 (pc' := 35) (lo' := [some (.ref 4), some (.int 1)]) (st' := []) (I' := ki_14) (L' := kl_0) (R' := kr_12) rfl ?_
  refine zv_run 2 (pc' := 37) (lo' := [some (.ref 4), some (.int 1)]) (st' := [.int 3, .int 1]) (I' := ki_14) (L' := kl_0) (R' := kr_12) rfl ?_
  refine zv_icmp_gt (tgt := 60) (zs_at rfl) (by decide) (fun c => absurd c (by decide)) (fun c => ?_)
  refine zv_run 12 (pc' := 35) (lo' := [some (.ref 4), some (.int 2)]) (st' := []) (I' := ki_16) (L' := kl_0) (R' := kr_12) rfl ?_
  refine zv_run 2 (pc' := 37) (lo' := [some (.ref 4), some (.int 2)]) (st' := [.int 3, .int 2]) (I' := ki_16) (L' := kl_0) (R' := kr_12) rfl ?_
  refine zv_icmp_gt (tgt := 60) (zs_at rfl) (by decide) (fun c => absurd c (by decide)) (fun c => ?_)
  refine zv_run 12 (pc' := 35) (lo' := [some (.ref 4), some (.int 3)]) (st' := []) (I' := ki_18) (L' := kl_0) (R' := kr_12) rfl ?_
  refine zv_run 2 (pc' := 37) (lo' := [some (.ref 4), some (.int 3)]) (st' := [.int 3, .int 3]) (I' := ki_18) (L' := kl_0) (R' := kr_12) rfl ?_
  refine zv_icmp_gt (tgt := 60) (zs_at rfl) (by decide) (fun c => absurd c (by decide)) (fun c => ?_)
  refine zv_run 12 (pc' := 35) (lo' := [some (.ref 4), some (.int 4)]) (st' := []) (I' := ki_20) (L' := kl_0) (R' := kr_12) rfl ?_
  refine zv_run 2 (pc' := 37) (lo' := [some (.ref 4), some (.int 4)]) (st' := [.int 3, .int 4]) (I' := ki_20) (L' := kl_0) (R' := kr_12) rfl ?_
  refine zv_icmp_gt (tgt := 60) (zs_at rfl) (by decide) (fun c => ?_) (fun c => absurd (by decide) c)
  refine zv_run 18 (pc' := 91) (lo' := [some (.ref 4), some (.int 4)]) (st' := []) (I' := ki_26) (L' := kl_0) (R' := kr_12) rfl ?_
  exact zv_vret (zs_at rfl) rfl ⟨Nat.le_of_ble_eq_true rfl, Nat.le_of_ble_eq_true rfl⟩ ⟨rfl, rfl, rfl, rfl, rfl⟩
theorem kc_9_X5_init {d : Nat} : zx_M0 mm_X5_init (d + 2) 9 98 [.ref 4] (kS 5) ki_0 kl_0 kr_3 (zw_ret none (kS 14) ki_26 kl_0 kr_12) := by
  refine zv_entry gd_X5_init (Nat.le_of_ble_eq_true rfl) ?_
  refine zv_run 1 (pc' := 1) (lo' := [some (.ref 4), none]) (st' := [.ref 4]) (I' := ki_0) (L' := kl_0) (R' := kr_3) rfl ?_
  refine zv_objInit (zs_at rfl) zm_5_3 (Nat.le_of_ble_eq_true rfl) ?_ zq_oi1 zq_oi2
  refine zv_run 2 (pc' := 6) (lo' := [some (.ref 4), none]) (st' := [.int 4, .ref 4]) (I' := ki_0) (L' := kl_0) (R' := kr_3) rfl ?_
  refine zn_newarr (n := 5) (S' := kS 6) (kd := 100) (N := 4) (ty := .int) (zs_at rfl) rfl zq_int (Or.inl ⟨rfl, rfl, rfl⟩) rfl rfl (fun _ => ⟨rfl, rfl, rfl⟩) (by decide) (by decide) (Nat.le_of_ble_eq_true rfl) ⟨Nat.le_of_ble_eq_true rfl, Nat.le_of_ble_eq_true rfl⟩ ?_
  refine zv_run 3 (pc' := 13) (lo' := [some (.ref 4), none]) (st' := [.int 4, .ref 4]) (I' := ki_0) (L' := kl_0) (R' := kr_4) rfl ?_
  refine zn_newarr (n := 6) (S' := kS 7) (kd := 100) (N := 4) (ty := .int) (zs_at rfl) rfl zq_int (Or.inl ⟨rfl, rfl, rfl⟩) rfl rfl (fun _ => ⟨rfl, rfl, rfl⟩) (by decide) (by decide) (Nat.le_of_ble_eq_true rfl) ⟨Nat.le_of_ble_eq_true rfl, Nat.le_of_ble_eq_true rfl⟩ ?_
  refine zv_run 3 (pc' := 21) (lo' := [some (.ref 4), none]) (st' := [.int 6, .ref 4]) (I' := ki_0) (L' := kl_0) (R' := kr_5) rfl ?_
  refine zn_newq (n := 7) (S' := kS 8) (kd := 103) (N := 6) (zs_at rfl) zy_5_18 rfl rfl (fun _ => ⟨rfl, rfl, rfl⟩) (by decide) (by decide) (Nat.le_of_ble_eq_true rfl) ⟨Nat.le_of_ble_eq_true rfl, Nat.le_of_ble_eq_true rfl⟩ ?_
  refine zv_run 7 (pc' := 35) (lo' := [some (.ref 4), some (.int 0)]) (st' := [.int 6, .int 0]) (I' := ki_0) (L' := kl_0) (R' := kr_6) rfl ?_
  refine zv_icmp_ge (tgt := 58) (zs_at rfl) (by decide) (fun c => absurd c (by decide)) (fun c => ?_)
  refine zv_run 3 (pc' := 43) (lo' := [some (.ref 4), some (.int 0)]) (st' := [.int 0, .ref 7]) (I' := ki_0) (L' := kl_0) (R' := kr_6) rfl ?_
  refine zn_new (n := 8) (S' := kS 9) (N := 14) (zs_at rfl) zw_5_18 rfl rfl (fun _ => ⟨rfl, rfl, rfl⟩) ⟨Nat.le_of_ble_eq_true rfl, Nat.le_of_ble_eq_true rfl⟩ ?_
  refine zv_run 2 (pc' := 48) (lo' := [some (.ref 4), some (.int 0)]) (st' := [.int 0, .ref 8, .ref 8, .int 0, .ref 7]) (I' := ki_0) (L' := kl_0) (R' := kr_6) rfl ?_
  refine zn_cI (M' := mm_X2_init) (mc' := 0) (ms' := 0) (a := 8) (av := [.int 0]) (st := [.ref 8, .int 0, .ref 7]) (zs_at rfl) zc_5_24 gd_X2_init rfl rfl kc_2_X2_init ⟨Nat.le_of_ble_eq_true rfl, Nat.le_of_ble_eq_true rfl⟩ (Nat.le_of_ble_eq_true rfl) ?_
  refine zv_aast (kd := 103) (n := 6) (j := 8) (zs_at rfl) rfl (Or.inl ⟨rfl, rfl⟩) rfl (show vp_in (nI 0) 6 from vp_in_nI (by decide) (by decide)) ?_
  refine zv_run 0 (pc' := 52) (lo' := [some (.ref 4), some (.int 0)]) (st' := []) (I' := ki_1) (L' := kl_0) (R' := kr_7) rfl ?_
  refine zv_run 2 (pc' := 29) (lo' := [some (.ref 4), some (.int 1)]) (st' := []) (I' := ki_1) (L' := kl_0) (R' := kr_7) rfl ?_
  refine zv_run 4 (pc' := 35) (lo' := [some (.ref 4), some (.int 1)]) (st' := [.int 6, .int 1]) (I' := ki_1) (L' := kl_0) (R' := kr_7) rfl ?_
  refine zv_icmp_ge (tgt := 58) (zs_at rfl) (by decide) (fun c => absurd c (by decide)) (fun c => ?_)
  refine zv_run 3 (pc' := 43) (lo' := [some (.ref 4), some (.int 1)]) (st' := [.int 1, .ref 7]) (I' := ki_1) (L' := kl_0) (R' := kr_7) rfl ?_
  refine zn_new (n := 9) (S' := kS 10) (N := 14) (zs_at rfl) zw_5_18 rfl rfl (fun _ => ⟨rfl, rfl, rfl⟩) ⟨Nat.le_of_ble_eq_true rfl, Nat.le_of_ble_eq_true rfl⟩ ?_
  refine zv_run 2 (pc' := 48) (lo' := [some (.ref 4), some (.int 1)]) (st' := [.int 1, .ref 9, .ref 9, .int 1, .ref 7]) (I' := ki_1) (L' := kl_0) (R' := kr_7) rfl ?_
  refine zn_cI (M' := mm_X2_init) (mc' := 0) (ms' := 0) (a := 9) (av := [.int 1]) (st := [.ref 9, .int 1, .ref 7]) (zs_at rfl) zc_5_24 gd_X2_init rfl rfl kc_3_X2_init ⟨Nat.le_of_ble_eq_true rfl, Nat.le_of_ble_eq_true rfl⟩ (Nat.le_of_ble_eq_true rfl) ?_
  refine zv_aast (kd := 103) (n := 6) (j := 9) (zs_at rfl) rfl (Or.inl ⟨rfl, rfl⟩) rfl (show vp_in (nI 1) 6 from vp_in_nI (by decide) (by decide)) ?_
  refine zv_run 0 (pc' := 52) (lo' := [some (.ref 4), some (.int 1)]) (st' := []) (I' := ki_2) (L' := kl_0) (R' := kr_8) rfl ?_
  refine zv_run 2 (pc' := 29) (lo' := [some (.ref 4), some (.int 2)]) (st' := []) (I' := ki_2) (L' := kl_0) (R' := kr_8) rfl ?_
  refine zv_run 4 (pc' := 35) (lo' := [some (.ref 4), some (.int 2)]) (st' := [.int 6, .int 2]) (I' := ki_2) (L' := kl_0) (R' := kr_8) rfl ?_
  refine zv_icmp_ge (tgt := 58) (zs_at rfl) (by decide) (fun c => absurd c (by decide)) (fun c => ?_)
  refine zv_run 3 (pc' := 43) (lo' := [some (.ref 4), some (.int 2)]) (st' := [.int 2, .ref 7]) (I' := ki_2) (L' := kl_0) (R' := kr_8) rfl ?_
  refine zn_new (n := 10) (S' := kS 11) (N := 14) (zs_at rfl) zw_5_18 rfl rfl (fun _ => ⟨rfl, rfl, rfl⟩) ⟨Nat.le_of_ble_eq_true rfl, Nat.le_of_ble_eq_true rfl⟩ ?_
  refine zv_run 2 (pc' := 48) (lo' := [some (.ref 4), some (.int 2)]) (st' := [.int 2, .ref 10, .ref 10, .int 2, .ref 7]) (I' := ki_2) (L' := kl_0) (R' := kr_8) rfl ?_
  refine zn_cI (M' := mm_X2_init) (mc' := 0) (ms' := 0) (a := 10) (av := [.int 2]) (st := [.ref 10, .int 2, .ref 7]) (zs_at rfl) zc_5_24 gd_X2_init rfl rfl kc_4_X2_init ⟨Nat.le_of_ble_eq_true rfl, Nat.le_of_ble_eq_true rfl⟩ (Nat.le_of_ble_eq_true rfl) ?_
  refine zv_aast (kd := 103) (n := 6) (j := 10) (zs_at rfl) rfl (Or.inl ⟨rfl, rfl⟩) rfl (show vp_in (nI 2) 6 from vp_in_nI (by decide) (by decide)) ?_
  refine zv_run 0 (pc' := 52) (lo' := [some (.ref 4), some (.int 2)]) (st' := []) (I' := ki_3) (L' := kl_0) (R' := kr_9) rfl ?_
  refine zv_run 2 (pc' := 29) (lo' := [some (.ref 4), some (.int 3)]) (st' := []) (I' := ki_3) (L' := kl_0) (R' := kr_9) rfl ?_
  refine zv_run 4 (pc' := 35) (lo' := [some (.ref 4), some (.int 3)]) (st' := [.int 6, .int 3]) (I' := ki_3) (L' := kl_0) (R' := kr_9) rfl ?_
  refine zv_icmp_ge (tgt := 58) (zs_at rfl) (by decide) (fun c => absurd c (by decide)) (fun c => ?_)
  refine zv_run 3 (pc' := 43) (lo' := [some (.ref 4), some (.int 3)]) (st' := [.int 3, .ref 7]) (I' := ki_3) (L' := kl_0) (R' := kr_9) rfl ?_
  refine zn_new (n := 11) (S' := kS 12) (N := 14) (zs_at rfl) zw_5_18 rfl rfl (fun _ => ⟨rfl, rfl, rfl⟩) ⟨Nat.le_of_ble_eq_true rfl, Nat.le_of_ble_eq_true rfl⟩ ?_
  refine zv_run 2 (pc' := 48) (lo' := [some (.ref 4), some (.int 3)]) (st' := [.int 3, .ref 11, .ref 11, .int 3, .ref 7]) (I' := ki_3) (L' := kl_0) (R' := kr_9) rfl ?_
  refine zn_cI (M' := mm_X2_init) (mc' := 0) (ms' := 0) (a := 11) (av := [.int 3]) (st := [.ref 11, .int 3, .ref 7]) (zs_at rfl) zc_5_24 gd_X2_init rfl rfl kc_5_X2_init ⟨Nat.le_of_ble_eq_true rfl, Nat.le_of_ble_eq_true rfl⟩ (Nat.le_of_ble_eq_true rfl) ?_
  refine zv_aast (kd := 103) (n := 6) (j := 11) (zs_at rfl) rfl (Or.inl ⟨rfl, rfl⟩) rfl (show vp_in (nI 3) 6 from vp_in_nI (by decide) (by decide)) ?_
  refine zv_run 0 (pc' := 52) (lo' := [some (.ref 4), some (.int 3)]) (st' := []) (I' := ki_4) (L' := kl_0) (R' := kr_10) rfl ?_
  refine zv_run 2 (pc' := 29) (lo' := [some (.ref 4), some (.int 4)]) (st' := []) (I' := ki_4) (L' := kl_0) (R' := kr_10) rfl ?_
  refine zv_run 4 (pc' := 35) (lo' := [some (.ref 4), some (.int 4)]) (st' := [.int 6, .int 4]) (I' := ki_4) (L' := kl_0) (R' := kr_10) rfl ?_
  refine zv_icmp_ge (tgt := 58) (zs_at rfl) (by decide) (fun c => absurd c (by decide)) (fun c => ?_)
  refine zv_run 3 (pc' := 43) (lo' := [some (.ref 4), some (.int 4)]) (st' := [.int 4, .ref 7]) (I' := ki_4) (L' := kl_0) (R' := kr_10) rfl ?_
  refine zn_new (n := 12) (S' := kS 13) (N := 14) (zs_at rfl) zw_5_18 rfl rfl (fun _ => ⟨rfl, rfl, rfl⟩) ⟨Nat.le_of_ble_eq_true rfl, Nat.le_of_ble_eq_true rfl⟩ ?_
  refine zv_run 2 (pc' := 48) (lo' := [some (.ref 4), some (.int 4)]) (st' := [.int 4, .ref 12, .ref 12, .int 4, .ref 7]) (I' := ki_4) (L' := kl_0) (R' := kr_10) rfl ?_
  refine zn_cI (M' := mm_X2_init) (mc' := 0) (ms' := 0) (a := 12) (av := [.int 4]) (st := [.ref 12, .int 4, .ref 7]) (zs_at rfl) zc_5_24 gd_X2_init rfl rfl kc_6_X2_init ⟨Nat.le_of_ble_eq_true rfl, Nat.le_of_ble_eq_true rfl⟩ (Nat.le_of_ble_eq_true rfl) ?_
  refine zv_aast (kd := 103) (n := 6) (j := 12) (zs_at rfl) rfl (Or.inl ⟨rfl, rfl⟩) rfl (show vp_in (nI 4) 6 from vp_in_nI (by decide) (by decide)) ?_
  refine zv_run 0 (pc' := 52) (lo' := [some (.ref 4), some (.int 4)]) (st' := []) (I' := ki_5) (L' := kl_0) (R' := kr_11) rfl ?_
  refine zv_run 2 (pc' := 29) (lo' := [some (.ref 4), some (.int 5)]) (st' := []) (I' := ki_5) (L' := kl_0) (R' := kr_11) rfl ?_
  refine zv_run 4 (pc' := 35) (lo' := [some (.ref 4), some (.int 5)]) (st' := [.int 6, .int 5]) (I' := ki_5) (L' := kl_0) (R' := kr_11) rfl ?_
  refine zv_icmp_ge (tgt := 58) (zs_at rfl) (by decide) (fun c => absurd c (by decide)) (fun c => ?_)
  refine zv_run 3 (pc' := 43) (lo' := [some (.ref 4), some (.int 5)]) (st' := [.int 5, .ref 7]) (I' := ki_5) (L' := kl_0) (R' := kr_11) rfl ?_
  refine zn_new (n := 13) (S' := kS 14) (N := 14) (zs_at rfl) zw_5_18 rfl rfl (fun _ => ⟨rfl, rfl, rfl⟩) ⟨Nat.le_of_ble_eq_true rfl, Nat.le_of_ble_eq_true rfl⟩ ?_
  refine zv_run 2 (pc' := 48) (lo' := [some (.ref 4), some (.int 5)]) (st' := [.int 5, .ref 13, .ref 13, .int 5, .ref 7]) (I' := ki_5) (L' := kl_0) (R' := kr_11) rfl ?_
  refine zn_cI (M' := mm_X2_init) (mc' := 0) (ms' := 0) (a := 13) (av := [.int 5]) (st := [.ref 13, .int 5, .ref 7]) (zs_at rfl) zc_5_24 gd_X2_init rfl rfl kc_7_X2_init ⟨Nat.le_of_ble_eq_true rfl, Nat.le_of_ble_eq_true rfl⟩ (Nat.le_of_ble_eq_true rfl) ?_
  refine zv_aast (kd := 103) (n := 6) (j := 13) (zs_at rfl) rfl (Or.inl ⟨rfl, rfl⟩) rfl (show vp_in (nI 5) 6 from vp_in_nI (by decide) (by decide)) ?_
  refine zv_run 0 (pc' := 52) (lo' := [some (.ref 4), some (.int 5)]) (st' := []) (I' := ki_6) (L' := kl_0) (R' := kr_12) rfl ?_
  refine zv_run 2 (pc' := 29) (lo' := [some (.ref 4), some (.int 6)]) (st' := []) (I' := ki_6) (L' := kl_0) (R' := kr_12) rfl ?_
  refine zv_run 4 (pc' := 35) (lo' := [some (.ref 4), some (.int 6)]) (st' := [.int 6, .int 6]) (I' := ki_6) (L' := kl_0) (R' := kr_12) rfl ?_
  refine zv_icmp_ge (tgt := 58) (zs_at rfl) (by decide) (fun c => ?_) (fun c => absurd (by decide) c)
  refine zv_run 1 (pc' := 59) (lo' := [some (.ref 4), some (.int 6)]) (st' := [.ref 4]) (I' := ki_6) (L' := kl_0) (R' := kr_12) rfl ?_
  refine zn_cV (M' := mm_X5_clear) (a := 4) (st := []) (zs_at rfl) zc_5_27 gd_X5_clear rfl rfl kc_8_X5_clear ⟨Nat.le_of_ble_eq_true rfl, Nat.le_of_ble_eq_true rfl⟩ (Nat.le_of_ble_eq_true rfl) ?_
  exact zv_vret (zs_at rfl) rfl ⟨Nat.le_of_ble_eq_true rfl, Nat.le_of_ble_eq_true rfl⟩ ⟨rfl, rfl, rfl, rfl, rfl⟩
theorem kc_10_X2_init {d : Nat} : zx_M0 mm_X2_init (d + 1) 0 0 [.ref 18, .int 0] (kS 19) ki_26 kl_0 kr_16 (zw_ret none (kS 19) ki_27 kl_0 kr_16) := by
  refine zv_entry gd_X2_init (Nat.le_of_ble_eq_true rfl) ?_
  refine zv_run 1 (pc' := 1) (lo' := [some (.ref 18), some (.int 0)]) (st' := [.ref 18]) (I' := ki_26) (L' := kl_0) (R' := kr_16) rfl ?_
  refine zv_objInit (zs_at rfl) zm_2_3 (Nat.le_of_ble_eq_true rfl) ?_ zq_oi1 zq_oi2
  refine zv_run 5 (pc' := 11) (lo' := [some (.ref 18), some (.int 0)]) (st' := []) (I' := ki_27) (L' := kl_0) (R' := kr_16) rfl ?_
  exact zv_vret (zs_at rfl) rfl ⟨Nat.le_of_ble_eq_true rfl, Nat.le_of_ble_eq_true rfl⟩ ⟨rfl, rfl, rfl, rfl, rfl⟩
theorem kc_11_X2_init {d : Nat} : zx_M0 mm_X2_init (d + 1) 0 0 [.ref 19, .int 1] (kS 20) ki_27 kl_0 kr_17 (zw_ret none (kS 20) ki_28 kl_0 kr_17) := by
  refine zv_entry gd_X2_init (Nat.le_of_ble_eq_true rfl) ?_
  refine zv_run 1 (pc' := 1) (lo' := [some (.ref 19), some (.int 1)]) (st' := [.ref 19]) (I' := ki_27) (L' := kl_0) (R' := kr_17) rfl ?_
  refine zv_objInit (zs_at rfl) zm_2_3 (Nat.le_of_ble_eq_true rfl) ?_ zq_oi1 zq_oi2
  refine zv_run 5 (pc' := 11) (lo' := [some (.ref 19), some (.int 1)]) (st' := []) (I' := ki_28) (L' := kl_0) (R' := kr_17) rfl ?_
  exact zv_vret (zs_at rfl) rfl ⟨Nat.le_of_ble_eq_true rfl, Nat.le_of_ble_eq_true rfl⟩ ⟨rfl, rfl, rfl, rfl, rfl⟩
theorem kc_12_X2_init {d : Nat} : zx_M0 mm_X2_init (d + 1) 0 0 [.ref 20, .int 2] (kS 21) ki_28 kl_0 kr_18 (zw_ret none (kS 21) ki_29 kl_0 kr_18) := by
  refine zv_entry gd_X2_init (Nat.le_of_ble_eq_true rfl) ?_
  refine zv_run 1 (pc' := 1) (lo' := [some (.ref 20), some (.int 2)]) (st' := [.ref 20]) (I' := ki_28) (L' := kl_0) (R' := kr_18) rfl ?_
  refine zv_objInit (zs_at rfl) zm_2_3 (Nat.le_of_ble_eq_true rfl) ?_ zq_oi1 zq_oi2
  refine zv_run 5 (pc' := 11) (lo' := [some (.ref 20), some (.int 2)]) (st' := []) (I' := ki_29) (L' := kl_0) (R' := kr_18) rfl ?_
  exact zv_vret (zs_at rfl) rfl ⟨Nat.le_of_ble_eq_true rfl, Nat.le_of_ble_eq_true rfl⟩ ⟨rfl, rfl, rfl, rfl, rfl⟩
theorem kc_13_X2_init {d : Nat} : zx_M0 mm_X2_init (d + 1) 0 0 [.ref 21, .int 3] (kS 22) ki_29 kl_0 kr_19 (zw_ret none (kS 22) ki_30 kl_0 kr_19) := by
  refine zv_entry gd_X2_init (Nat.le_of_ble_eq_true rfl) ?_
  refine zv_run 1 (pc' := 1) (lo' := [some (.ref 21), some (.int 3)]) (st' := [.ref 21]) (I' := ki_29) (L' := kl_0) (R' := kr_19) rfl ?_
  refine zv_objInit (zs_at rfl) zm_2_3 (Nat.le_of_ble_eq_true rfl) ?_ zq_oi1 zq_oi2
  refine zv_run 5 (pc' := 11) (lo' := [some (.ref 21), some (.int 3)]) (st' := []) (I' := ki_30) (L' := kl_0) (R' := kr_19) rfl ?_
  exact zv_vret (zs_at rfl) rfl ⟨Nat.le_of_ble_eq_true rfl, Nat.le_of_ble_eq_true rfl⟩ ⟨rfl, rfl, rfl, rfl, rfl⟩
theorem kc_14_X2_init {d : Nat} : zx_M0 mm_X2_init (d + 1) 0 0 [.ref 22, .int 4] (kS 23) ki_30 kl_0 kr_20 (zw_ret none (kS 23) ki_31 kl_0 kr_20) := by
  refine zv_entry gd_X2_init (Nat.le_of_ble_eq_true rfl) ?_
  refine zv_run 1 (pc' := 1) (lo' := [some (.ref 22), some (.int 4)]) (st' := [.ref 22]) (I' := ki_30) (L' := kl_0) (R' := kr_20) rfl ?_
  refine zv_objInit (zs_at rfl) zm_2_3 (Nat.le_of_ble_eq_true rfl) ?_ zq_oi1 zq_oi2
  refine zv_run 5 (pc' := 11) (lo' := [some (.ref 22), some (.int 4)]) (st' := []) (I' := ki_31) (L' := kl_0) (R' := kr_20) rfl ?_
  exact zv_vret (zs_at rfl) rfl ⟨Nat.le_of_ble_eq_true rfl, Nat.le_of_ble_eq_true rfl⟩ ⟨rfl, rfl, rfl, rfl, rfl⟩
theorem kc_15_X2_init {d : Nat} : zx_M0 mm_X2_init (d + 1) 0 0 [.ref 23, .int 5] (kS 24) ki_31 kl_0 kr_21 (zw_ret none (kS 24) ki_32 kl_0 kr_21) := by
  refine zv_entry gd_X2_init (Nat.le_of_ble_eq_true rfl) ?_
  refine zv_run 1 (pc' := 1) (lo' := [some (.ref 23), some (.int 5)]) (st' := [.ref 23]) (I' := ki_31) (L' := kl_0) (R' := kr_21) rfl ?_
  refine zv_objInit (zs_at rfl) zm_2_3 (Nat.le_of_ble_eq_true rfl) ?_ zq_oi1 zq_oi2
  refine zv_run 5 (pc' := 11) (lo' := [some (.ref 23), some (.int 5)]) (st' := []) (I' := ki_32) (L' := kl_0) (R' := kr_21) rfl ?_
  exact zv_vret (zs_at rfl) rfl ⟨Nat.le_of_ble_eq_true rfl, Nat.le_of_ble_eq_true rfl⟩ ⟨rfl, rfl, rfl, rfl, rfl⟩
theorem kc_16_X5_clear {d : Nat} : zx_M0 mm_X5_clear (d + 0) 0 0 [.ref 14] (kS 24) ki_32 kl_0 kr_22 (zw_ret none (kS 24) ki_52 kl_0 kr_22) := by
  refine zv_entry gd_X5_clear (Nat.le_of_ble_eq_true rfl) ?_
  refine zv_run 22 (pc' := 37) (lo' := [some (.ref 14), some (.int 0)]) (st' := [.int 3, .int 0]) (I' := ki_38) (L' := kl_0) (R' := kr_22) rfl ?_
  refine zv_icmp_gt (tgt := 60) (zs_at rfl) (by decide) (fun c => absurd c (by decide)) (fun c => ?_)
  refine zv_run 12 (pc' := 35) (lo' := [some (.ref 14), some (.int 1)]) (st' := []) (I' := ki_40) (L' := kl_0) (R' := kr_22) rfl ?_
  refine zv_run 2 (pc' := 37) (lo' := [some (.ref 14), some (.int 1)]) (st' := [.int 3, .int 1]) (I' := ki_40) (L' := kl_0) (R' := kr_22) rfl ?_
  refine zv_icmp_gt (tgt := 60) (zs_at rfl) (by decide) (fun c => absurd c (by decide)) (fun c => ?_)
  refine zv_run 12 (pc' := 35) (lo' := [some (.ref 14), some (.int 2)]) (st' := []) (I' := ki_42) (L' := kl_0) (R' := kr_22) rfl ?_
  refine zv_run 2 (pc' := 37) (lo' := [some (.ref 14), some (.int 2)]) (st' := [.int 3, .int 2]) (I' := ki_42) (L' := kl_0) (R' := kr_22) rfl ?_
  refine zv_icmp_gt (tgt := 60) (zs_at rfl) (by decide) (fun c => absurd c (by decide)) (fun c => ?_)
  refine zv_run 12 (pc' := 35) (lo' := [some (.ref 14), some (.int 3)]) (st' := []) (I' := ki_44) (L' := kl_0) (R' := kr_22) rfl ?_
  refine zv_run 2 (pc' := 37) (lo' := [some (.ref 14), some (.int 3)]) (st' := [.int 3, .int 3]) (I' := ki_44) (L' := kl_0) (R' := kr_22) rfl ?_
  refine zv_icmp_gt (tgt := 60) (zs_at rfl) (by decide) (fun c => absurd c (by decide)) (fun c => ?_)
  refine zv_run 12 (pc' := 35) (lo' := [some (.ref 14), some (.int 4)]) (st' := []) (I' := ki_46) (L' := kl_0) (R' := kr_22) rfl ?_
  refine zv_run 2 (pc' := 37) (lo' := [some (.ref 14), some (.int 4)]) (st' := [.int 3, .int 4]) (I' := ki_46) (L' := kl_0) (R' := kr_22) rfl ?_
  refine zv_icmp_gt (tgt := 60) (zs_at rfl) (by decide) (fun c => ?_) (fun c => absurd (by decide) c)
  refine zv_run 18 (pc' := 91) (lo' := [some (.ref 14), some (.int 4)]) (st' := []) (I' := ki_52) (L' := kl_0) (R' := kr_22) rfl ?_
  exact zv_vret (zs_at rfl) rfl ⟨Nat.le_of_ble_eq_true rfl, Nat.le_of_ble_eq_true rfl⟩ ⟨rfl, rfl, rfl, rfl, rfl⟩
theorem kc_17_X5_init {d : Nat} : zx_M0 mm_X5_init (d + 2) 9 98 [.ref 14] (kS 15) ki_26 kl_0 kr_13 (zw_ret none (kS 24) ki_52 kl_0 kr_22) := by
  refine zv_entry gd_X5_init (Nat.le_of_ble_eq_true rfl) ?_
  refine zv_run 1 (pc' := 1) (lo' := [some (.ref 14), none]) (st' := [.ref 14]) (I' := ki_26) (L' := kl_0) (R' := kr_13) rfl ?_
  refine zv_objInit (zs_at rfl) zm_5_3 (Nat.le_of_ble_eq_true rfl) ?_ zq_oi1 zq_oi2
  refine zv_run 2 (pc' := 6) (lo' := [some (.ref 14), none]) (st' := [.int 4, .ref 14]) (I' := ki_26) (L' := kl_0) (R' := kr_13) rfl ?_
  refine zn_newarr (n := 15) (S' := kS 16) (kd := 100) (N := 4) (ty := .int) (zs_at rfl) rfl zq_int (Or.inl ⟨rfl, rfl, rfl⟩) rfl rfl (fun _ => ⟨rfl, rfl, rfl⟩) (by decide) (by decide) (Nat.le_of_ble_eq_true rfl) ⟨Nat.le_of_ble_eq_true rfl, Nat.le_of_ble_eq_true rfl⟩ ?_
  refine zv_run 3 (pc' := 13) (lo' := [some (.ref 14), none]) (st' := [.int 4, .ref 14]) (I' := ki_26) (L' := kl_0) (R' := kr_14) rfl ?_
  refine zn_newarr (n := 16) (S' := kS 17) (kd := 100) (N := 4) (ty := .int) (zs_at rfl) rfl zq_int (Or.inl ⟨rfl, rfl, rfl⟩) rfl rfl (fun _ => ⟨rfl, rfl, rfl⟩) (by decide) (by decide) (Nat.le_of_ble_eq_true rfl) ⟨Nat.le_of_ble_eq_true rfl, Nat.le_of_ble_eq_true rfl⟩ ?_
  refine zv_run 3 (pc' := 21) (lo' := [some (.ref 14), none]) (st' := [.int 6, .ref 14]) (I' := ki_26) (L' := kl_0) (R' := kr_15) rfl ?_
  refine zn_newq (n := 17) (S' := kS 18) (kd := 103) (N := 6) (zs_at rfl) zy_5_18 rfl rfl (fun _ => ⟨rfl, rfl, rfl⟩) (by decide) (by decide) (Nat.le_of_ble_eq_true rfl) ⟨Nat.le_of_ble_eq_true rfl, Nat.le_of_ble_eq_true rfl⟩ ?_
  refine zv_run 7 (pc' := 35) (lo' := [some (.ref 14), some (.int 0)]) (st' := [.int 6, .int 0]) (I' := ki_26) (L' := kl_0) (R' := kr_16) rfl ?_
  refine zv_icmp_ge (tgt := 58) (zs_at rfl) (by decide) (fun c => absurd c (by decide)) (fun c => ?_)
  refine zv_run 3 (pc' := 43) (lo' := [some (.ref 14), some (.int 0)]) (st' := [.int 0, .ref 17]) (I' := ki_26) (L' := kl_0) (R' := kr_16) rfl ?_
  refine zn_new (n := 18) (S' := kS 19) (N := 14) (zs_at rfl) zw_5_18 rfl rfl (fun _ => ⟨rfl, rfl, rfl⟩) ⟨Nat.le_of_ble_eq_true rfl, Nat.le_of_ble_eq_true rfl⟩ ?_
  refine zv_run 2 (pc' := 48) (lo' := [some (.ref 14), some (.int 0)]) (st' := [.int 0, .ref 18, .ref 18, .int 0, .ref 17]) (I' := ki_26) (L' := kl_0) (R' := kr_16) rfl ?_
  refine zn_cI (M' := mm_X2_init) (mc' := 0) (ms' := 0) (a := 18) (av := [.int 0]) (st := [.ref 18, .int 0, .ref 17]) (zs_at rfl) zc_5_24 gd_X2_init rfl rfl kc_10_X2_init ⟨Nat.le_of_ble_eq_true rfl, Nat.le_of_ble_eq_true rfl⟩ (Nat.le_of_ble_eq_true rfl) ?_
  refine zv_aast (kd := 103) (n := 6) (j := 18) (zs_at rfl) rfl (Or.inl ⟨rfl, rfl⟩) rfl (show vp_in (nI 0) 6 from vp_in_nI (by decide) (by decide)) ?_
  refine zv_run 0 (pc' := 52) (lo' := [some (.ref 14), some (.int 0)]) (st' := []) (I' := ki_27) (L' := kl_0) (R' := kr_17) rfl ?_
  refine zv_run 2 (pc' := 29) (lo' := [some (.ref 14), some (.int 1)]) (st' := []) (I' := ki_27) (L' := kl_0) (R' := kr_17) rfl ?_
  refine zv_run 4 (pc' := 35) (lo' := [some (.ref 14), some (.int 1)]) (st' := [.int 6, .int 1]) (I' := ki_27) (L' := kl_0) (R' := kr_17) rfl ?_
  refine zv_icmp_ge (tgt := 58) (zs_at rfl) (by decide) (fun c => absurd c (by decide)) (fun c => ?_)
  refine zv_run 3 (pc' := 43) (lo' := [some (.ref 14), some (.int 1)]) (st' := [.int 1, .ref 17]) (I' := ki_27) (L' := kl_0) (R' := kr_17) rfl ?_
  refine zn_new (n := 19) (S' := kS 20) (N := 14) (zs_at rfl) zw_5_18 rfl rfl (fun _ => ⟨rfl, rfl, rfl⟩) ⟨Nat.le_of_ble_eq_true rfl, Nat.le_of_ble_eq_true rfl⟩ ?_
  refine zv_run 2 (pc' := 48) (lo' := [some (.ref 14), some (.int 1)]) (st' := [.int 1, .ref 19, .ref 19, .int 1, .ref 17]) (I' := ki_27) (L' := kl_0) (R' := kr_17) rfl ?_
  refine zn_cI (M' := mm_X2_init) (mc' := 0) (ms' := 0) (a := 19) (av := [.int 1]) (st := [.ref 19, .int 1, .ref 17]) (zs_at rfl) zc_5_24 gd_X2_init rfl rfl kc_11_X2_init ⟨Nat.le_of_ble_eq_true rfl, Nat.le_of_ble_eq_true rfl⟩ (Nat.le_of_ble_eq_true rfl) ?_
  refine zv_aast (kd := 103) (n := 6) (j := 19) (zs_at rfl) rfl (Or.inl ⟨rfl, rfl⟩) rfl (show vp_in (nI 1) 6 from vp_in_nI (by decide) (by decide)) ?_
  refine zv_run 0 (pc' := 52) (lo' := [some (.ref 14), some (.int 1)]) (st' := []) (I' := ki_28) (L' := kl_0) (R' := kr_18) rfl ?_
  refine zv_run 2 (pc' := 29) (lo' := [some (.ref 14), some (.int 2)]) (st' := []) (I' := ki_28) (L' := kl_0) (R' := kr_18) rfl ?_
  refine zv_run 4 (pc' := 35) (lo' := [some (.ref 14), some (.int 2)]) (st' := [.int 6, .int 2]) (I' := ki_28) (L' := kl_0) (R' := kr_18) rfl ?_
  refine zv_icmp_ge (tgt := 58) (zs_at rfl) (by decide) (fun c => absurd c (by decide)) (fun c => ?_)
  refine zv_run 3 (pc' := 43) (lo' := [some (.ref 14), some (.int 2)]) (st' := [.int 2, .ref 17]) (I' := ki_28) (L' := kl_0) (R' := kr_18) rfl ?_
  refine zn_new (n := 20) (S' := kS 21) (N := 14) (zs_at rfl) zw_5_18 rfl rfl (fun _ => ⟨rfl, rfl, rfl⟩) ⟨Nat.le_of_ble_eq_true rfl, Nat.le_of_ble_eq_true rfl⟩ ?_
  refine zv_run 2 (pc' := 48) (lo' := [some (.ref 14), some (.int 2)]) (st' := [.int 2, .ref 20, .ref 20, .int 2, .ref 17]) (I' := ki_28) (L' := kl_0) (R' := kr_18) rfl ?_
  refine zn_cI (M' := mm_X2_init) (mc' := 0) (ms' := 0) (a := 20) (av := [.int 2]) (st := [.ref 20, .int 2, .ref 17]) (zs_at rfl) zc_5_24 gd_X2_init rfl rfl kc_12_X2_init ⟨Nat.le_of_ble_eq_true rfl, Nat.le_of_ble_eq_true rfl⟩ (Nat.le_of_ble_eq_true rfl) ?_
  refine zv_aast (kd := 103) (n := 6) (j := 20) (zs_at rfl) rfl (Or.inl ⟨rfl, rfl⟩) rfl (show vp_in (nI 2) 6 from vp_in_nI (by decide) (by decide)) ?_
  refine zv_run 0 (pc' := 52) (lo' := [some (.ref 14), some (.int 2)]) (st' := []) (I' := ki_29) (L' := kl_0) (R' := kr_19) rfl ?_
  refine zv_run 2 (pc' := 29) (lo' := [some (.ref 14), some (.int 3)]) (st' := []) (I' := ki_29) (L' := kl_0) (R' := kr_19) rfl ?_
  refine zv_run 4 (pc' := 35) (lo' := [some (.ref 14), some (.int 3)]) (st' := [.int 6, .int 3]) (I' := ki_29) (L' := kl_0) (R' := kr_19) rfl ?_
  refine zv_icmp_ge (tgt := 58) (zs_at rfl) (by decide) (fun c => absurd c (by decide)) (fun c => ?_)
  refine zv_run 3 (pc' := 43) (lo' := [some (.ref 14), some (.int 3)]) (st' := [.int 3, .ref 17]) (I' := ki_29) (L' := kl_0) (R' := kr_19) rfl ?_
  refine zn_new (n := 21) (S' := kS 22) (N := 14) (zs_at rfl) zw_5_18 rfl rfl (fun _ => ⟨rfl, rfl, rfl⟩) ⟨Nat.le_of_ble_eq_true rfl, Nat.le_of_ble_eq_true rfl⟩ ?_
  refine zv_run 2 (pc' := 48) (lo' := [some (.ref 14), some (.int 3)]) (st' := [.int 3, .ref 21, .ref 21, .int 3, .ref 17]) (I' := ki_29) (L' := kl_0) (R' := kr_19) rfl ?_
  refine zn_cI (M' := mm_X2_init) (mc' := 0) (ms' := 0) (a := 21) (av := [.int 3]) (st := [.ref 21, .int 3, .ref 17]) (zs_at rfl) zc_5_24 gd_X2_init rfl rfl kc_13_X2_init ⟨Nat.le_of_ble_eq_true rfl, Nat.le_of_ble_eq_true rfl⟩ (Nat.le_of_ble_eq_true rfl) ?_
  refine zv_aast (kd := 103) (n := 6) (j := 21) (zs_at rfl) rfl (Or.inl ⟨rfl, rfl⟩) rfl (show vp_in (nI 3) 6 from vp_in_nI (by decide) (by decide)) ?_
  refine zv_run 0 (pc' := 52) (lo' := [some (.ref 14), some (.int 3)]) (st' := []) (I' := ki_30) (L' := kl_0) (R' := kr_20) rfl ?_
  refine zv_run 2 (pc' := 29) (lo' := [some (.ref 14), some (.int 4)]) (st' := []) (I' := ki_30) (L' := kl_0) (R' := kr_20) rfl ?_
  refine zv_run 4 (pc' := 35) (lo' := [some (.ref 14), some (.int 4)]) (st' := [.int 6, .int 4]) (I' := ki_30) (L' := kl_0) (R' := kr_20) rfl ?_
  refine zv_icmp_ge (tgt := 58) (zs_at rfl) (by decide) (fun c => absurd c (by decide)) (fun c => ?_)
  refine zv_run 3 (pc' := 43) (lo' := [some (.ref 14), some (.int 4)]) (st' := [.int 4, .ref 17]) (I' := ki_30) (L' := kl_0) (R' := kr_20) rfl ?_
  refine zn_new (n := 22) (S' := kS 23) (N := 14) (zs_at rfl) zw_5_18 rfl rfl (fun _ => ⟨rfl, rfl, rfl⟩) ⟨Nat.le_of_ble_eq_true rfl, Nat.le_of_ble_eq_true rfl⟩ ?_
  refine zv_run 2 (pc' := 48) (lo' := [some (.ref 14), some (.int 4)]) (st' := [.int 4, .ref 22, .ref 22, .int 4, .ref 17]) (I' := ki_30) (L' := kl_0) (R' := kr_20) rfl ?_
  refine zn_cI (M' := mm_X2_init) (mc' := 0) (ms' := 0) (a := 22) (av := [.int 4]) (st := [.ref 22, .int 4, .ref 17]) (zs_at rfl) zc_5_24 gd_X2_init rfl rfl kc_14_X2_init ⟨Nat.le_of_ble_eq_true rfl, Nat.le_of_ble_eq_true rfl⟩ (Nat.le_of_ble_eq_true rfl) ?_
  refine zv_aast (kd := 103) (n := 6) (j := 22) (zs_at rfl) rfl (Or.inl ⟨rfl, rfl⟩) rfl (show vp_in (nI 4) 6 from vp_in_nI (by decide) (by decide)) ?_
  refine zv_run 0 (pc' := 52) (lo' := [some (.ref 14), some (.int 4)]) (st' := []) (I' := ki_31) (L' := kl_0) (R' := kr_21) rfl ?_
  refine zv_run 2 (pc' := 29) (lo' := [some (.ref 14), some (.int 5)]) (st' := []) (I' := ki_31) (L' := kl_0) (R' := kr_21) rfl ?_
  refine zv_run 4 (pc' := 35) (lo' := [some (.ref 14), some (.int 5)]) (st' := [.int 6, .int 5]) (I' := ki_31) (L' := kl_0) (R' := kr_21) rfl ?_
  refine zv_icmp_ge (tgt := 58) (zs_at rfl) (by decide) (fun c => absurd c (by decide)) (fun c => ?_)
  refine zv_run 3 (pc' := 43) (lo' := [some (.ref 14), some (.int 5)]) (st' := [.int 5, .ref 17]) (I' := ki_31) (L' := kl_0) (R' := kr_21) rfl ?_
  refine zn_new (n := 23) (S' := kS 24) (N := 14) (zs_at rfl) zw_5_18 rfl rfl (fun _ => ⟨rfl, rfl, rfl⟩) ⟨Nat.le_of_ble_eq_true rfl, Nat.le_of_ble_eq_true rfl⟩ ?_
  refine zv_run 2 (pc' := 48) (lo' := [some (.ref 14), some (.int 5)]) (st' := [.int 5, .ref 23, .ref 23, .int 5, .ref 17]) (I' := ki_31) (L' := kl_0) (R' := kr_21) rfl ?_
  refine zn_cI (M' := mm_X2_init) (mc' := 0) (ms' := 0) (a := 23) (av := [.int 5]) (st := [.ref 23, .int 5, .ref 17]) (zs_at rfl) zc_5_24 gd_X2_init rfl rfl kc_15_X2_init ⟨Nat.le_of_ble_eq_true rfl, Nat.le_of_ble_eq_true rfl⟩ (Nat.le_of_ble_eq_true rfl) ?_
  refine zv_aast (kd := 103) (n := 6) (j := 23) (zs_at rfl) rfl (Or.inl ⟨rfl, rfl⟩) rfl (show vp_in (nI 5) 6 from vp_in_nI (by decide) (by decide)) ?_
  refine zv_run 0 (pc' := 52) (lo' := [some (.ref 14), some (.int 5)]) (st' := []) (I' := ki_32) (L' := kl_0) (R' := kr_22) rfl ?_
  refine zv_run 2 (pc' := 29) (lo' := [some (.ref 14), some (.int 6)]) (st' := []) (I' := ki_32) (L' := kl_0) (R' := kr_22) rfl ?_
  refine zv_run 4 (pc' := 35) (lo' := [some (.ref 14), some (.int 6)]) (st' := [.int 6, .int 6]) (I' := ki_32) (L' := kl_0) (R' := kr_22) rfl ?_
  refine zv_icmp_ge (tgt := 58) (zs_at rfl) (by decide) (fun c => ?_) (fun c => absurd (by decide) c)
  refine zv_run 1 (pc' := 59) (lo' := [some (.ref 14), some (.int 6)]) (st' := [.ref 14]) (I' := ki_32) (L' := kl_0) (R' := kr_22) rfl ?_
  refine zn_cV (M' := mm_X5_clear) (a := 14) (st := []) (zs_at rfl) zc_5_27 gd_X5_clear rfl rfl kc_16_X5_clear ⟨Nat.le_of_ble_eq_true rfl, Nat.le_of_ble_eq_true rfl⟩ (Nat.le_of_ble_eq_true rfl) ?_
  exact zv_vret (zs_at rfl) rfl ⟨Nat.le_of_ble_eq_true rfl, Nat.le_of_ble_eq_true rfl⟩ ⟨rfl, rfl, rfl, rfl, rfl⟩
theorem kc_18_X8_clear {d : Nat} : zx_M0 mm_X8_clear (d + 0) 0 0 [.ref 24] (kS 27) ki_52 kl_0 kr_25 (zw_ret none (kS 27) ki_65 kl_1 kr_25) := by
  refine zv_entry gd_X8_clear (Nat.le_of_ble_eq_true rfl) ?_
  refine zv_run 6 (pc' := 8) (lo' := [some (.ref 24), some (.int 0)]) (st' := [.int 6, .int 0]) (I' := ki_52) (L' := kl_0) (R' := kr_25) rfl ?_
  refine zv_icmp_ge (tgt := 24) (zs_at rfl) (by decide) (fun c => absurd c (by decide)) (fun c => ?_)
  refine zv_run 7 (pc' := 2) (lo' := [some (.ref 24), some (.int 1)]) (st' := []) (I' := ki_53) (L' := kl_0) (R' := kr_25) rfl ?_
  refine zv_run 4 (pc' := 8) (lo' := [some (.ref 24), some (.int 1)]) (st' := [.int 6, .int 1]) (I' := ki_53) (L' := kl_0) (R' := kr_25) rfl ?_
  refine zv_icmp_ge (tgt := 24) (zs_at rfl) (by decide) (fun c => absurd c (by decide)) (fun c => ?_)
  refine zv_run 7 (pc' := 2) (lo' := [some (.ref 24), some (.int 2)]) (st' := []) (I' := ki_54) (L' := kl_0) (R' := kr_25) rfl ?_
  refine zv_run 4 (pc' := 8) (lo' := [some (.ref 24), some (.int 2)]) (st' := [.int 6, .int 2]) (I' := ki_54) (L' := kl_0) (R' := kr_25) rfl ?_
  refine zv_icmp_ge (tgt := 24) (zs_at rfl) (by decide) (fun c => absurd c (by decide)) (fun c => ?_)
  refine zv_run 7 (pc' := 2) (lo' := [some (.ref 24), some (.int 3)]) (st' := []) (I' := ki_55) (L' := kl_0) (R' := kr_25) rfl ?_
  refine zv_run 4 (pc' := 8) (lo' := [some (.ref 24), some (.int 3)]) (st' := [.int 6, .int 3]) (I' := ki_55) (L' := kl_0) (R' := kr_25) rfl ?_
  refine zv_icmp_ge (tgt := 24) (zs_at rfl) (by decide) (fun c => absurd c (by decide)) (fun c => ?_)
  refine zv_run 7 (pc' := 2) (lo' := [some (.ref 24), some (.int 4)]) (st' := []) (I' := ki_56) (L' := kl_0) (R' := kr_25) rfl ?_
  refine zv_run 4 (pc' := 8) (lo' := [some (.ref 24), some (.int 4)]) (st' := [.int 6, .int 4]) (I' := ki_56) (L' := kl_0) (R' := kr_25) rfl ?_
  refine zv_icmp_ge (tgt := 24) (zs_at rfl) (by decide) (fun c => absurd c (by decide)) (fun c => ?_)
  refine zv_run 7 (pc' := 2) (lo' := [some (.ref 24), some (.int 5)]) (st' := []) (I' := ki_57) (L' := kl_0) (R' := kr_25) rfl ?_
  refine zv_run 4 (pc' := 8) (lo' := [some (.ref 24), some (.int 5)]) (st' := [.int 6, .int 5]) (I' := ki_57) (L' := kl_0) (R' := kr_25) rfl ?_
  refine zv_icmp_ge (tgt := 24) (zs_at rfl) (by decide) (fun c => absurd c (by decide)) (fun c => ?_)
  refine zv_run 7 (pc' := 2) (lo' := [some (.ref 24), some (.int 6)]) (st' := []) (I' := ki_58) (L' := kl_0) (R' := kr_25) rfl ?_
  refine zv_run 4 (pc' := 8) (lo' := [some (.ref 24), some (.int 6)]) (st' := [.int 6, .int 6]) (I' := ki_58) (L' := kl_0) (R' := kr_25) rfl ?_
  refine zv_icmp_ge (tgt := 24) (zs_at rfl) (by decide) (fun c => ?_) (fun c => absurd (by decide) c)
  refine zv_run 12 (pc' := 43) (lo' := [some (.ref 24), some (.int 0)]) (st' := [.int 6, .int 0]) (I' := ki_59) (L' := kl_1) (R' := kr_25) rfl ?_
  refine zv_icmp_ge (tgt := 68) (zs_at rfl) (by decide) (fun c => absurd c (by decide)) (fun c => ?_)
  refine zv_run 4 (pc' := 52) (lo' := [some (.ref 24), some (.int 0)]) (st' := [.int 0, .int 0, .ref 26]) (I' := ki_59) (L' := kl_1) (R' := kr_25) rfl ?_
  refine zv_if_ne (tgt := 60) (zs_at rfl) (by decide) (fun c => absurd rfl c) (fun c => ?_)
  refine zv_run 2 (pc' := 61) (lo' := [some (.ref 24), some (.int 0)]) (st' := [.int 10, .int 0, .ref 26]) (I' := ki_59) (L' := kl_1) (R' := kr_25) rfl ?_
  refine zv_run 3 (pc' := 37) (lo' := [some (.ref 24), some (.int 1)]) (st' := []) (I' := ki_60) (L' := kl_1) (R' := kr_25) rfl ?_
  refine zv_run 4 (pc' := 43) (lo' := [some (.ref 24), some (.int 1)]) (st' := [.int 6, .int 1]) (I' := ki_60) (L' := kl_1) (R' := kr_25) rfl ?_
  refine zv_icmp_ge (tgt := 68) (zs_at rfl) (by decide) (fun c => absurd c (by decide)) (fun c => ?_)
  refine zv_run 4 (pc' := 52) (lo' := [some (.ref 24), some (.int 1)]) (st' := [.int 1, .int 1, .ref 26]) (I' := ki_60) (L' := kl_1) (R' := kr_25) rfl ?_
  refine zv_if_ne (tgt := 60) (zs_at rfl) (by decide) (fun c => ?_) (fun c => absurd c (by decide))
  refine zv_run 4 (pc' := 37) (lo' := [some (.ref 24), some (.int 2)]) (st' := []) (I' := ki_61) (L' := kl_1) (R' := kr_25) rfl ?_
  refine zv_run 4 (pc' := 43) (lo' := [some (.ref 24), some (.int 2)]) (st' := [.int 6, .int 2]) (I' := ki_61) (L' := kl_1) (R' := kr_25) rfl ?_
  refine zv_icmp_ge (tgt := 68) (zs_at rfl) (by decide) (fun c => absurd c (by decide)) (fun c => ?_)
  refine zv_run 4 (pc' := 52) (lo' := [some (.ref 24), some (.int 2)]) (st' := [.int 2, .int 2, .ref 26]) (I' := ki_61) (L' := kl_1) (R' := kr_25) rfl ?_
  refine zv_if_ne (tgt := 60) (zs_at rfl) (by decide) (fun c => ?_) (fun c => absurd c (by decide))
  refine zv_run 4 (pc' := 37) (lo' := [some (.ref 24), some (.int 3)]) (st' := []) (I' := ki_62) (L' := kl_1) (R' := kr_25) rfl ?_
  refine zv_run 4 (pc' := 43) (lo' := [some (.ref 24), some (.int 3)]) (st' := [.int 6, .int 3]) (I' := ki_62) (L' := kl_1) (R' := kr_25) rfl ?_
  refine zv_icmp_ge (tgt := 68) (zs_at rfl) (by decide) (fun c => absurd c (by decide)) (fun c => ?_)
  refine zv_run 4 (pc' := 52) (lo' := [some (.ref 24), some (.int 3)]) (st' := [.int 3, .int 3, .ref 26]) (I' := ki_62) (L' := kl_1) (R' := kr_25) rfl ?_
  refine zv_if_ne (tgt := 60) (zs_at rfl) (by decide) (fun c => ?_) (fun c => absurd c (by decide))
  refine zv_run 4 (pc' := 37) (lo' := [some (.ref 24), some (.int 4)]) (st' := []) (I' := ki_63) (L' := kl_1) (R' := kr_25) rfl ?_
  refine zv_run 4 (pc' := 43) (lo' := [some (.ref 24), some (.int 4)]) (st' := [.int 6, .int 4]) (I' := ki_63) (L' := kl_1) (R' := kr_25) rfl ?_
  refine zv_icmp_ge (tgt := 68) (zs_at rfl) (by decide) (fun c => absurd c (by decide)) (fun c => ?_)
  refine zv_run 4 (pc' := 52) (lo' := [some (.ref 24), some (.int 4)]) (st' := [.int 4, .int 4, .ref 26]) (I' := ki_63) (L' := kl_1) (R' := kr_25) rfl ?_
  refine zv_if_ne (tgt := 60) (zs_at rfl) (by decide) (fun c => ?_) (fun c => absurd c (by decide))
  refine zv_run 4 (pc' := 37) (lo' := [some (.ref 24), some (.int 5)]) (st' := []) (I' := ki_64) (L' := kl_1) (R' := kr_25) rfl ?_
  refine zv_run 4 (pc' := 43) (lo' := [some (.ref 24), some (.int 5)]) (st' := [.int 6, .int 5]) (I' := ki_64) (L' := kl_1) (R' := kr_25) rfl ?_
  refine zv_icmp_ge (tgt := 68) (zs_at rfl) (by decide) (fun c => absurd c (by decide)) (fun c => ?_)
  refine zv_run 4 (pc' := 52) (lo' := [some (.ref 24), some (.int 5)]) (st' := [.int 5, .int 5, .ref 26]) (I' := ki_64) (L' := kl_1) (R' := kr_25) rfl ?_
  refine zv_if_ne (tgt := 60) (zs_at rfl) (by decide) (fun c => ?_) (fun c => absurd c (by decide))
  refine zv_run 4 (pc' := 37) (lo' := [some (.ref 24), some (.int 6)]) (st' := []) (I' := ki_65) (L' := kl_1) (R' := kr_25) rfl ?_
  refine zv_run 4 (pc' := 43) (lo' := [some (.ref 24), some (.int 6)]) (st' := [.int 6, .int 6]) (I' := ki_65) (L' := kl_1) (R' := kr_25) rfl ?_
  refine zv_icmp_ge (tgt := 68) (zs_at rfl) (by decide) (fun c => ?_) (fun c => absurd (by decide) c)
  exact zv_vret (zs_at rfl) rfl ⟨Nat.le_of_ble_eq_true rfl, Nat.le_of_ble_eq_true rfl⟩ ⟨rfl, rfl, rfl, rfl, rfl⟩
theorem kc_19_X8_init {d : Nat} : zx_M0 mm_X8_init (d + 1) 2 12 [.ref 24] (kS 25) ki_52 kl_0 kr_23 (zw_ret none (kS 27) ki_65 kl_1 kr_25) := by
  refine zv_entry gd_X8_init (Nat.le_of_ble_eq_true rfl) ?_
  refine zv_run 1 (pc' := 1) (lo' := [some (.ref 24)]) (st' := [.ref 24]) (I' := ki_52) (L' := kl_0) (R' := kr_23) rfl ?_
  refine zv_objInit (zs_at rfl) zm_8_3 (Nat.le_of_ble_eq_true rfl) ?_ zq_oi1 zq_oi2
  refine zv_run 2 (pc' := 7) (lo' := [some (.ref 24)]) (st' := [.int 6, .ref 24]) (I' := ki_52) (L' := kl_0) (R' := kr_23) rfl ?_
  refine zn_newarr (n := 25) (S' := kS 26) (kd := 100) (N := 6) (ty := .int) (zs_at rfl) rfl zq_int (Or.inl ⟨rfl, rfl, rfl⟩) rfl rfl (fun _ => ⟨rfl, rfl, rfl⟩) (by decide) (by decide) (Nat.le_of_ble_eq_true rfl) ⟨Nat.le_of_ble_eq_true rfl, Nat.le_of_ble_eq_true rfl⟩ ?_
  refine zv_run 3 (pc' := 15) (lo' := [some (.ref 24)]) (st' := [.int 6, .ref 24]) (I' := ki_52) (L' := kl_0) (R' := kr_24) rfl ?_
  refine zn_newarr (n := 26) (S' := kS 27) (kd := 100) (N := 6) (ty := .int) (zs_at rfl) rfl zq_int (Or.inl ⟨rfl, rfl, rfl⟩) rfl rfl (fun _ => ⟨rfl, rfl, rfl⟩) (by decide) (by decide) (Nat.le_of_ble_eq_true rfl) ⟨Nat.le_of_ble_eq_true rfl, Nat.le_of_ble_eq_true rfl⟩ ?_
  refine zv_run 2 (pc' := 21) (lo' := [some (.ref 24)]) (st' := [.ref 24]) (I' := ki_52) (L' := kl_0) (R' := kr_25) rfl ?_
  refine zn_cV (M' := mm_X8_clear) (a := 24) (st := []) (zs_at rfl) zc_8_18 gd_X8_clear rfl rfl kc_18_X8_clear ⟨Nat.le_of_ble_eq_true rfl, Nat.le_of_ble_eq_true rfl⟩ (Nat.le_of_ble_eq_true rfl) ?_
  exact zv_vret (zs_at rfl) rfl ⟨Nat.le_of_ble_eq_true rfl, Nat.le_of_ble_eq_true rfl⟩ ⟨rfl, rfl, rfl, rfl, rfl⟩
theorem kc_20_X8_clear {d : Nat} : zx_M0 mm_X8_clear (d + 0) 0 0 [.ref 28] (kS 31) ki_65 kl_1 kr_28 (zw_ret none (kS 31) ki_78 kl_2 kr_28) := by
  refine zv_entry gd_X8_clear (Nat.le_of_ble_eq_true rfl) ?_
  refine zv_run 6 (pc' := 8) (lo' := [some (.ref 28), some (.int 0)]) (st' := [.int 6, .int 0]) (I' := ki_65) (L' := kl_1) (R' := kr_28) rfl ?_
  refine zv_icmp_ge (tgt := 24) (zs_at rfl) (by decide) (fun c => absurd c (by decide)) (fun c => ?_)
  refine zv_run 7 (pc' := 2) (lo' := [some (.ref 28), some (.int 1)]) (st' := []) (I' := ki_66) (L' := kl_1) (R' := kr_28) rfl ?_
  refine zv_run 4 (pc' := 8) (lo' := [some (.ref 28), some (.int 1)]) (st' := [.int 6, .int 1]) (I' := ki_66) (L' := kl_1) (R' := kr_28) rfl ?_
  refine zv_icmp_ge (tgt := 24) (zs_at rfl) (by decide) (fun c => absurd c (by decide)) (fun c => ?_)
  refine zv_run 7 (pc' := 2) (lo' := [some (.ref 28), some (.int 2)]) (st' := []) (I' := ki_67) (L' := kl_1) (R' := kr_28) rfl ?_
  refine zv_run 4 (pc' := 8) (lo' := [some (.ref 28), some (.int 2)]) (st' := [.int 6, .int 2]) (I' := ki_67) (L' := kl_1) (R' := kr_28) rfl ?_
  refine zv_icmp_ge (tgt := 24) (zs_at rfl) (by decide) (fun c => absurd c (by decide)) (fun c => ?_)
  refine zv_run 7 (pc' := 2) (lo' := [some (.ref 28), some (.int 3)]) (st' := []) (I' := ki_68) (L' := kl_1) (R' := kr_28) rfl ?_
  refine zv_run 4 (pc' := 8) (lo' := [some (.ref 28), some (.int 3)]) (st' := [.int 6, .int 3]) (I' := ki_68) (L' := kl_1) (R' := kr_28) rfl ?_
  refine zv_icmp_ge (tgt := 24) (zs_at rfl) (by decide) (fun c => absurd c (by decide)) (fun c => ?_)
  refine zv_run 7 (pc' := 2) (lo' := [some (.ref 28), some (.int 4)]) (st' := []) (I' := ki_69) (L' := kl_1) (R' := kr_28) rfl ?_
  refine zv_run 4 (pc' := 8) (lo' := [some (.ref 28), some (.int 4)]) (st' := [.int 6, .int 4]) (I' := ki_69) (L' := kl_1) (R' := kr_28) rfl ?_
  refine zv_icmp_ge (tgt := 24) (zs_at rfl) (by decide) (fun c => absurd c (by decide)) (fun c => ?_)
  refine zv_run 7 (pc' := 2) (lo' := [some (.ref 28), some (.int 5)]) (st' := []) (I' := ki_70) (L' := kl_1) (R' := kr_28) rfl ?_
  refine zv_run 4 (pc' := 8) (lo' := [some (.ref 28), some (.int 5)]) (st' := [.int 6, .int 5]) (I' := ki_70) (L' := kl_1) (R' := kr_28) rfl ?_
  refine zv_icmp_ge (tgt := 24) (zs_at rfl) (by decide) (fun c => absurd c (by decide)) (fun c => ?_)
  refine zv_run 7 (pc' := 2) (lo' := [some (.ref 28), some (.int 6)]) (st' := []) (I' := ki_71) (L' := kl_1) (R' := kr_28) rfl ?_
  refine zv_run 4 (pc' := 8) (lo' := [some (.ref 28), some (.int 6)]) (st' := [.int 6, .int 6]) (I' := ki_71) (L' := kl_1) (R' := kr_28) rfl ?_
  refine zv_icmp_ge (tgt := 24) (zs_at rfl) (by decide) (fun c => ?_) (fun c => absurd (by decide) c)
  refine zv_run 12 (pc' := 43) (lo' := [some (.ref 28), some (.int 0)]) (st' := [.int 6, .int 0]) (I' := ki_72) (L' := kl_2) (R' := kr_28) rfl ?_
  refine zv_icmp_ge (tgt := 68) (zs_at rfl) (by decide) (fun c => absurd c (by decide)) (fun c => ?_)
  refine zv_run 4 (pc' := 52) (lo' := [some (.ref 28), some (.int 0)]) (st' := [.int 0, .int 0, .ref 30]) (I' := ki_72) (L' := kl_2) (R' := kr_28) rfl ?_
  refine zv_if_ne (tgt := 60) (zs_at rfl) (by decide) (fun c => absurd rfl c) (fun c => ?_)
  refine zv_run 2 (pc' := 61) (lo' := [some (.ref 28), some (.int 0)]) (st' := [.int 10, .int 0, .ref 30]) (I' := ki_72) (L' := kl_2) (R' := kr_28) rfl ?_
  refine zv_run 3 (pc' := 37) (lo' := [some (.ref 28), some (.int 1)]) (st' := []) (I' := ki_73) (L' := kl_2) (R' := kr_28) rfl ?_
  refine zv_run 4 (pc' := 43) (lo' := [some (.ref 28), some (.int 1)]) (st' := [.int 6, .int 1]) (I' := ki_73) (L' := kl_2) (R' := kr_28) rfl ?_
  refine zv_icmp_ge (tgt := 68) (zs_at rfl) (by decide) (fun c => absurd c (by decide)) (fun c => ?_)
  refine zv_run 4 (pc' := 52) (lo' := [some (.ref 28), some (.int 1)]) (st' := [.int 1, .int 1, .ref 30]) (I' := ki_73) (L' := kl_2) (R' := kr_28) rfl ?_
  refine zv_if_ne (tgt := 60) (zs_at rfl) (by decide) (fun c => ?_) (fun c => absurd c (by decide))
  refine zv_run 4 (pc' := 37) (lo' := [some (.ref 28), some (.int 2)]) (st' := []) (I' := ki_74) (L' := kl_2) (R' := kr_28) rfl ?_
  refine zv_run 4 (pc' := 43) (lo' := [some (.ref 28), some (.int 2)]) (st' := [.int 6, .int 2]) (I' := ki_74) (L' := kl_2) (R' := kr_28) rfl ?_
  refine zv_icmp_ge (tgt := 68) (zs_at rfl) (by decide) (fun c => absurd c (by decide)) (fun c => ?_)
  refine zv_run 4 (pc' := 52) (lo' := [some (.ref 28), some (.int 2)]) (st' := [.int 2, .int 2, .ref 30]) (I' := ki_74) (L' := kl_2) (R' := kr_28) rfl ?_
  refine zv_if_ne (tgt := 60) (zs_at rfl) (by decide) (fun c => ?_) (fun c => absurd c (by decide))
  refine zv_run 4 (pc' := 37) (lo' := [some (.ref 28), some (.int 3)]) (st' := []) (I' := ki_75) (L' := kl_2) (R' := kr_28) rfl ?_
  refine zv_run 4 (pc' := 43) (lo' := [some (.ref 28), some (.int 3)]) (st' := [.int 6, .int 3]) (I' := ki_75) (L' := kl_2) (R' := kr_28) rfl ?_
  refine zv_icmp_ge (tgt := 68) (zs_at rfl) (by decide) (fun c => absurd c (by decide)) (fun c => ?_)
  refine zv_run 4 (pc' := 52) (lo' := [some (.ref 28), some (.int 3)]) (st' := [.int 3, .int 3, .ref 30]) (I' := ki_75) (L' := kl_2) (R' := kr_28) rfl ?_
  refine zv_if_ne (tgt := 60) (zs_at rfl) (by decide) (fun c => ?_) (fun c => absurd c (by decide))
  refine zv_run 4 (pc' := 37) (lo' := [some (.ref 28), some (.int 4)]) (st' := []) (I' := ki_76) (L' := kl_2) (R' := kr_28) rfl ?_
  refine zv_run 4 (pc' := 43) (lo' := [some (.ref 28), some (.int 4)]) (st' := [.int 6, .int 4]) (I' := ki_76) (L' := kl_2) (R' := kr_28) rfl ?_
  refine zv_icmp_ge (tgt := 68) (zs_at rfl) (by decide) (fun c => absurd c (by decide)) (fun c => ?_)
  refine zv_run 4 (pc' := 52) (lo' := [some (.ref 28), some (.int 4)]) (st' := [.int 4, .int 4, .ref 30]) (I' := ki_76) (L' := kl_2) (R' := kr_28) rfl ?_
  refine zv_if_ne (tgt := 60) (zs_at rfl) (by decide) (fun c => ?_) (fun c => absurd c (by decide))
  refine zv_run 4 (pc' := 37) (lo' := [some (.ref 28), some (.int 5)]) (st' := []) (I' := ki_77) (L' := kl_2) (R' := kr_28) rfl ?_
  refine zv_run 4 (pc' := 43) (lo' := [some (.ref 28), some (.int 5)]) (st' := [.int 6, .int 5]) (I' := ki_77) (L' := kl_2) (R' := kr_28) rfl ?_
  refine zv_icmp_ge (tgt := 68) (zs_at rfl) (by decide) (fun c => absurd c (by decide)) (fun c => ?_)
  refine zv_run 4 (pc' := 52) (lo' := [some (.ref 28), some (.int 5)]) (st' := [.int 5, .int 5, .ref 30]) (I' := ki_77) (L' := kl_2) (R' := kr_28) rfl ?_
  refine zv_if_ne (tgt := 60) (zs_at rfl) (by decide) (fun c => ?_) (fun c => absurd c (by decide))
  refine zv_run 4 (pc' := 37) (lo' := [some (.ref 28), some (.int 6)]) (st' := []) (I' := ki_78) (L' := kl_2) (R' := kr_28) rfl ?_
  refine zv_run 4 (pc' := 43) (lo' := [some (.ref 28), some (.int 6)]) (st' := [.int 6, .int 6]) (I' := ki_78) (L' := kl_2) (R' := kr_28) rfl ?_
  refine zv_icmp_ge (tgt := 68) (zs_at rfl) (by decide) (fun c => ?_) (fun c => absurd (by decide) c)
  exact zv_vret (zs_at rfl) rfl ⟨Nat.le_of_ble_eq_true rfl, Nat.le_of_ble_eq_true rfl⟩ ⟨rfl, rfl, rfl, rfl, rfl⟩
theorem kc_21_X8_init {d : Nat} : zx_M0 mm_X8_init (d + 1) 2 12 [.ref 28] (kS 29) ki_65 kl_1 kr_26 (zw_ret none (kS 31) ki_78 kl_2 kr_28) := by
  refine zv_entry gd_X8_init (Nat.le_of_ble_eq_true rfl) ?_
  refine zv_run 1 (pc' := 1) (lo' := [some (.ref 28)]) (st' := [.ref 28]) (I' := ki_65) (L' := kl_1) (R' := kr_26) rfl ?_
  refine zv_objInit (zs_at rfl) zm_8_3 (Nat.le_of_ble_eq_true rfl) ?_ zq_oi1 zq_oi2
  refine zv_run 2 (pc' := 7) (lo' := [some (.ref 28)]) (st' := [.int 6, .ref 28]) (I' := ki_65) (L' := kl_1) (R' := kr_26) rfl ?_
  refine zn_newarr (n := 29) (S' := kS 30) (kd := 100) (N := 6) (ty := .int) (zs_at rfl) rfl zq_int (Or.inl ⟨rfl, rfl, rfl⟩) rfl rfl (fun _ => ⟨rfl, rfl, rfl⟩) (by decide) (by decide) (Nat.le_of_ble_eq_true rfl) ⟨Nat.le_of_ble_eq_true rfl, Nat.le_of_ble_eq_true rfl⟩ ?_
  refine zv_run 3 (pc' := 15) (lo' := [some (.ref 28)]) (st' := [.int 6, .ref 28]) (I' := ki_65) (L' := kl_1) (R' := kr_27) rfl ?_
  refine zn_newarr (n := 30) (S' := kS 31) (kd := 100) (N := 6) (ty := .int) (zs_at rfl) rfl zq_int (Or.inl ⟨rfl, rfl, rfl⟩) rfl rfl (fun _ => ⟨rfl, rfl, rfl⟩) (by decide) (by decide) (Nat.le_of_ble_eq_true rfl) ⟨Nat.le_of_ble_eq_true rfl, Nat.le_of_ble_eq_true rfl⟩ ?_
  refine zv_run 2 (pc' := 21) (lo' := [some (.ref 28)]) (st' := [.ref 28]) (I' := ki_65) (L' := kl_1) (R' := kr_28) rfl ?_
  refine zn_cV (M' := mm_X8_clear) (a := 28) (st := []) (zs_at rfl) zc_8_18 gd_X8_clear rfl rfl kc_20_X8_clear ⟨Nat.le_of_ble_eq_true rfl, Nat.le_of_ble_eq_true rfl⟩ (Nat.le_of_ble_eq_true rfl) ?_
  exact zv_vret (zs_at rfl) rfl ⟨Nat.le_of_ble_eq_true rfl, Nat.le_of_ble_eq_true rfl⟩ ⟨rfl, rfl, rfl, rfl, rfl⟩
theorem kc_22_X8_clear {d : Nat} : zx_M0 mm_X8_clear (d + 0) 0 0 [.ref 31] (kS 34) ki_78 kl_2 kr_31 (zw_ret none (kS 34) ki_91 kl_3 kr_31) := by
  refine zv_entry gd_X8_clear (Nat.le_of_ble_eq_true rfl) ?_
  refine zv_run 6 (pc' := 8) (lo' := [some (.ref 31), some (.int 0)]) (st' := [.int 6, .int 0]) (I' := ki_78) (L' := kl_2) (R' := kr_31) rfl ?_
  refine zv_icmp_ge (tgt := 24) (zs_at rfl) (by decide) (fun c => absurd c (by decide)) (fun c => ?_)
  refine zv_run 7 (pc' := 2) (lo' := [some (.ref 31), some (.int 1)]) (st' := []) (I' := ki_79) (L' := kl_2) (R' := kr_31) rfl ?_
  refine zv_run 4 (pc' := 8) (lo' := [some (.ref 31), some (.int 1)]) (st' := [.int 6, .int 1]) (I' := ki_79) (L' := kl_2) (R' := kr_31) rfl ?_
  refine zv_icmp_ge (tgt := 24) (zs_at rfl) (by decide) (fun c => absurd c (by decide)) (fun c => ?_)
  refine zv_run 7 (pc' := 2) (lo' := [some (.ref 31), some (.int 2)]) (st' := []) (I' := ki_80) (L' := kl_2) (R' := kr_31) rfl ?_
  refine zv_run 4 (pc' := 8) (lo' := [some (.ref 31), some (.int 2)]) (st' := [.int 6, .int 2]) (I' := ki_80) (L' := kl_2) (R' := kr_31) rfl ?_
  refine zv_icmp_ge (tgt := 24) (zs_at rfl) (by decide) (fun c => absurd c (by decide)) (fun c => ?_)
  refine zv_run 7 (pc' := 2) (lo' := [some (.ref 31), some (.int 3)]) (st' := []) (I' := ki_81) (L' := kl_2) (R' := kr_31) rfl ?_
  refine zv_run 4 (pc' := 8) (lo' := [some (.ref 31), some (.int 3)]) (st' := [.int 6, .int 3]) (I' := ki_81) (L' := kl_2) (R' := kr_31) rfl ?_
  refine zv_icmp_ge (tgt := 24) (zs_at rfl) (by decide) (fun c => absurd c (by decide)) (fun c => ?_)
  refine zv_run 7 (pc' := 2) (lo' := [some (.ref 31), some (.int 4)]) (st' := []) (I' := ki_82) (L' := kl_2) (R' := kr_31) rfl ?_
  refine zv_run 4 (pc' := 8) (lo' := [some (.ref 31), some (.int 4)]) (st' := [.int 6, .int 4]) (I' := ki_82) (L' := kl_2) (R' := kr_31) rfl ?_
  refine zv_icmp_ge (tgt := 24) (zs_at rfl) (by decide) (fun c => absurd c (by decide)) (fun c => ?_)
  refine zv_run 7 (pc' := 2) (lo' := [some (.ref 31), some (.int 5)]) (st' := []) (I' := ki_83) (L' := kl_2) (R' := kr_31) rfl ?_
  refine zv_run 4 (pc' := 8) (lo' := [some (.ref 31), some (.int 5)]) (st' := [.int 6, .int 5]) (I' := ki_83) (L' := kl_2) (R' := kr_31) rfl ?_
  refine zv_icmp_ge (tgt := 24) (zs_at rfl) (by decide) (fun c => absurd c (by decide)) (fun c => ?_)
  refine zv_run 7 (pc' := 2) (lo' := [some (.ref 31), some (.int 6)]) (st' := []) (I' := ki_84) (L' := kl_2) (R' := kr_31) rfl ?_
  refine zv_run 4 (pc' := 8) (lo' := [some (.ref 31), some (.int 6)]) (st' := [.int 6, .int 6]) (I' := ki_84) (L' := kl_2) (R' := kr_31) rfl ?_
  refine zv_icmp_ge (tgt := 24) (zs_at rfl) (by decide) (fun c => ?_) (fun c => absurd (by decide) c)
  refine zv_run 12 (pc' := 43) (lo' := [some (.ref 31), some (.int 0)]) (st' := [.int 6, .int 0]) (I' := ki_85) (L' := kl_3) (R' := kr_31) rfl ?_
  refine zv_icmp_ge (tgt := 68) (zs_at rfl) (by decide) (fun c => absurd c (by decide)) (fun c => ?_)
  refine zv_run 4 (pc' := 52) (lo' := [some (.ref 31), some (.int 0)]) (st' := [.int 0, .int 0, .ref 33]) (I' := ki_85) (L' := kl_3) (R' := kr_31) rfl ?_
  refine zv_if_ne (tgt := 60) (zs_at rfl) (by decide) (fun c => absurd rfl c) (fun c => ?_)
  refine zv_run 2 (pc' := 61) (lo' := [some (.ref 31), some (.int 0)]) (st' := [.int 10, .int 0, .ref 33]) (I' := ki_85) (L' := kl_3) (R' := kr_31) rfl ?_
  refine zv_run 3 (pc' := 37) (lo' := [some (.ref 31), some (.int 1)]) (st' := []) (I' := ki_86) (L' := kl_3) (R' := kr_31) rfl ?_
  refine zv_run 4 (pc' := 43) (lo' := [some (.ref 31), some (.int 1)]) (st' := [.int 6, .int 1]) (I' := ki_86) (L' := kl_3) (R' := kr_31) rfl ?_
  refine zv_icmp_ge (tgt := 68) (zs_at rfl) (by decide) (fun c => absurd c (by decide)) (fun c => ?_)
  refine zv_run 4 (pc' := 52) (lo' := [some (.ref 31), some (.int 1)]) (st' := [.int 1, .int 1, .ref 33]) (I' := ki_86) (L' := kl_3) (R' := kr_31) rfl ?_
  refine zv_if_ne (tgt := 60) (zs_at rfl) (by decide) (fun c => ?_) (fun c => absurd c (by decide))
  refine zv_run 4 (pc' := 37) (lo' := [some (.ref 31), some (.int 2)]) (st' := []) (I' := ki_87) (L' := kl_3) (R' := kr_31) rfl ?_
  refine zv_run 4 (pc' := 43) (lo' := [some (.ref 31), some (.int 2)]) (st' := [.int 6, .int 2]) (I' := ki_87) (L' := kl_3) (R' := kr_31) rfl ?_
  refine zv_icmp_ge (tgt := 68) (zs_at rfl) (by decide) (fun c => absurd c (by decide)) (fun c => ?_)
  refine zv_run 4 (pc' := 52) (lo' := [some (.ref 31), some (.int 2)]) (st' := [.int 2, .int 2, .ref 33]) (I' := ki_87) (L' := kl_3) (R' := kr_31) rfl ?_
  refine zv_if_ne (tgt := 60) (zs_at rfl) (by decide) (fun c => ?_) (fun c => absurd c (by decide))
  refine zv_run 4 (pc' := 37) (lo' := [some (.ref 31), some (.int 3)]) (st' := []) (I' := ki_88) (L' := kl_3) (R' := kr_31) rfl ?_
  refine zv_run 4 (pc' := 43) (lo' := [some (.ref 31), some (.int 3)]) (st' := [.int 6, .int 3]) (I' := ki_88) (L' := kl_3) (R' := kr_31) rfl ?_
  refine zv_icmp_ge (tgt := 68) (zs_at rfl) (by decide) (fun c => absurd c (by decide)) (fun c => ?_)
  refine zv_run 4 (pc' := 52) (lo' := [some (.ref 31), some (.int 3)]) (st' := [.int 3, .int 3, .ref 33]) (I' := ki_88) (L' := kl_3) (R' := kr_31) rfl ?_
  refine zv_if_ne (tgt := 60) (zs_at rfl) (by decide) (fun c => ?_) (fun c => absurd c (by decide))
  refine zv_run 4 (pc' := 37) (lo' := [some (.ref 31), some (.int 4)]) (st' := []) (I' := ki_89) (L' := kl_3) (R' := kr_31) rfl ?_
  refine zv_run 4 (pc' := 43) (lo' := [some (.ref 31), some (.int 4)]) (st' := [.int 6, .int 4]) (I' := ki_89) (L' := kl_3) (R' := kr_31) rfl ?_
  refine zv_icmp_ge (tgt := 68) (zs_at rfl) (by decide) (fun c => absurd c (by decide)) (fun c => ?_)
  refine zv_run 4 (pc' := 52) (lo' := [some (.ref 31), some (.int 4)]) (st' := [.int 4, .int 4, .ref 33]) (I' := ki_89) (L' := kl_3) (R' := kr_31) rfl ?_
  refine zv_if_ne (tgt := 60) (zs_at rfl) (by decide) (fun c => ?_) (fun c => absurd c (by decide))
  refine zv_run 4 (pc' := 37) (lo' := [some (.ref 31), some (.int 5)]) (st' := []) (I' := ki_90) (L' := kl_3) (R' := kr_31) rfl ?_
  refine zv_run 4 (pc' := 43) (lo' := [some (.ref 31), some (.int 5)]) (st' := [.int 6, .int 5]) (I' := ki_90) (L' := kl_3) (R' := kr_31) rfl ?_
  refine zv_icmp_ge (tgt := 68) (zs_at rfl) (by decide) (fun c => absurd c (by decide)) (fun c => ?_)
  refine zv_run 4 (pc' := 52) (lo' := [some (.ref 31), some (.int 5)]) (st' := [.int 5, .int 5, .ref 33]) (I' := ki_90) (L' := kl_3) (R' := kr_31) rfl ?_
  refine zv_if_ne (tgt := 60) (zs_at rfl) (by decide) (fun c => ?_) (fun c => absurd c (by decide))
  refine zv_run 4 (pc' := 37) (lo' := [some (.ref 31), some (.int 6)]) (st' := []) (I' := ki_91) (L' := kl_3) (R' := kr_31) rfl ?_
  refine zv_run 4 (pc' := 43) (lo' := [some (.ref 31), some (.int 6)]) (st' := [.int 6, .int 6]) (I' := ki_91) (L' := kl_3) (R' := kr_31) rfl ?_
  refine zv_icmp_ge (tgt := 68) (zs_at rfl) (by decide) (fun c => ?_) (fun c => absurd (by decide) c)
  exact zv_vret (zs_at rfl) rfl ⟨Nat.le_of_ble_eq_true rfl, Nat.le_of_ble_eq_true rfl⟩ ⟨rfl, rfl, rfl, rfl, rfl⟩
theorem kc_23_X8_init {d : Nat} : zx_M0 mm_X8_init (d + 1) 2 12 [.ref 31] (kS 32) ki_78 kl_2 kr_29 (zw_ret none (kS 34) ki_91 kl_3 kr_31) := by
  refine zv_entry gd_X8_init (Nat.le_of_ble_eq_true rfl) ?_
  refine zv_run 1 (pc' := 1) (lo' := [some (.ref 31)]) (st' := [.ref 31]) (I' := ki_78) (L' := kl_2) (R' := kr_29) rfl ?_
  refine zv_objInit (zs_at rfl) zm_8_3 (Nat.le_of_ble_eq_true rfl) ?_ zq_oi1 zq_oi2
  refine zv_run 2 (pc' := 7) (lo' := [some (.ref 31)]) (st' := [.int 6, .ref 31]) (I' := ki_78) (L' := kl_2) (R' := kr_29) rfl ?_
  refine zn_newarr (n := 32) (S' := kS 33) (kd := 100) (N := 6) (ty := .int) (zs_at rfl) rfl zq_int (Or.inl ⟨rfl, rfl, rfl⟩) rfl rfl (fun _ => ⟨rfl, rfl, rfl⟩) (by decide) (by decide) (Nat.le_of_ble_eq_true rfl) ⟨Nat.le_of_ble_eq_true rfl, Nat.le_of_ble_eq_true rfl⟩ ?_
  refine zv_run 3 (pc' := 15) (lo' := [some (.ref 31)]) (st' := [.int 6, .ref 31]) (I' := ki_78) (L' := kl_2) (R' := kr_30) rfl ?_
  refine zn_newarr (n := 33) (S' := kS 34) (kd := 100) (N := 6) (ty := .int) (zs_at rfl) rfl zq_int (Or.inl ⟨rfl, rfl, rfl⟩) rfl rfl (fun _ => ⟨rfl, rfl, rfl⟩) (by decide) (by decide) (Nat.le_of_ble_eq_true rfl) ⟨Nat.le_of_ble_eq_true rfl, Nat.le_of_ble_eq_true rfl⟩ ?_
  refine zv_run 2 (pc' := 21) (lo' := [some (.ref 31)]) (st' := [.ref 31]) (I' := ki_78) (L' := kl_2) (R' := kr_31) rfl ?_
  refine zn_cV (M' := mm_X8_clear) (a := 31) (st := []) (zs_at rfl) zc_8_18 gd_X8_clear rfl rfl kc_22_X8_clear ⟨Nat.le_of_ble_eq_true rfl, Nat.le_of_ble_eq_true rfl⟩ (Nat.le_of_ble_eq_true rfl) ?_
  exact zv_vret (zs_at rfl) rfl ⟨Nat.le_of_ble_eq_true rfl, Nat.le_of_ble_eq_true rfl⟩ ⟨rfl, rfl, rfl, rfl, rfl⟩
theorem kc_24_X0_init {d : Nat} : zx_M0 mm_X0_init (d + 1) 1 6 [.ref 34] (kS 35) ki_91 kl_3 kr_33 (zw_ret none (kS 36) ki_91 kl_3 kr_34) := by
  refine zv_entry gd_X0_init (Nat.le_of_ble_eq_true rfl) ?_
  refine zv_run 1 (pc' := 1) (lo' := [some (.ref 34)]) (st' := [.ref 34]) (I' := ki_91) (L' := kl_3) (R' := kr_33) rfl ?_
  refine zv_objInit (zs_at rfl) zm_0_3 (Nat.le_of_ble_eq_true rfl) ?_ zq_oi1 zq_oi2
  refine zv_run 2 (pc' := 7) (lo' := [some (.ref 34)]) (st' := [.int 6, .ref 34]) (I' := ki_91) (L' := kl_3) (R' := kr_33) rfl ?_
  refine zn_newarr (n := 35) (S' := kS 36) (kd := 100) (N := 6) (ty := .int) (zs_at rfl) rfl zq_int (Or.inl ⟨rfl, rfl, rfl⟩) rfl rfl (fun _ => ⟨rfl, rfl, rfl⟩) (by decide) (by decide) (Nat.le_of_ble_eq_true rfl) ⟨Nat.le_of_ble_eq_true rfl, Nat.le_of_ble_eq_true rfl⟩ ?_
  refine zv_run 1 (pc' := 12) (lo' := [some (.ref 34)]) (st' := []) (I' := ki_91) (L' := kl_3) (R' := kr_34) rfl ?_
  exact zv_vret (zs_at rfl) rfl ⟨Nat.le_of_ble_eq_true rfl, Nat.le_of_ble_eq_true rfl⟩ ⟨rfl, rfl, rfl, rfl, rfl⟩
theorem kc_25_X7_init {d : Nat} : zx_M0 mm_X7_init (d + 1) 1 6 [.ref 37] (kS 38) ki_91 kl_3 kr_35 (zw_ret none (kS 39) ki_92 kl_3 kr_36) := by
  refine zv_entry gd_X7_init (Nat.le_of_ble_eq_true rfl) ?_
  refine zv_run 1 (pc' := 1) (lo' := [some (.ref 37)]) (st' := [.ref 37]) (I' := ki_91) (L' := kl_3) (R' := kr_35) rfl ?_
  refine zv_objInit (zs_at rfl) zm_7_3 (Nat.le_of_ble_eq_true rfl) ?_ zq_oi1 zq_oi2
  refine zv_run 2 (pc' := 7) (lo' := [some (.ref 37)]) (st' := [.int 6, .ref 37]) (I' := ki_91) (L' := kl_3) (R' := kr_35) rfl ?_
  refine zn_newarr (n := 38) (S' := kS 39) (kd := 100) (N := 6) (ty := .int) (zs_at rfl) rfl zq_int (Or.inl ⟨rfl, rfl, rfl⟩) rfl rfl (fun _ => ⟨rfl, rfl, rfl⟩) (by decide) (by decide) (Nat.le_of_ble_eq_true rfl) ⟨Nat.le_of_ble_eq_true rfl, Nat.le_of_ble_eq_true rfl⟩ ?_
  refine zv_run 4 (pc' := 17) (lo' := [some (.ref 37)]) (st' := []) (I' := ki_92) (L' := kl_3) (R' := kr_36) rfl ?_
  exact zv_vret (zs_at rfl) rfl ⟨Nat.le_of_ble_eq_true rfl, Nat.le_of_ble_eq_true rfl⟩ ⟨rfl, rfl, rfl, rfl, rfl⟩
theorem kc_26_X4_init {d : Nat} : zx_M0 mm_X4_init (d + 1) 0 0 [.ref 39] (kS 40) ki_92 kl_3 kr_37 (zw_ret none (kS 40) ki_92 kl_3 kr_37) := by
  refine zv_entry gd_X4_init (Nat.le_of_ble_eq_true rfl) ?_
  refine zv_run 1 (pc' := 1) (lo' := [some (.ref 39)]) (st' := [.ref 39]) (I' := ki_92) (L' := kl_3) (R' := kr_37) rfl ?_
  refine zv_objInit (zs_at rfl) zm_4_3 (Nat.le_of_ble_eq_true rfl) ?_ zq_oi1 zq_oi2
  exact zv_vret (zs_at rfl) rfl ⟨Nat.le_of_ble_eq_true rfl, Nat.le_of_ble_eq_true rfl⟩ ⟨rfl, rfl, rfl, rfl, rfl⟩
theorem kc_27_X1_init {d : Nat} : zx_M0 mm_X1_init (d + 1) 0 0 [.ref 40] (kS 41) ki_92 kl_3 kr_38 (zw_ret none (kS 41) ki_92 kl_3 kr_38) := by
  refine zv_entry gd_X1_init (Nat.le_of_ble_eq_true rfl) ?_
  refine zv_run 1 (pc' := 1) (lo' := [some (.ref 40)]) (st' := [.ref 40]) (I' := ki_92) (L' := kl_3) (R' := kr_38) rfl ?_
  refine zv_objInit (zs_at rfl) zm_1_3 (Nat.le_of_ble_eq_true rfl) ?_ zq_oi1 zq_oi2
  exact zv_vret (zs_at rfl) rfl ⟨Nat.le_of_ble_eq_true rfl, Nat.le_of_ble_eq_true rfl⟩ ⟨rfl, rfl, rfl, rfl, rfl⟩
theorem kc_28_X3_init {d : Nat} : zx_M0 mm_X3_init (d + 2) 4 17 [.ref 36] (kS 37) ki_91 kl_3 kr_35 (zw_ret none (kS 41) ki_92 kl_3 kr_39) := by
  refine zv_entry gd_X3_init (Nat.le_of_ble_eq_true rfl) ?_
  refine zv_run 1 (pc' := 1) (lo' := [some (.ref 36)]) (st' := [.ref 36]) (I' := ki_91) (L' := kl_3) (R' := kr_35) rfl ?_
  refine zv_objInit (zs_at rfl) zm_3_3 (Nat.le_of_ble_eq_true rfl) ?_ zq_oi1 zq_oi2
  refine zv_run 1 (pc' := 5) (lo' := [some (.ref 36)]) (st' := [.ref 36]) (I' := ki_91) (L' := kl_3) (R' := kr_35) rfl ?_
  refine zn_new (n := 37) (S' := kS 38) (N := 4) (zs_at rfl) zw_3_9 rfl rfl (fun _ => ⟨rfl, rfl, rfl⟩) ⟨Nat.le_of_ble_eq_true rfl, Nat.le_of_ble_eq_true rfl⟩ ?_
  refine zv_run 1 (pc' := 9) (lo' := [some (.ref 36)]) (st' := [.ref 37, .ref 37, .ref 36]) (I' := ki_91) (L' := kl_3) (R' := kr_35) rfl ?_
  refine zn_cI (M' := mm_X7_init) (mc' := 1) (ms' := 6) (a := 37) (av := []) (st := [.ref 37, .ref 36]) (zs_at rfl) zc_3_11 gd_X7_init rfl rfl kc_25_X7_init ⟨Nat.le_of_ble_eq_true rfl, Nat.le_of_ble_eq_true rfl⟩ (Nat.le_of_ble_eq_true rfl) ?_
  refine zv_run 2 (pc' := 16) (lo' := [some (.ref 36)]) (st' := [.ref 36]) (I' := ki_92) (L' := kl_3) (R' := kr_37) rfl ?_
  refine zn_new (n := 39) (S' := kS 40) (N := 3) (zs_at rfl) zw_3_18 rfl rfl (fun _ => ⟨rfl, rfl, rfl⟩) ⟨Nat.le_of_ble_eq_true rfl, Nat.le_of_ble_eq_true rfl⟩ ?_
  refine zv_run 1 (pc' := 20) (lo' := [some (.ref 36)]) (st' := [.ref 39, .ref 39, .ref 36]) (I' := ki_92) (L' := kl_3) (R' := kr_37) rfl ?_
  refine zn_cI (M' := mm_X4_init) (mc' := 0) (ms' := 0) (a := 39) (av := []) (st := [.ref 39, .ref 36]) (zs_at rfl) zc_3_20 gd_X4_init rfl rfl kc_26_X4_init ⟨Nat.le_of_ble_eq_true rfl, Nat.le_of_ble_eq_true rfl⟩ (Nat.le_of_ble_eq_true rfl) ?_
  refine zv_run 2 (pc' := 27) (lo' := [some (.ref 36)]) (st' := [.ref 36]) (I' := ki_92) (L' := kl_3) (R' := kr_38) rfl ?_
  refine zn_new (n := 40) (S' := kS 41) (N := 4) (zs_at rfl) zw_3_25 rfl rfl (fun _ => ⟨rfl, rfl, rfl⟩) ⟨Nat.le_of_ble_eq_true rfl, Nat.le_of_ble_eq_true rfl⟩ ?_
  refine zv_run 1 (pc' := 31) (lo' := [some (.ref 36)]) (st' := [.ref 40, .ref 40, .ref 36]) (I' := ki_92) (L' := kl_3) (R' := kr_38) rfl ?_
  refine zn_cI (M' := mm_X1_init) (mc' := 0) (ms' := 0) (a := 40) (av := []) (st := [.ref 40, .ref 36]) (zs_at rfl) zc_3_27 gd_X1_init rfl rfl kc_27_X1_init ⟨Nat.le_of_ble_eq_true rfl, Nat.le_of_ble_eq_true rfl⟩ (Nat.le_of_ble_eq_true rfl) ?_
  refine zv_run 1 (pc' := 37) (lo' := [some (.ref 36)]) (st' := []) (I' := ki_92) (L' := kl_3) (R' := kr_39) rfl ?_
  exact zv_vret (zs_at rfl) rfl ⟨Nat.le_of_ble_eq_true rfl, Nat.le_of_ble_eq_true rfl⟩ ⟨rfl, rfl, rfl, rfl, rfl⟩
theorem kc_29_X9_init {d : Nat} : zx_M0 mm_X9_init (d + 3) 41 730 [.ref 0] (kS 1) ki_0 kl_0 kr_0 (zw_ret none (kS 42) ki_92 kl_3 kr_41) := by
  refine zv_entry gd_X9_init (Nat.le_of_ble_eq_true rfl) ?_
  refine zv_run 1 (pc' := 1) (lo' := [some (.ref 0)]) (st' := [.ref 0]) (I' := ki_0) (L' := kl_0) (R' := kr_0) rfl ?_
  refine zv_objInit (zs_at rfl) zm_9_1 (Nat.le_of_ble_eq_true rfl) ?_ zq_oi1 zq_oi2
  refine zv_run 2 (pc' := 8) (lo' := [some (.ref 0)]) (st' := [.int 400, .ref 0]) (I' := ki_0) (L' := kl_0) (R' := kr_0) rfl ?_
  refine zn_newarr (n := 1) (S' := kS 2) (kd := 101) (N := 400) (ty := .byte) (zs_at rfl) rfl zq_byte (Or.inr (Or.inl ⟨rfl, rfl, rfl⟩)) rfl rfl (fun _ => ⟨rfl, rfl, rfl⟩) (by decide) (by decide) (Nat.le_of_ble_eq_true rfl) ⟨Nat.le_of_ble_eq_true rfl, Nat.le_of_ble_eq_true rfl⟩ ?_
  refine zv_run 2 (pc' := 14) (lo' := [some (.ref 0)]) (st' := [.ref 0]) (I' := ki_0) (L' := kl_0) (R' := kr_1) rfl ?_
  refine zn_new (n := 2) (S' := kS 3) (N := 3) (zs_at rfl) zw_9_13 rfl rfl (fun _ => ⟨rfl, rfl, rfl⟩) ⟨Nat.le_of_ble_eq_true rfl, Nat.le_of_ble_eq_true rfl⟩ ?_
  refine zv_run 1 (pc' := 18) (lo' := [some (.ref 0)]) (st' := [.ref 2, .ref 2, .ref 0]) (I' := ki_0) (L' := kl_0) (R' := kr_1) rfl ?_
  refine zn_cI (M' := mm_X6_init) (mc' := 1) (ms' := 6) (a := 2) (av := []) (st := [.ref 2, .ref 0]) (zs_at rfl) zc_9_15 gd_X6_init rfl rfl kc_1_X6_init ⟨Nat.le_of_ble_eq_true rfl, Nat.le_of_ble_eq_true rfl⟩ (Nat.le_of_ble_eq_true rfl) ?_
  refine zv_run 2 (pc' := 25) (lo' := [some (.ref 0)]) (st' := [.ref 0]) (I' := ki_0) (L' := kl_0) (R' := kr_3) rfl ?_
  refine zn_new (n := 4) (S' := kS 5) (N := 15) (zs_at rfl) zw_9_20 rfl rfl (fun _ => ⟨rfl, rfl, rfl⟩) ⟨Nat.le_of_ble_eq_true rfl, Nat.le_of_ble_eq_true rfl⟩ ?_
  refine zv_run 1 (pc' := 29) (lo' := [some (.ref 0)]) (st' := [.ref 4, .ref 4, .ref 0]) (I' := ki_0) (L' := kl_0) (R' := kr_3) rfl ?_
  refine zn_cI (M' := mm_X5_init) (mc' := 9) (ms' := 98) (a := 4) (av := []) (st := [.ref 4, .ref 0]) (zs_at rfl) zc_9_22 gd_X5_init rfl rfl kc_9_X5_init ⟨Nat.le_of_ble_eq_true rfl, Nat.le_of_ble_eq_true rfl⟩ (Nat.le_of_ble_eq_true rfl) ?_
  refine zv_run 2 (pc' := 36) (lo' := [some (.ref 0)]) (st' := [.ref 0]) (I' := ki_26) (L' := kl_0) (R' := kr_13) rfl ?_
  refine zn_new (n := 14) (S' := kS 15) (N := 15) (zs_at rfl) zw_9_20 rfl rfl (fun _ => ⟨rfl, rfl, rfl⟩) ⟨Nat.le_of_ble_eq_true rfl, Nat.le_of_ble_eq_true rfl⟩ ?_
  refine zv_run 1 (pc' := 40) (lo' := [some (.ref 0)]) (st' := [.ref 14, .ref 14, .ref 0]) (I' := ki_26) (L' := kl_0) (R' := kr_13) rfl ?_
  refine zn_cI (M' := mm_X5_init) (mc' := 9) (ms' := 98) (a := 14) (av := []) (st := [.ref 14, .ref 0]) (zs_at rfl) zc_9_22 gd_X5_init rfl rfl kc_17_X5_init ⟨Nat.le_of_ble_eq_true rfl, Nat.le_of_ble_eq_true rfl⟩ (Nat.le_of_ble_eq_true rfl) ?_
  refine zv_run 2 (pc' := 47) (lo' := [some (.ref 0)]) (st' := [.ref 0]) (I' := ki_52) (L' := kl_0) (R' := kr_23) rfl ?_
  refine zn_new (n := 24) (S' := kS 25) (N := 4) (zs_at rfl) zw_9_30 rfl rfl (fun _ => ⟨rfl, rfl, rfl⟩) ⟨Nat.le_of_ble_eq_true rfl, Nat.le_of_ble_eq_true rfl⟩ ?_
  refine zv_run 1 (pc' := 51) (lo' := [some (.ref 0)]) (st' := [.ref 24, .ref 24, .ref 0]) (I' := ki_52) (L' := kl_0) (R' := kr_23) rfl ?_
  refine zn_cI (M' := mm_X8_init) (mc' := 2) (ms' := 12) (a := 24) (av := []) (st := [.ref 24, .ref 0]) (zs_at rfl) zc_9_32 gd_X8_init rfl rfl kc_19_X8_init ⟨Nat.le_of_ble_eq_true rfl, Nat.le_of_ble_eq_true rfl⟩ (Nat.le_of_ble_eq_true rfl) ?_
  refine zv_run 3 (pc' := 59) (lo' := [some (.ref 0)]) (st' := [.int 2, .ref 0]) (I' := ki_65) (L' := kl_1) (R' := kr_26) rfl ?_
  refine zn_newq (n := 27) (S' := kS 28) (kd := 104) (N := 2) (zs_at rfl) zy_9_30 rfl rfl (fun _ => ⟨rfl, rfl, rfl⟩) (by decide) (by decide) (Nat.le_of_ble_eq_true rfl) ⟨Nat.le_of_ble_eq_true rfl, Nat.le_of_ble_eq_true rfl⟩ ?_
  refine zv_run 2 (pc' := 64) (lo' := [some (.ref 0)]) (st' := [.int 0, .ref 27, .ref 27, .ref 0]) (I' := ki_65) (L' := kl_1) (R' := kr_26) rfl ?_
  refine zn_new (n := 28) (S' := kS 29) (N := 4) (zs_at rfl) zw_9_30 rfl rfl (fun _ => ⟨rfl, rfl, rfl⟩) ⟨Nat.le_of_ble_eq_true rfl, Nat.le_of_ble_eq_true rfl⟩ ?_
  refine zv_run 1 (pc' := 68) (lo' := [some (.ref 0)]) (st' := [.ref 28, .ref 28, .int 0, .ref 27, .ref 27, .ref 0]) (I' := ki_65) (L' := kl_1) (R' := kr_26) rfl ?_
  refine zn_cI (M' := mm_X8_init) (mc' := 2) (ms' := 12) (a := 28) (av := []) (st := [.ref 28, .int 0, .ref 27, .ref 27, .ref 0]) (zs_at rfl) zc_9_32 gd_X8_init rfl rfl kc_21_X8_init ⟨Nat.le_of_ble_eq_true rfl, Nat.le_of_ble_eq_true rfl⟩ (Nat.le_of_ble_eq_true rfl) ?_
  refine zv_aast (kd := 104) (n := 2) (j := 28) (zs_at rfl) rfl (Or.inr ⟨rfl, rfl⟩) rfl (show vp_in (nI 0) 2 from vp_in_nI (by decide) (by decide)) ?_
  refine zv_run 0 (pc' := 72) (lo' := [some (.ref 0)]) (st' := [.ref 27, .ref 0]) (I' := ki_78) (L' := kl_2) (R' := kr_29) rfl ?_
  refine zv_run 2 (pc' := 74) (lo' := [some (.ref 0)]) (st' := [.int 1, .ref 27, .ref 27, .ref 0]) (I' := ki_78) (L' := kl_2) (R' := kr_29) rfl ?_
  refine zn_new (n := 31) (S' := kS 32) (N := 4) (zs_at rfl) zw_9_30 rfl rfl (fun _ => ⟨rfl, rfl, rfl⟩) ⟨Nat.le_of_ble_eq_true rfl, Nat.le_of_ble_eq_true rfl⟩ ?_
  refine zv_run 1 (pc' := 78) (lo' := [some (.ref 0)]) (st' := [.ref 31, .ref 31, .int 1, .ref 27, .ref 27, .ref 0]) (I' := ki_78) (L' := kl_2) (R' := kr_29) rfl ?_
  refine zn_cI (M' := mm_X8_init) (mc' := 2) (ms' := 12) (a := 31) (av := []) (st := [.ref 31, .int 1, .ref 27, .ref 27, .ref 0]) (zs_at rfl) zc_9_32 gd_X8_init rfl rfl kc_23_X8_init ⟨Nat.le_of_ble_eq_true rfl, Nat.le_of_ble_eq_true rfl⟩ (Nat.le_of_ble_eq_true rfl) ?_
  refine zv_aast (kd := 104) (n := 2) (j := 31) (zs_at rfl) rfl (Or.inr ⟨rfl, rfl⟩) rfl (show vp_in (nI 1) 2 from vp_in_nI (by decide) (by decide)) ?_
  refine zv_run 0 (pc' := 82) (lo' := [some (.ref 0)]) (st' := [.ref 27, .ref 0]) (I' := ki_91) (L' := kl_3) (R' := kr_32) rfl ?_
  refine zv_run 2 (pc' := 86) (lo' := [some (.ref 0)]) (st' := [.ref 0]) (I' := ki_91) (L' := kl_3) (R' := kr_33) rfl ?_
  refine zn_new (n := 34) (S' := kS 35) (N := 8) (zs_at rfl) zw_9_41 rfl rfl (fun _ => ⟨rfl, rfl, rfl⟩) ⟨Nat.le_of_ble_eq_true rfl, Nat.le_of_ble_eq_true rfl⟩ ?_
  refine zv_run 1 (pc' := 90) (lo' := [some (.ref 0)]) (st' := [.ref 34, .ref 34, .ref 0]) (I' := ki_91) (L' := kl_3) (R' := kr_33) rfl ?_
  refine zn_cI (M' := mm_X0_init) (mc' := 1) (ms' := 6) (a := 34) (av := []) (st := [.ref 34, .ref 0]) (zs_at rfl) zc_9_43 gd_X0_init rfl rfl kc_24_X0_init ⟨Nat.le_of_ble_eq_true rfl, Nat.le_of_ble_eq_true rfl⟩ (Nat.le_of_ble_eq_true rfl) ?_
  refine zv_run 2 (pc' := 97) (lo' := [some (.ref 0)]) (st' := [.ref 0]) (I' := ki_91) (L' := kl_3) (R' := kr_35) rfl ?_
  refine zn_new (n := 36) (S' := kS 37) (N := 8) (zs_at rfl) zw_9_48 rfl rfl (fun _ => ⟨rfl, rfl, rfl⟩) ⟨Nat.le_of_ble_eq_true rfl, Nat.le_of_ble_eq_true rfl⟩ ?_
  refine zv_run 1 (pc' := 101) (lo' := [some (.ref 0)]) (st' := [.ref 36, .ref 36, .ref 0]) (I' := ki_91) (L' := kl_3) (R' := kr_35) rfl ?_
  refine zn_cI (M' := mm_X3_init) (mc' := 4) (ms' := 17) (a := 36) (av := []) (st := [.ref 36, .ref 0]) (zs_at rfl) zc_9_50 gd_X3_init rfl rfl kc_28_X3_init ⟨Nat.le_of_ble_eq_true rfl, Nat.le_of_ble_eq_true rfl⟩ (Nat.le_of_ble_eq_true rfl) ?_
  refine zv_run 3 (pc' := 110) (lo' := [some (.ref 0)]) (st' := [.int 6, .ref 0]) (I' := ki_92) (L' := kl_3) (R' := kr_40) rfl ?_
  refine zn_newarr (n := 41) (S' := kS 42) (kd := 100) (N := 6) (ty := .int) (zs_at rfl) rfl zq_int (Or.inl ⟨rfl, rfl, rfl⟩) rfl rfl (fun _ => ⟨rfl, rfl, rfl⟩) (by decide) (by decide) (Nat.le_of_ble_eq_true rfl) ⟨Nat.le_of_ble_eq_true rfl, Nat.le_of_ble_eq_true rfl⟩ ?_
  refine zv_run 1 (pc' := 115) (lo' := [some (.ref 0)]) (st' := []) (I' := ki_92) (L' := kl_3) (R' := kr_41) rfl ?_
  exact zv_vret (zs_at rfl) rfl ⟨Nat.le_of_ble_eq_true rfl, Nat.le_of_ble_eq_true rfl⟩ ⟨rfl, rfl, rfl, rfl, rfl⟩
