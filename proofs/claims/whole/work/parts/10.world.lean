/-! the worlds of the class and of the model, and the calls that end in one state -/
def zw_SC : zx_S := [(9, 11), (101, 400), (6, 3), (100, 6), (5, 15), (100, 4), (100, 4), (103, 6), (2, 14), (2, 14), (2, 14), (2, 14), (2, 14), (2, 14), (5, 15), (100, 4), (100, 4), (103, 6), (2, 14), (2, 14), (2, 14), (2, 14), (2, 14), (2, 14), (8, 4), (100, 6), (100, 6), (104, 2), (8, 4), (100, 6), (100, 6), (8, 4), (100, 6), (100, 6), (0, 8), (100, 6), (3, 8), (7, 4), (100, 6), (4, 3), (1, 4), (100, 6)]
def zw_RT (h sp : Nat) (last : Option Nat) : List (List (Option Nat)) := [[some 1, none, some 2, some h, some sp, some 24, some 27, none, some 34, some 36, some 41], [], [some 3], [], [none, none, none, none, none, none, some 5, some 6, none, none, none, none, none, none, some 7], [], [], [some 8, some 9, some 10, some 11, some 12, some 13], [], [], [], [], [], [], [none, none, none, none, none, none, some 15, some 16, none, none, none, none, none, none, some 17], [], [], [some 18, some 19, some 20, some 21, some 22, some 23], [], [], [], [], [], [], [some 25, none, none, some 26], [], [], [some 28, some 31], [some 29, none, none, some 30], [], [], [some 32, none, none, some 33], [], [], [none, none, none, none, some 35], [], [some 37, some 39, some 40, none, last], [some 38]]
def zw_RC (h sp : Nat) (last : Option Nat) : zx_R := fun a k => ((zw_RT h sp last).getD a []).getD k none
def zw_SM : zx_S := [(10, 36), (100, 400), (100, 65), (100, 65), (100, 6), (100, 6), (100, 12), (100, 2), (102, 2), (100, 12), (100, 6), (100, 6), (100, 6), (100, 6), (100, 6), (100, 6), (100, 6), (100, 6), (100, 6), (100, 6)]
/-- ends in just this state -/
def zw_ret (r : Option Value) (S : zx_S) (I : zx_I) (L : zx_L) (R : zx_R) : zx_Qt := fun r' S' I' L' R' => r' = r ∧ S' = S ∧ I' = I ∧ L' = L ∧ R' = R
def z0 : zx_B := (0, 0, 0, 0)
theorem zw_here {r : Option Value} {S : zx_S} {I : zx_I} {L : zx_L} {R : zx_R} : zw_ret r S I L R r S I L R := ⟨rfl, rfl, rfl, rfl, rfl⟩
theorem zw_to {r r' : Option Value} {S : zx_S} {I I' : zx_I} {L L' : zx_L} {R R' : zx_R} (h1 : r = r') (h2 : I = I') (h3 : L = L') (h4 : R = R') : zw_ret r' S I' L' R' r S I L R := ⟨h1, rfl, h2, h3, h4⟩
section
variable {M : zx_M} {d : Nat} {b : zx_B} {Q : zx_Qt} {S : zx_S} {pc : Nat} {lo : List (Option Value)} {st : List Value} {I I' : zx_I} {L L' : zx_L} {R R' : zx_R}
theorem zv_cV {M' : zx_M} {idx np a ci n N : Nat} {T : u_T} {av : List Value} {r : Option Value} (hd : (zs_from M.2.2.2.2.2 pc).head? = some (pc, .invokevirtual idx, 3)) (hl : zcV M.2.2.2.2.1 idx M'.1 np) (hg' : zx_good M') (hs : S[a]? = some (ci, n)) (hcn : vwCl[ci]? = some (M'.1.cls, T, N)) (hnp : av.length = np)
    (hw : (st.map fun v => v.category).sum ≤ 8) (hc : zx_M0 M' d 0 0 (.ref a :: av) S I L R (zw_ret r S I' L' R')) (hb : b.1 ≤ b.2.2.1 ∧ b.2.1 ≤ b.2.2.2) (kk : zx_V M (d + 1) b Q S (pc + 3) lo (r.toList ++ st) I' L' R') : zx_V M (d + 1) b Q S pc lo (av.reverse ++ .ref a :: st) I L R :=
  zv_callV (zs_at hd) hl hg' hs hcn hnp hc hb hw (fun r1 S1 I1 L1 R1 hq => by obtain ⟨rfl, rfl, rfl, rfl, rfl⟩ := hq; exact kk)
theorem zv_cS {M' : zx_M} {idx np : Nat} {av : List Value} {r : Option Value} (hd : (zs_from M.2.2.2.2.2 pc).head? = some (pc, .invokestatic idx, 3)) (hl : zcS M.2.2.2.2.1 idx M'.1 np) (hg' : zx_good M') (hnp : av.length = np)
    (hw : (st.map fun v => v.category).sum ≤ 8) (hc : zx_M0 M' d 0 0 av S I L R (zw_ret r S I' L' R')) (hb : b.1 ≤ b.2.2.1 ∧ b.2.1 ≤ b.2.2.2) (kk : zx_V M (d + 1) b Q S (pc + 3) lo (r.toList ++ st) I' L' R') : zx_V M (d + 1) b Q S pc lo (av.reverse ++ st) I L R :=
  zv_callS (zs_at hd) hl hg' hnp hc hb hw (fun r1 S1 I1 L1 R1 hq => by obtain ⟨rfl, rfl, rfl, rfl, rfl⟩ := hq; exact kk)
end
/-- an index within, out of what is tested -/
theorem zin {x y : Int32} {n : Nat} (h0 : ¬ x < 0) (h1 : x < y) (hy : y.toInt ≤ n) : vp_in x n := by
  rw [Int32.lt_iff_toInt_lt] at h0 h1
  refine vp_in_iff.mpr ⟨?_, ?_⟩
  · have : (0 : Int32).toInt = 0 := rfl
    omega
  · omega
theorem zge {x y : Int32} (h : ¬ x ≥ y) : x < y := by
  rw [ge_iff_le, Int32.le_iff_toInt_le] at h
  rw [Int32.lt_iff_toInt_lt]
  omega
-- a first block
theorem z_try1 {d : Nat} {I : zx_I} {L : zx_L} {h sp : Nat} {la : Option Nat} : zx_M0 mm_X7_holds d 0 0 [.ref 37] zw_SC I L (zw_RC h sp la) (zw_ret (some (.int (I 37 1 * I 37 2))) zw_SC I L (zw_RC h sp la)) := by
  refine zv_entry gd_X7_holds (by decide) ?_
  refine zv_run 5 (pc' := 9) (lo' := [some (.ref 37)]) (st' := [.int (I 37 1 * I 37 2)]) (I' := I) (L' := L) (R' := zw_RC h sp la) rfl ?_
  exact zv_iret (zs_at rfl) rfl ⟨Nat.le_refl _, Nat.le_refl _⟩ zw_here
