/-! the law: its loop -/
section
variable {p : Program} {l : Launch} {e : Env} {s : State} {m : MethodId} {below : List Frame} {meth : Method} {c : Code} {b n : Nat} {xs : Nat → Int32} {Z : State → Prop} {ls : Array Slot} {a1 a2 i : Nat}
theorem lw_and31 (x : Int32) : ∃ k : Nat, k < 32 ∧ (x &&& 31).toInt = (k : Int) := by
  have h1 : (x &&& 31).toBitVec.toNat < 32 := by
    rw [Int32.toBitVec_and, BitVec.toNat_and]
    exact Nat.lt_of_le_of_lt Nat.and_le_right (by decide)
  refine ⟨(x &&& 31).toBitVec.toNat, h1, ?_⟩
  rw [← Int32.toInt_toBitVec, BitVec.toInt_eq_toNat_of_lt (by omega)]
theorem lw_sub5 {n i : Nat} (hn : n ≤ 320) (hi : i ≤ 400) : ¬ (Int32.ofNat n - 5 < nI i) ↔ i + 5 ≤ n := by
  have e1 : (Int32.ofNat n - 5).toInt = (n : Int) - 5 := pk_sub_toInt (a := n) (b := 5) (by omega) (by omega)
  rw [Int32.lt_iff_toInt_lt, e1, nI_toInt (by omega)]
  omega
/-- what the loop stands on -/
def LLp (p : Program) (l : Launch) (e : Env) (s : State) (m : MethodId) (below : List Frame) (meth : Method) (c : Code) (b n : Nat) (xs : Nat → Int32) (Z : State → Prop) (i : Nat) : Prop :=
  ∀ (D : va_G) (cA : Nat → ClassId) (ad1 ad2 : Nat → Nat) (H : Heap) (locs : List Loc) (h sp : Nat) (la : Option Nat) (I : zx_I) (L : zx_L) (J : zx_I) (M : zx_L) (ls : Array Slot), lv_has ls 4 (lwl b (ad1 0) (ad2 0) i) → LX D cA ad1 ad2 h sp la I L J M b n xs s H → va_S (fun q => s.heap.size ≤ q) s.heap H locs → WR h sp I L J M → W p l e room_1 s m #[Value.ref b] below meth c H locs 600000 7302250 Z (F0 m 18 ls [])
theorem law_round (C : LWC p s m c b n xs) (hr : meth.sig.returnType = ret) (hlocks : meth.locks = false) (hn : n ≤ 320) (hi : i ≤ 400) (next : i + 5 ≤ n → LLp p l e s m below meth c b n xs (lw_Z below #[Value.ref b] s) (i + 5)) : LLp p l e s m below meth c b n xs (lw_Z below #[Value.ref b] s) i := by
  intro D cA ad1 ad2 H locs h sp la I L J M ls hl X hS hW
  obtain ⟨hx, hb, hml, hown, hts, hX, hbl⟩ := id C
  refine lv_iload_n hx hb (dL1 rfl) rfl (lv_at hl 3 rfl) ?_
  refine lv_aload_n hx hb (dL1 rfl) rfl (lv_at hl 0 rfl) ?_
  refine va_slen hx hb hX hbl (A := fun q => s.heap.size ≤ q) (Nat.not_le.mpr hbl) hS (dL1 rfl) ?_
  refine lv_iconst (v := 5) hx hb (dL1 rfl) (by decide) ?_
  refine lv_isub hx hb (dL1 rfl) ?_
  refine lv_icmp_gt (tgt := 931) hx hb (dL1 rfl) (by decide) (fun q => ?_) (fun q => ?_)
  · refine lv_iconst (v := 1) hx hb (dL26 rfl) (by decide) ?_
    refine va_forget hS.2.2 ?_
    exact lw_ret hx hb hr hlocks (dL26 rfl)
  · have h5 : i + 5 ≤ n := (lw_sub5 hn hi).mp q
    have fin : LNx p l e s m below meth c b n xs (lw_Z below #[Value.ref b] s) ls D cA ad1 ad2 := by
      intro h' sp' la' I' L' J' M' ad1' ad2' H' locs' e1 e2 X' hS' hW'
      refine lv_iinc (v := nI (i + 5)) (lv' := [(3, .int (nI (i + 5))), (0, .ref b), (1, .ref (ad1 0)), (2, .ref (ad2 0))]) hx hb (dL26 rfl) hl (k := 3) rfl (nI_add i 5) (by decide) rfl (fun ls' hl' => ?_)
      refine lv_goto (tgt := 18) hx hb (dL26 rfl) (by decide) ?_
      refine next h5 D cA ad1' ad2' H' locs' h' sp' la' I' L' J' M' ls' ?_ X' hS' hW'
      rw [e1, e2]
      exact lv_sub hl' [1, 2, 3, 0] rfl
    have h9 : vp_in (nI i) n := vp_in_nI (by omega) (by omega)
    have e9 : (nI i).toNatClampNeg = i := nI_clamp (by omega)
    refine lv_aload_n hx hb (dL1 rfl) rfl (lv_at hl 0 rfl) ?_
    refine lv_iload_n hx hb (dL1 rfl) rfl (lv_at hl 3 rfl) ?_
    refine va_sld hx hb hX hbl (A := fun q => s.heap.size ≤ q) (Nat.not_le.mpr hbl) hS h9 (dL1 rfl) ?_
    refine lv_bipush (v := 31) hx hb (dL1 rfl) (by decide) ?_
    refine lv_iand hx hb (dL1 rfl) ?_
    obtain ⟨k, hk, ek⟩ := lw_and31 (xs (nI i).toNatClampNeg)
    refine lv_topi (fun y ey => ?_)
    rw [← ey] at ek
    clear ey
    by_cases h25 : k < 25
    · rcases (show k = 0 ∨ k = 1 ∨ k = 2 ∨ k = 3 ∨ k = 4 ∨ k = 5 ∨ k = 6 ∨ k = 7 ∨ k = 8 ∨ k = 9 ∨ k = 10 ∨ k = 11 ∨ k = 12 ∨ k = 13 ∨ k = 14 ∨ k = 15 ∨ k = 16 ∨ k = 17 ∨ k = 18 ∨ k = 19 ∨ k = 20 ∨ k = 21 ∨ k = 22 ∨ k = 23 ∨ k = 24 by omega) with rfl | rfl | rfl | rfl | rfl | rfl | rfl | rfl | rfl | rfl | rfl | rfl | rfl | rfl | rfl | rfl | rfl | rfl | rfl | rfl | rfl | rfl | rfl | rfl | rfl
      · exact lv_tableIn (off := 116) (tgt := 148) hx hb (dL1 rfl) (by omega) (by omega) (by rw [ek]; rfl) (by decide) (lk_148 C hn h5 D cA ad1 ad2 H locs h sp la I L J M hl X hS hW fin)
      · exact lv_tableIn (off := 179) (tgt := 211) hx hb (dL1 rfl) (by omega) (by omega) (by rw [ek]; rfl) (by decide) (lk_211 C hn h5 D cA ad1 ad2 H locs h sp la I L J M hl X hS hW fin)
      · exact lv_tableIn (off := 192) (tgt := 224) hx hb (dL1 rfl) (by omega) (by omega) (by rw [ek]; rfl) (by decide) (lk_224 C hn h5 D cA ad1 ad2 H locs h sp la I L J M hl X hS hW fin)
      · exact lv_tableIn (off := 205) (tgt := 237) hx hb (dL1 rfl) (by omega) (by omega) (by rw [ek]; rfl) (by decide) (lk_237 C hn h5 D cA ad1 ad2 H locs h sp la I L J M hl X hS hW fin)
      · exact lv_tableIn (off := 218) (tgt := 250) hx hb (dL1 rfl) (by omega) (by omega) (by rw [ek]; rfl) (by decide) (lk_250 C hn h5 D cA ad1 ad2 H locs h sp la I L J M hl X hS hW fin)
      · exact lv_tableIn (off := 251) (tgt := 283) hx hb (dL1 rfl) (by omega) (by omega) (by rw [ek]; rfl) (by decide) (lk_283 C hn h5 D cA ad1 ad2 H locs h sp la I L J M hl X hS hW fin)
      · exact lv_tableIn (off := 284) (tgt := 316) hx hb (dL1 rfl) (by omega) (by omega) (by rw [ek]; rfl) (by decide) (lk_316 C hn h5 D cA ad1 ad2 H locs h sp la I L J M hl X hS hW fin)
      · exact lv_tableIn (off := 343) (tgt := 375) hx hb (dL1 rfl) (by omega) (by omega) (by rw [ek]; rfl) (by decide) (lk_375 C hn h5 D cA ad1 ad2 H locs h sp la I L J M hl X hS hW fin)
      · exact lv_tableIn (off := 376) (tgt := 408) hx hb (dL1 rfl) (by omega) (by omega) (by rw [ek]; rfl) (by decide) (lk_408 C hn h5 D cA ad1 ad2 H locs h sp la I L J M hl X hS hW fin)
      · exact lv_tableIn (off := 399) (tgt := 431) hx hb (dL1 rfl) (by omega) (by omega) (by rw [ek]; rfl) (by decide) (lk_431 C hn h5 D cA ad1 ad2 H locs h sp la I L J M hl X hS hW fin)
      · exact lv_tableIn (off := 448) (tgt := 480) hx hb (dL1 rfl) (by omega) (by omega) (by rw [ek]; rfl) (by decide) (lk_480 C hn h5 D cA ad1 ad2 H locs h sp la I L J M hl X hS hW fin)
      · exact lv_tableIn (off := 491) (tgt := 523) hx hb (dL1 rfl) (by omega) (by omega) (by rw [ek]; rfl) (by decide) (lk_523 C hn h5 D cA ad1 ad2 H locs h sp la I L J M hl X hS hW fin)
      · exact lv_tableIn (off := 524) (tgt := 556) hx hb (dL1 rfl) (by omega) (by omega) (by rw [ek]; rfl) (by decide) (lk_556 C hn h5 D cA ad1 ad2 H locs h sp la I L J M hl X hS hW fin)
      · exact lv_tableIn (off := 557) (tgt := 589) hx hb (dL1 rfl) (by omega) (by omega) (by rw [ek]; rfl) (by decide) (lk_589 C hn h5 D cA ad1 ad2 H locs h sp la I L J M hl X hS hW fin)
      · exact lv_tableIn (off := 580) (tgt := 612) hx hb (dL1 rfl) (by omega) (by omega) (by rw [ek]; rfl) (by decide) (lk_612 C hn h5 D cA ad1 ad2 H locs h sp la I L J M hl X hS hW fin)
      · exact lv_tableIn (off := 593) (tgt := 625) hx hb (dL1 rfl) (by omega) (by omega) (by rw [ek]; rfl) (by decide) (lk_625 C hn h5 D cA ad1 ad2 H locs h sp la I L J M hl X hS hW fin)
      · exact lv_tableIn (off := 626) (tgt := 658) hx hb (dL1 rfl) (by omega) (by omega) (by rw [ek]; rfl) (by decide) (lk_658 C hn h5 D cA ad1 ad2 H locs h sp la I L J M hl X hS hW fin)
      · exact lv_tableIn (off := 659) (tgt := 691) hx hb (dL1 rfl) (by omega) (by omega) (by rw [ek]; rfl) (by decide) (lk_691 C hn h5 D cA ad1 ad2 H locs h sp la I L J M hl X hS hW fin)
      · exact lv_tableIn (off := 692) (tgt := 724) hx hb (dL1 rfl) (by omega) (by omega) (by rw [ek]; rfl) (by decide) (lk_724 C hn h5 D cA ad1 ad2 H locs h sp la I L J M hl X hS hW fin)
      · exact lv_tableIn (off := 745) (tgt := 777) hx hb (dL1 rfl) (by omega) (by omega) (by rw [ek]; rfl) (by decide) (lk_777 C hn h5 D cA ad1 ad2 H locs h sp la I L J M hl X hS hW fin)
      · exact lv_tableIn (off := 778) (tgt := 810) hx hb (dL1 rfl) (by omega) (by omega) (by rw [ek]; rfl) (by decide) (lk_810 C hn h5 D cA ad1 ad2 H locs h sp la I L J M hl X hS hW fin)
      · exact lv_tableIn (off := 821) (tgt := 853) hx hb (dL1 rfl) (by omega) (by omega) (by rw [ek]; rfl) (by decide) (lk_853 C hn h5 D cA ad1 ad2 H locs h sp la I L J M hl X hS hW fin)
      · exact lv_tableIn (off := 844) (tgt := 876) hx hb (dL1 rfl) (by omega) (by omega) (by rw [ek]; rfl) (by decide) (lk_876 C hn h5 D cA ad1 ad2 H locs h sp la I L J M hl X hS hW fin)
      · exact lv_tableIn (off := 857) (tgt := 889) hx hb (dL1 rfl) (by omega) (by omega) (by rw [ek]; rfl) (by decide) (lk_889 C hn h5 D cA ad1 ad2 H locs h sp la I L J M hl X hS hW fin)
      · exact lv_tableIn (off := 870) (tgt := 902) hx hb (dL1 rfl) (by omega) (by omega) (by rw [ek]; rfl) (by decide) (lk_902 C hn h5 D cA ad1 ad2 H locs h sp la I L J M hl X hS hW fin)
    · refine lv_tableOut (tgt := 925) hx hb (dL1 rfl) (by omega) (by decide) ?_
      exact fin h sp la I L J M ad1 ad2 H locs rfl rfl X hS hW
theorem law_loop (C : LWC p s m c b n xs) (hr : meth.sig.returnType = ret) (hlocks : meth.locks = false) (hn : n ≤ 320) : ∀ k i : Nat, n < k + i → i ≤ 400 → LLp p l e s m below meth c b n xs (lw_Z below #[Value.ref b] s) i
  | 0, i, h, hi => law_round C hr hlocks hn hi (fun q => absurd q (by omega))
  | k + 1, i, h, hi => law_round C hr hlocks hn hi (fun q => law_loop C hr hlocks hn k (i + 5) (by omega) (by omega))
end
