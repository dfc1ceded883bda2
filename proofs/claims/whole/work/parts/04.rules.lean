/-! a rule an instruction, for the pure machine -/
def zs_len : Instr → Nat → Bool
  | .iload _, n => n == 2 | .lload _, n => n == 2 | .aload _, n => n == 2 | .istore _, n => n == 2 | .lstore _, n => n == 2 | .astore _, n => n == 2
  | .bipush _, n => n == 2 | .sipush _, n => n == 3 | .iinc _ _, n => n == 3 | .getfield _, n => n == 3 | .putfield _, n => n == 3
  | .ldc _, n => n == 2 | .ldc2_w _, n => n == 3 | .goto _, n => n == 3 | .ifCond _ _, n => n == 3 | .if_icmp _ _, n => n == 3 | .ifnull _, n => n == 3 | .ifnonnull _, n => n == 3
  | .invokevirtual _, n => n == 3 | .invokestatic _, n => n == 3 | .invokespecial _, n => n == 3 | .new _, n => n == 3 | .newarray _, n => n == 2 | .anewarray _, n => n == 3
  | .tableswitch _ _ _ _, _ => true | .lookupswitch _ _, _ => true
  | _, n => n == 1
theorem zo_c {n : Nat} {v : Value} {st : List Value} (h : zx_ok n v) (hs : zx_oks n st) : zx_oks n (v :: st) := fun w hw => by
  rcases List.mem_cons.mp hw with rfl | hw
  · exact h
  · exact hs w hw
theorem zo_h {n : Nat} {v : Value} {st : List Value} (hs : zx_oks n (v :: st)) : zx_ok n v := hs v List.mem_cons_self
theorem zo_t {n : Nat} {v : Value} {st : List Value} (hs : zx_oks n (v :: st)) : zx_oks n st := fun w hw => hs w (List.mem_cons_of_mem _ hw)
theorem zo_ad {ad ad' : Nat → Nat} {n : Nat} {st : List Value} (hs : zx_oks n st) (h : ∀ i, i < n → ad' i = ad i) : st.map (zx_rl ad') = st.map (zx_rl ad) := List.map_congr_left fun v hv => zx_rl_ad (hs v hv) h
section
variable {M : zx_M} {d : Nat} {b : zx_B} {Q : zx_Qt} {S : zx_S} {pc : Nat} {lo : List (Option Value)} {st : List Value} {I : zx_I} {L : zx_L} {R : zx_R}
set_option maxHeartbeats 40000 in
theorem zv_iadd {x y : Int32} (hd : (pc, .iadd, 1) ∈ M.2.2.2.2.2) (k : zx_V M d b Q S (pc + 1) lo (.int (x + y) :: st) I L R) : zx_V M d b Q S pc lo (.int y :: .int x :: st) I L R := by
  intro p l e s m args below meth c D cA A ad0 ad n0 H locs ls hg hC hX hS hA hl hol hos hn0 had
  have h9 := hg.1 _ hd
  have h8 := k p l e s m args below meth c D cA A ad0 ad n0 H locs ls hg hC hX hS hA hl hol (zo_c trivial (zo_t (zo_t hos))) hn0 had
  exact lv_iadd hC.1 hC.2.1 h9  h8
set_option maxHeartbeats 40000 in
theorem zv_isub {x y : Int32} (hd : (pc, .isub, 1) ∈ M.2.2.2.2.2) (k : zx_V M d b Q S (pc + 1) lo (.int (x - y) :: st) I L R) : zx_V M d b Q S pc lo (.int y :: .int x :: st) I L R := by
  intro p l e s m args below meth c D cA A ad0 ad n0 H locs ls hg hC hX hS hA hl hol hos hn0 had
  have h9 := hg.1 _ hd
  have h8 := k p l e s m args below meth c D cA A ad0 ad n0 H locs ls hg hC hX hS hA hl hol (zo_c trivial (zo_t (zo_t hos))) hn0 had
  exact lv_isub hC.1 hC.2.1 h9  h8
set_option maxHeartbeats 40000 in
theorem zv_imul {x y : Int32} (hd : (pc, .imul, 1) ∈ M.2.2.2.2.2) (k : zx_V M d b Q S (pc + 1) lo (.int (x * y) :: st) I L R) : zx_V M d b Q S pc lo (.int y :: .int x :: st) I L R := by
  intro p l e s m args below meth c D cA A ad0 ad n0 H locs ls hg hC hX hS hA hl hol hos hn0 had
  have h9 := hg.1 _ hd
  have h8 := k p l e s m args below meth c D cA A ad0 ad n0 H locs ls hg hC hX hS hA hl hol (zo_c trivial (zo_t (zo_t hos))) hn0 had
  exact lv_imul hC.1 hC.2.1 h9  h8
set_option maxHeartbeats 40000 in
theorem zv_iand {x y : Int32} (hd : (pc, .iand, 1) ∈ M.2.2.2.2.2) (k : zx_V M d b Q S (pc + 1) lo (.int (x &&& y) :: st) I L R) : zx_V M d b Q S pc lo (.int y :: .int x :: st) I L R := by
  intro p l e s m args below meth c D cA A ad0 ad n0 H locs ls hg hC hX hS hA hl hol hos hn0 had
  have h9 := hg.1 _ hd
  have h8 := k p l e s m args below meth c D cA A ad0 ad n0 H locs ls hg hC hX hS hA hl hol (zo_c trivial (zo_t (zo_t hos))) hn0 had
  exact lv_iand hC.1 hC.2.1 h9  h8
set_option maxHeartbeats 40000 in
theorem zv_ior {x y : Int32} (hd : (pc, .ior, 1) ∈ M.2.2.2.2.2) (k : zx_V M d b Q S (pc + 1) lo (.int (x ||| y) :: st) I L R) : zx_V M d b Q S pc lo (.int y :: .int x :: st) I L R := by
  intro p l e s m args below meth c D cA A ad0 ad n0 H locs ls hg hC hX hS hA hl hol hos hn0 had
  have h9 := hg.1 _ hd
  have h8 := k p l e s m args below meth c D cA A ad0 ad n0 H locs ls hg hC hX hS hA hl hol (zo_c trivial (zo_t (zo_t hos))) hn0 had
  exact lv_ior hC.1 hC.2.1 h9  h8
set_option maxHeartbeats 40000 in
theorem zv_ixor {x y : Int32} (hd : (pc, .ixor, 1) ∈ M.2.2.2.2.2) (k : zx_V M d b Q S (pc + 1) lo (.int (x ^^^ y) :: st) I L R) : zx_V M d b Q S pc lo (.int y :: .int x :: st) I L R := by
  intro p l e s m args below meth c D cA A ad0 ad n0 H locs ls hg hC hX hS hA hl hol hos hn0 had
  have h9 := hg.1 _ hd
  have h8 := k p l e s m args below meth c D cA A ad0 ad n0 H locs ls hg hC hX hS hA hl hol (zo_c trivial (zo_t (zo_t hos))) hn0 had
  exact lv_ixor hC.1 hC.2.1 h9  h8
set_option maxHeartbeats 40000 in
theorem zv_ishl {x y : Int32} (hd : (pc, .ishl, 1) ∈ M.2.2.2.2.2) (k : zx_V M d b Q S (pc + 1) lo (.int (x <<< (y &&& 31)) :: st) I L R) : zx_V M d b Q S pc lo (.int y :: .int x :: st) I L R := by
  intro p l e s m args below meth c D cA A ad0 ad n0 H locs ls hg hC hX hS hA hl hol hos hn0 had
  have h9 := hg.1 _ hd
  have h8 := k p l e s m args below meth c D cA A ad0 ad n0 H locs ls hg hC hX hS hA hl hol (zo_c trivial (zo_t (zo_t hos))) hn0 had
  exact lv_ishl hC.1 hC.2.1 h9  h8
set_option maxHeartbeats 40000 in
theorem zv_ishr {x y : Int32} (hd : (pc, .ishr, 1) ∈ M.2.2.2.2.2) (k : zx_V M d b Q S (pc + 1) lo (.int (x >>> (y &&& 31)) :: st) I L R) : zx_V M d b Q S pc lo (.int y :: .int x :: st) I L R := by
  intro p l e s m args below meth c D cA A ad0 ad n0 H locs ls hg hC hX hS hA hl hol hos hn0 had
  have h9 := hg.1 _ hd
  have h8 := k p l e s m args below meth c D cA A ad0 ad n0 H locs ls hg hC hX hS hA hl hol (zo_c trivial (zo_t (zo_t hos))) hn0 had
  exact lv_ishr hC.1 hC.2.1 h9  h8
set_option maxHeartbeats 40000 in
theorem zv_idiv {x y : Int32} (hd : (pc, .idiv, 1) ∈ M.2.2.2.2.2) (hne : ¬ y = 0) (k : zx_V M d b Q S (pc + 1) lo (.int (x / y) :: st) I L R) : zx_V M d b Q S pc lo (.int y :: .int x :: st) I L R := by
  intro p l e s m args below meth c D cA A ad0 ad n0 H locs ls hg hC hX hS hA hl hol hos hn0 had
  have h9 := hg.1 _ hd
  have h8 := k p l e s m args below meth c D cA A ad0 ad n0 H locs ls hg hC hX hS hA hl hol (zo_c trivial (zo_t (zo_t hos))) hn0 had
  exact lv_idiv hC.1 hC.2.1 h9 hne h8
set_option maxHeartbeats 40000 in
theorem zv_irem {x y : Int32} (hd : (pc, .irem, 1) ∈ M.2.2.2.2.2) (hne : ¬ y = 0) (k : zx_V M d b Q S (pc + 1) lo (.int (x - x / y * y) :: st) I L R) : zx_V M d b Q S pc lo (.int y :: .int x :: st) I L R := by
  intro p l e s m args below meth c D cA A ad0 ad n0 H locs ls hg hC hX hS hA hl hol hos hn0 had
  have h9 := hg.1 _ hd
  have h8 := k p l e s m args below meth c D cA A ad0 ad n0 H locs ls hg hC hX hS hA hl hol (zo_c trivial (zo_t (zo_t hos))) hn0 had
  exact lv_irem hC.1 hC.2.1 h9 hne h8
set_option maxHeartbeats 40000 in
theorem zv_ladd {x y : Int64} (hd : (pc, .ladd, 1) ∈ M.2.2.2.2.2) (k : zx_V M d b Q S (pc + 1) lo (.long (x + y) :: st) I L R) : zx_V M d b Q S pc lo (.long y :: .long x :: st) I L R := by
  intro p l e s m args below meth c D cA A ad0 ad n0 H locs ls hg hC hX hS hA hl hol hos hn0 had
  have h9 := hg.1 _ hd
  have h8 := k p l e s m args below meth c D cA A ad0 ad n0 H locs ls hg hC hX hS hA hl hol (zo_c trivial (zo_t (zo_t hos))) hn0 had
  exact lv_ladd hC.1 hC.2.1 h9  h8
set_option maxHeartbeats 40000 in
theorem zv_lsub {x y : Int64} (hd : (pc, .lsub, 1) ∈ M.2.2.2.2.2) (k : zx_V M d b Q S (pc + 1) lo (.long (x - y) :: st) I L R) : zx_V M d b Q S pc lo (.long y :: .long x :: st) I L R := by
  intro p l e s m args below meth c D cA A ad0 ad n0 H locs ls hg hC hX hS hA hl hol hos hn0 had
  have h9 := hg.1 _ hd
  have h8 := k p l e s m args below meth c D cA A ad0 ad n0 H locs ls hg hC hX hS hA hl hol (zo_c trivial (zo_t (zo_t hos))) hn0 had
  exact lv_lsub hC.1 hC.2.1 h9  h8
set_option maxHeartbeats 40000 in
theorem zv_land {x y : Int64} (hd : (pc, .land, 1) ∈ M.2.2.2.2.2) (k : zx_V M d b Q S (pc + 1) lo (.long (x &&& y) :: st) I L R) : zx_V M d b Q S pc lo (.long y :: .long x :: st) I L R := by
  intro p l e s m args below meth c D cA A ad0 ad n0 H locs ls hg hC hX hS hA hl hol hos hn0 had
  have h9 := hg.1 _ hd
  have h8 := k p l e s m args below meth c D cA A ad0 ad n0 H locs ls hg hC hX hS hA hl hol (zo_c trivial (zo_t (zo_t hos))) hn0 had
  exact lv_land hC.1 hC.2.1 h9  h8
set_option maxHeartbeats 40000 in
theorem zv_lor {x y : Int64} (hd : (pc, .lor, 1) ∈ M.2.2.2.2.2) (k : zx_V M d b Q S (pc + 1) lo (.long (x ||| y) :: st) I L R) : zx_V M d b Q S pc lo (.long y :: .long x :: st) I L R := by
  intro p l e s m args below meth c D cA A ad0 ad n0 H locs ls hg hC hX hS hA hl hol hos hn0 had
  have h9 := hg.1 _ hd
  have h8 := k p l e s m args below meth c D cA A ad0 ad n0 H locs ls hg hC hX hS hA hl hol (zo_c trivial (zo_t (zo_t hos))) hn0 had
  exact lv_lor hC.1 hC.2.1 h9  h8
set_option maxHeartbeats 40000 in
theorem zv_lxor {x y : Int64} (hd : (pc, .lxor, 1) ∈ M.2.2.2.2.2) (k : zx_V M d b Q S (pc + 1) lo (.long (x ^^^ y) :: st) I L R) : zx_V M d b Q S pc lo (.long y :: .long x :: st) I L R := by
  intro p l e s m args below meth c D cA A ad0 ad n0 H locs ls hg hC hX hS hA hl hol hos hn0 had
  have h9 := hg.1 _ hd
  have h8 := k p l e s m args below meth c D cA A ad0 ad n0 H locs ls hg hC hX hS hA hl hol (zo_c trivial (zo_t (zo_t hos))) hn0 had
  exact lv_lxor hC.1 hC.2.1 h9  h8
set_option maxHeartbeats 40000 in
theorem zv_lushr {x : Int64} {y : Int32} (hd : (pc, .lushr, 1) ∈ M.2.2.2.2.2) (k : zx_V M d b Q S (pc + 1) lo (.long ((x.toUInt64 >>> (y.toInt64.toUInt64 &&& Int64.toUInt64 63)).toInt64) :: st) I L R) : zx_V M d b Q S pc lo (.int y :: .long x :: st) I L R := by
  intro p l e s m args below meth c D cA A ad0 ad n0 H locs ls hg hC hX hS hA hl hol hos hn0 had
  have h9 := hg.1 _ hd
  have h8 := k p l e s m args below meth c D cA A ad0 ad n0 H locs ls hg hC hX hS hA hl hol (zo_c trivial (zo_t (zo_t hos))) hn0 had
  exact lv_lushr hC.1 hC.2.1 h9 rfl h8
set_option maxHeartbeats 40000 in
theorem zv_lshl {x : Int64} {y : Int32} (hd : (pc, .lshl, 1) ∈ M.2.2.2.2.2) (k : zx_V M d b Q S (pc + 1) lo (.long (x <<< (y.toInt64 &&& 63)) :: st) I L R) : zx_V M d b Q S pc lo (.int y :: .long x :: st) I L R := by
  intro p l e s m args below meth c D cA A ad0 ad n0 H locs ls hg hC hX hS hA hl hol hos hn0 had
  have h9 := hg.1 _ hd
  have h8 := k p l e s m args below meth c D cA A ad0 ad n0 H locs ls hg hC hX hS hA hl hol (zo_c trivial (zo_t (zo_t hos))) hn0 had
  exact lv_lshl hC.1 hC.2.1 h9 rfl h8
set_option maxHeartbeats 40000 in
theorem zv_lshr {x : Int64} {y : Int32} (hd : (pc, .lshr, 1) ∈ M.2.2.2.2.2) (k : zx_V M d b Q S (pc + 1) lo (.long (x >>> (y.toInt64 &&& 63)) :: st) I L R) : zx_V M d b Q S pc lo (.int y :: .long x :: st) I L R := by
  intro p l e s m args below meth c D cA A ad0 ad n0 H locs ls hg hC hX hS hA hl hol hos hn0 had
  have h9 := hg.1 _ hd
  have h8 := k p l e s m args below meth c D cA A ad0 ad n0 H locs ls hg hC hX hS hA hl hol (zo_c trivial (zo_t (zo_t hos))) hn0 had
  exact lv_lshr hC.1 hC.2.1 h9 rfl h8
set_option maxHeartbeats 40000 in
theorem zv_i2l {x : Int32} (hd : (pc, .i2l, 1) ∈ M.2.2.2.2.2) (k : zx_V M d b Q S (pc + 1) lo (.long x.toInt64 :: st) I L R) : zx_V M d b Q S pc lo (.int x :: st) I L R := by
  intro p l e s m args below meth c D cA A ad0 ad n0 H locs ls hg hC hX hS hA hl hol hos hn0 had
  have h9 := hg.1 _ hd
  have h8 := k p l e s m args below meth c D cA A ad0 ad n0 H locs ls hg hC hX hS hA hl hol (zo_c trivial (zo_t hos)) hn0 had
  exact lv_i2l hC.1 hC.2.1 h9 rfl h8
set_option maxHeartbeats 40000 in
theorem zv_l2i {x : Int64} (hd : (pc, .l2i, 1) ∈ M.2.2.2.2.2) (k : zx_V M d b Q S (pc + 1) lo (.int x.toInt32 :: st) I L R) : zx_V M d b Q S pc lo (.long x :: st) I L R := by
  intro p l e s m args below meth c D cA A ad0 ad n0 H locs ls hg hC hX hS hA hl hol hos hn0 had
  have h9 := hg.1 _ hd
  have h8 := k p l e s m args below meth c D cA A ad0 ad n0 H locs ls hg hC hX hS hA hl hol (zo_c trivial (zo_t hos)) hn0 had
  exact lv_l2i hC.1 hC.2.1 h9 rfl h8
set_option maxHeartbeats 40000 in
theorem zv_i2b {x : Int32} (hd : (pc, .i2b, 1) ∈ M.2.2.2.2.2) (k : zx_V M d b Q S (pc + 1) lo (.int x.toInt8.toInt32 :: st) I L R) : zx_V M d b Q S pc lo (.int x :: st) I L R := by
  intro p l e s m args below meth c D cA A ad0 ad n0 H locs ls hg hC hX hS hA hl hol hos hn0 had
  have h9 := hg.1 _ hd
  have h8 := k p l e s m args below meth c D cA A ad0 ad n0 H locs ls hg hC hX hS hA hl hol (zo_c trivial (zo_t hos)) hn0 had
  exact lv_i2b hC.1 hC.2.1 h9 rfl h8
set_option maxHeartbeats 40000 in
theorem zv_lcmp {x y : Int64} (hd : (pc, .lcmp, 1) ∈ M.2.2.2.2.2) (k : zx_V M d b Q S (pc + 1) lo (.int (lg_cmp x y) :: st) I L R) : zx_V M d b Q S pc lo (.long y :: .long x :: st) I L R := by
  intro p l e s m args below meth c D cA A ad0 ad n0 H locs ls hg hC hX hS hA hl hol hos hn0 had
  have h9 := hg.1 _ hd
  have h8 := k p l e s m args below meth c D cA A ad0 ad n0 H locs ls hg hC hX hS hA hl hol (zo_c trivial (zo_t (zo_t hos))) hn0 had
  exact W.lcmp hC.1 hC.2.1 h9  h8
set_option maxHeartbeats 40000 in
theorem zv_iconst {v : Int} (hd : (pc, .iconst v, 1) ∈ M.2.2.2.2.2) (k : zx_V M d b Q S (pc + 1) lo (.int (Int32.ofInt v) :: st) I L R) : zx_V M d b Q S pc lo (st) I L R := by
  intro p l e s m args below meth c D cA A ad0 ad n0 H locs ls hg hC hX hS hA hl hol hos hn0 had
  have h9 := hg.1 _ hd
  have h8 := k p l e s m args below meth c D cA A ad0 ad n0 H locs ls hg hC hX hS hA hl hol (zo_c trivial hos) hn0 had
  exact lv_iconst hC.1 hC.2.1 h9 rfl h8
set_option maxHeartbeats 40000 in
theorem zv_bipush {v : Int} (hd : (pc, .bipush v, 2) ∈ M.2.2.2.2.2) (k : zx_V M d b Q S (pc + 2) lo (.int ((Int8.ofInt v).toInt32) :: st) I L R) : zx_V M d b Q S pc lo (st) I L R := by
  intro p l e s m args below meth c D cA A ad0 ad n0 H locs ls hg hC hX hS hA hl hol hos hn0 had
  have h9 := hg.1 _ hd
  have h8 := k p l e s m args below meth c D cA A ad0 ad n0 H locs ls hg hC hX hS hA hl hol (zo_c trivial hos) hn0 had
  exact lv_bipush hC.1 hC.2.1 h9 rfl h8
set_option maxHeartbeats 40000 in
theorem zv_sipush {v : Int} (hd : (pc, .sipush v, 3) ∈ M.2.2.2.2.2) (k : zx_V M d b Q S (pc + 3) lo (.int ((Int16.ofInt v).toInt32) :: st) I L R) : zx_V M d b Q S pc lo (st) I L R := by
  intro p l e s m args below meth c D cA A ad0 ad n0 H locs ls hg hC hX hS hA hl hol hos hn0 had
  have h9 := hg.1 _ hd
  have h8 := k p l e s m args below meth c D cA A ad0 ad n0 H locs ls hg hC hX hS hA hl hol (zo_c trivial hos) hn0 had
  exact lv_sipush hC.1 hC.2.1 h9 rfl h8
set_option maxHeartbeats 40000 in
theorem zv_lconst {v : Fin 2} (hd : (pc, .lconst v, 1) ∈ M.2.2.2.2.2) (k : zx_V M d b Q S (pc + 1) lo (.long (Int64.ofNat (v : Nat)) :: st) I L R) : zx_V M d b Q S pc lo (st) I L R := by
  intro p l e s m args below meth c D cA A ad0 ad n0 H locs ls hg hC hX hS hA hl hol hos hn0 had
  have h9 := hg.1 _ hd
  have h8 := k p l e s m args below meth c D cA A ad0 ad n0 H locs ls hg hC hX hS hA hl hol (zo_c trivial hos) hn0 had
  exact lv_lconst hC.1 hC.2.1 h9 rfl h8
set_option maxHeartbeats 40000 in
theorem zv_null  (hd : (pc, .aconst_null, 1) ∈ M.2.2.2.2.2) (k : zx_V M d b Q S (pc + 1) lo (.null :: st) I L R) : zx_V M d b Q S pc lo (st) I L R := by
  intro p l e s m args below meth c D cA A ad0 ad n0 H locs ls hg hC hX hS hA hl hol hos hn0 had
  have h9 := hg.1 _ hd
  have h8 := k p l e s m args below meth c D cA A ad0 ad n0 H locs ls hg hC hX hS hA hl hol (zo_c trivial hos) hn0 had
  exact lv_null hC.1 hC.2.1 h9  h8
set_option maxHeartbeats 40000 in
theorem zv_ldc {i : Nat} {v : Int32} (hd : (pc, .ldc i, 2) ∈ M.2.2.2.2.2) (hw : Cond.constant M.1.cls i v ∈ zx_G) (k : zx_V M d b Q S (pc + 2) lo (.int v :: st) I L R) : zx_V M d b Q S pc lo (st) I L R := by
  intro p l e s m args below meth c D cA A ad0 ad n0 H locs ls hg hC hX hS hA hl hol hos hn0 had
  have h9 := hg.1 _ hd
  have h8 := k p l e s m args below meth c D cA A ad0 ad n0 H locs ls hg hC hX hS hA hl hol (zo_c trivial hos) hn0 had
  exact lv_ldc hC.1 hC.2.1 hC.2.2.2.2.1 (hC.2.2.2.2.2.1 _ hw) h9  h8
set_option maxHeartbeats 40000 in
theorem zv_ldc2 {i : Nat} {v : Int64} (hd : (pc, .ldc2_w i, 3) ∈ M.2.2.2.2.2) (hw : Cond.constantLong M.1.cls i v ∈ zx_G) (k : zx_V M d b Q S (pc + 3) lo (.long v :: st) I L R) : zx_V M d b Q S pc lo (st) I L R := by
  intro p l e s m args below meth c D cA A ad0 ad n0 H locs ls hg hC hX hS hA hl hol hos hn0 had
  have h9 := hg.1 _ hd
  have h8 := k p l e s m args below meth c D cA A ad0 ad n0 H locs ls hg hC hX hS hA hl hol (zo_c trivial hos) hn0 had
  exact lv_ldc2 hC.1 hC.2.1 hC.2.2.2.2.1 (hC.2.2.2.2.2.1 _ hw) h9  h8
set_option maxHeartbeats 40000 in
theorem zv_dup {v : Value} (hd : (pc, .dup, 1) ∈ M.2.2.2.2.2) (hv : v.category = 1) (k : zx_V M d b Q S (pc + 1) lo (v :: v :: st) I L R) : zx_V M d b Q S pc lo (v :: st) I L R := by
  intro p l e s m args below meth c D cA A ad0 ad n0 H locs ls hg hC hX hS hA hl hol hos hn0 had
  have h9 := hg.1 _ hd
  have h8 := k p l e s m args below meth c D cA A ad0 ad n0 H locs ls hg hC hX hS hA hl hol (zo_c (zo_h hos) hos) hn0 had
  exact lv_dup hC.1 hC.2.1 h9 ((zx_rl_cat ad v).trans hv) h8
set_option maxHeartbeats 40000 in
theorem zv_pop {v : Value} (hd : (pc, .pop, 1) ∈ M.2.2.2.2.2) (hv : v.category = 1) (k : zx_V M d b Q S (pc + 1) lo (st) I L R) : zx_V M d b Q S pc lo (v :: st) I L R := by
  intro p l e s m args below meth c D cA A ad0 ad n0 H locs ls hg hC hX hS hA hl hol hos hn0 had
  have h9 := hg.1 _ hd
  have h8 := k p l e s m args below meth c D cA A ad0 ad n0 H locs ls hg hC hX hS hA hl hol (zo_t hos) hn0 had
  exact lv_pop hC.1 hC.2.1 h9 ((zx_rl_cat ad v).trans hv) h8
set_option maxHeartbeats 40000 in
theorem zv_dup2 {v w : Value} (hd : (pc, .dup2, 1) ∈ M.2.2.2.2.2) (hv : v.category = 1) (hw : w.category = 1) (k : zx_V M d b Q S (pc + 1) lo (v :: w :: v :: w :: st) I L R) : zx_V M d b Q S pc lo (v :: w :: st) I L R := by
  intro p l e s m args below meth c D cA A ad0 ad n0 H locs ls hg hC hX hS hA hl hol hos hn0 had
  have h9 := hg.1 _ hd
  have h8 := k p l e s m args below meth c D cA A ad0 ad n0 H locs ls hg hC hX hS hA hl hol (zo_c (zo_h hos) (zo_c (zo_h (zo_t hos)) hos)) hn0 had
  exact lv_dup2_11 hC.1 hC.2.1 h9 ((zx_rl_cat ad v).trans hv) ((zx_rl_cat ad w).trans hw) h8
set_option maxHeartbeats 40000 in
theorem zv_iload {i : Nat} {x : Int32} (hd : (pc, .iload i, 2) ∈ M.2.2.2.2.2) (hv : lo[i]? = some (some (.int x))) (k : zx_V M d b Q S (pc + 2) lo (.int x :: st) I L R) : zx_V M d b Q S pc lo (st) I L R := by
  intro p l e s m args below meth c D cA A ad0 ad n0 H locs ls hg hC hX hS hA hl hol hos hn0 had
  have h9 := hg.1 _ hd
  have h8 := k p l e s m args below meth c D cA A ad0 ad n0 H locs ls hg hC hX hS hA hl hol (zo_c trivial hos) hn0 had
  exact lv_iload hC.1 hC.2.1 h9 (hl.2.2.2 _ _ hv) h8
set_option maxHeartbeats 40000 in
theorem zv_iload_n {i : Fin 4} {x : Int32} (hd : (pc, .iload_n i, 1) ∈ M.2.2.2.2.2) (hv : lo[(i : Nat)]? = some (some (.int x))) (k : zx_V M d b Q S (pc + 1) lo (.int x :: st) I L R) : zx_V M d b Q S pc lo (st) I L R := by
  intro p l e s m args below meth c D cA A ad0 ad n0 H locs ls hg hC hX hS hA hl hol hos hn0 had
  have h9 := hg.1 _ hd
  have h8 := k p l e s m args below meth c D cA A ad0 ad n0 H locs ls hg hC hX hS hA hl hol (zo_c trivial hos) hn0 had
  exact lv_iload_n hC.1 hC.2.1 h9 rfl (hl.2.2.2 _ _ hv) h8
set_option maxHeartbeats 40000 in
theorem zv_lload {i : Nat} {x : Int64} (hd : (pc, .lload i, 2) ∈ M.2.2.2.2.2) (hv : lo[i]? = some (some (.long x))) (k : zx_V M d b Q S (pc + 2) lo (.long x :: st) I L R) : zx_V M d b Q S pc lo (st) I L R := by
  intro p l e s m args below meth c D cA A ad0 ad n0 H locs ls hg hC hX hS hA hl hol hos hn0 had
  have h9 := hg.1 _ hd
  have h8 := k p l e s m args below meth c D cA A ad0 ad n0 H locs ls hg hC hX hS hA hl hol (zo_c trivial hos) hn0 had
  exact lv_lload hC.1 hC.2.1 h9 (hl.2.2.2 _ _ hv) h8
set_option maxHeartbeats 40000 in
theorem zv_lload_n {i : Fin 4} {x : Int64} (hd : (pc, .lload_n i, 1) ∈ M.2.2.2.2.2) (hv : lo[(i : Nat)]? = some (some (.long x))) (k : zx_V M d b Q S (pc + 1) lo (.long x :: st) I L R) : zx_V M d b Q S pc lo (st) I L R := by
  intro p l e s m args below meth c D cA A ad0 ad n0 H locs ls hg hC hX hS hA hl hol hos hn0 had
  have h9 := hg.1 _ hd
  have h8 := k p l e s m args below meth c D cA A ad0 ad n0 H locs ls hg hC hX hS hA hl hol (zo_c trivial hos) hn0 had
  exact lv_lload_n hC.1 hC.2.1 h9 rfl (hl.2.2.2 _ _ hv) h8
set_option maxHeartbeats 40000 in
theorem zv_aload {i : Nat} {x : Nat} (hd : (pc, .aload i, 2) ∈ M.2.2.2.2.2) (hv : lo[i]? = some (some (.ref x))) (k : zx_V M d b Q S (pc + 2) lo (.ref x :: st) I L R) : zx_V M d b Q S pc lo (st) I L R := by
  intro p l e s m args below meth c D cA A ad0 ad n0 H locs ls hg hC hX hS hA hl hol hos hn0 had
  have h9 := hg.1 _ hd
  have h8 := k p l e s m args below meth c D cA A ad0 ad n0 H locs ls hg hC hX hS hA hl hol (zo_c (hol _ _ hv) hos) hn0 had
  exact lv_aload hC.1 hC.2.1 h9 (hl.2.2.2 _ _ hv) h8
set_option maxHeartbeats 40000 in
theorem zv_aload_n {i : Fin 4} {x : Nat} (hd : (pc, .aload_n i, 1) ∈ M.2.2.2.2.2) (hv : lo[(i : Nat)]? = some (some (.ref x))) (k : zx_V M d b Q S (pc + 1) lo (.ref x :: st) I L R) : zx_V M d b Q S pc lo (st) I L R := by
  intro p l e s m args below meth c D cA A ad0 ad n0 H locs ls hg hC hX hS hA hl hol hos hn0 had
  have h9 := hg.1 _ hd
  have h8 := k p l e s m args below meth c D cA A ad0 ad n0 H locs ls hg hC hX hS hA hl hol (zo_c (hol _ _ hv) hos) hn0 had
  exact lv_aload_n hC.1 hC.2.1 h9 rfl (hl.2.2.2 _ _ hv) h8
set_option maxHeartbeats 40000 in
theorem zv_aloadN {i : Nat} (hd : (pc, .aload i, 2) ∈ M.2.2.2.2.2) (hv : lo[i]? = some (some .null)) (k : zx_V M d b Q S (pc + 2) lo (.null :: st) I L R) : zx_V M d b Q S pc lo (st) I L R := by
  intro p l e s m args below meth c D cA A ad0 ad n0 H locs ls hg hC hX hS hA hl hol hos hn0 had
  have h9 := hg.1 _ hd
  have h8 := k p l e s m args below meth c D cA A ad0 ad n0 H locs ls hg hC hX hS hA hl hol (zo_c trivial hos) hn0 had
  exact lv_aloadN hC.1 hC.2.1 h9 (hl.2.2.2 _ _ hv) h8
set_option maxHeartbeats 40000 in
theorem zv_aload_nN {i : Fin 4} (hd : (pc, .aload_n i, 1) ∈ M.2.2.2.2.2) (hv : lo[(i : Nat)]? = some (some .null)) (k : zx_V M d b Q S (pc + 1) lo (.null :: st) I L R) : zx_V M d b Q S pc lo (st) I L R := by
  intro p l e s m args below meth c D cA A ad0 ad n0 H locs ls hg hC hX hS hA hl hol hos hn0 had
  have h9 := hg.1 _ hd
  have h8 := k p l e s m args below meth c D cA A ad0 ad n0 H locs ls hg hC hX hS hA hl hol (zo_c trivial hos) hn0 had
  exact lv_aload_nN hC.1 hC.2.1 h9 rfl (hl.2.2.2 _ _ hv) h8
set_option maxHeartbeats 40000 in
theorem zv_istore {i : Nat} {x : Int32} (hd : (pc, .istore i, 2) ∈ M.2.2.2.2.2) (hi : (i : Nat) < lo.length) (k : zx_V M d b Q S (pc + 2) (zx_st1 lo i (.int x)) st I L R) : zx_V M d b Q S pc lo (.int x :: st) I L R := by
  intro p l e s m args below meth c D cA A ad0 ad n0 H locs ls hg hC hX hS hA hl hol hos hn0 had
  have h9 := hg.1 _ hd
  exact lv_istore hC.1 hC.2.1 h9 (zx_lv_has hl) (by rw [← hl.2.2.1]; exact hi) rfl (fun _ hls => k p l e s m args below meth c D cA A ad0 ad n0 H locs _ hg hC hX hS hA (zx_lo_st1 hl.2.2.1 hls) (zx_okl_st1 hol trivial) (zo_t hos) hn0 had)
set_option maxHeartbeats 40000 in
theorem zv_istore_n {i : Fin 4} {x : Int32} (hd : (pc, .istore_n i, 1) ∈ M.2.2.2.2.2) (hi : (i : Nat) < lo.length) (k : zx_V M d b Q S (pc + 1) (zx_st1 lo i (.int x)) st I L R) : zx_V M d b Q S pc lo (.int x :: st) I L R := by
  intro p l e s m args below meth c D cA A ad0 ad n0 H locs ls hg hC hX hS hA hl hol hos hn0 had
  have h9 := hg.1 _ hd
  exact lv_istore_n hC.1 hC.2.1 h9 rfl (zx_lv_has hl) (by rw [← hl.2.2.1]; exact hi) rfl (fun _ hls => k p l e s m args below meth c D cA A ad0 ad n0 H locs _ hg hC hX hS hA (zx_lo_st1 hl.2.2.1 hls) (zx_okl_st1 hol trivial) (zo_t hos) hn0 had)
set_option maxHeartbeats 40000 in
theorem zv_lstore {i : Nat} {x : Int64} (hd : (pc, .lstore i, 2) ∈ M.2.2.2.2.2) (hi : (i : Nat) + 1 < lo.length) (k : zx_V M d b Q S (pc + 2) (zx_st2 lo i (.long x)) st I L R) : zx_V M d b Q S pc lo (.long x :: st) I L R := by
  intro p l e s m args below meth c D cA A ad0 ad n0 H locs ls hg hC hX hS hA hl hol hos hn0 had
  have h9 := hg.1 _ hd
  exact lv_lstore hC.1 hC.2.1 h9 (zx_lv_has hl) (by rw [← hl.2.2.1]; exact hi) rfl (fun _ hls => k p l e s m args below meth c D cA A ad0 ad n0 H locs _ hg hC hX hS hA (zx_lo_st2 hl.2.2.1 hls) (zx_okl_st2 hol trivial) (zo_t hos) hn0 had)
set_option maxHeartbeats 40000 in
theorem zv_lstore_n {i : Fin 4} {x : Int64} (hd : (pc, .lstore_n i, 1) ∈ M.2.2.2.2.2) (hi : (i : Nat) + 1 < lo.length) (k : zx_V M d b Q S (pc + 1) (zx_st2 lo i (.long x)) st I L R) : zx_V M d b Q S pc lo (.long x :: st) I L R := by
  intro p l e s m args below meth c D cA A ad0 ad n0 H locs ls hg hC hX hS hA hl hol hos hn0 had
  have h9 := hg.1 _ hd
  exact lv_lstore_n hC.1 hC.2.1 h9 rfl (zx_lv_has hl) (by rw [← hl.2.2.1]; exact hi) rfl (fun _ hls => k p l e s m args below meth c D cA A ad0 ad n0 H locs _ hg hC hX hS hA (zx_lo_st2 hl.2.2.1 hls) (zx_okl_st2 hol trivial) (zo_t hos) hn0 had)
set_option maxHeartbeats 40000 in
theorem zv_astore {i : Nat} {x : Nat} (hd : (pc, .astore i, 2) ∈ M.2.2.2.2.2) (hi : (i : Nat) < lo.length) (k : zx_V M d b Q S (pc + 2) (zx_st1 lo i (.ref x)) st I L R) : zx_V M d b Q S pc lo (.ref x :: st) I L R := by
  intro p l e s m args below meth c D cA A ad0 ad n0 H locs ls hg hC hX hS hA hl hol hos hn0 had
  have h9 := hg.1 _ hd
  exact lv_astore hC.1 hC.2.1 h9 (zx_lv_has hl) (by rw [← hl.2.2.1]; exact hi) rfl (fun _ hls => k p l e s m args below meth c D cA A ad0 ad n0 H locs _ hg hC hX hS hA (zx_lo_st1 hl.2.2.1 hls) (zx_okl_st1 hol (zo_h hos)) (zo_t hos) hn0 had)
set_option maxHeartbeats 40000 in
theorem zv_astore_n {i : Fin 4} {x : Nat} (hd : (pc, .astore_n i, 1) ∈ M.2.2.2.2.2) (hi : (i : Nat) < lo.length) (k : zx_V M d b Q S (pc + 1) (zx_st1 lo i (.ref x)) st I L R) : zx_V M d b Q S pc lo (.ref x :: st) I L R := by
  intro p l e s m args below meth c D cA A ad0 ad n0 H locs ls hg hC hX hS hA hl hol hos hn0 had
  have h9 := hg.1 _ hd
  exact lv_astore_n hC.1 hC.2.1 h9 rfl (zx_lv_has hl) (by rw [← hl.2.2.1]; exact hi) rfl (fun _ hls => k p l e s m args below meth c D cA A ad0 ad n0 H locs _ hg hC hX hS hA (zx_lo_st1 hl.2.2.1 hls) (zx_okl_st1 hol (zo_h hos)) (zo_t hos) hn0 had)
set_option maxHeartbeats 40000 in
theorem zv_astoreN {i : Nat}  (hd : (pc, .astore i, 2) ∈ M.2.2.2.2.2) (hi : (i : Nat) < lo.length) (k : zx_V M d b Q S (pc + 2) (zx_st1 lo i (.null)) st I L R) : zx_V M d b Q S pc lo (.null :: st) I L R := by
  intro p l e s m args below meth c D cA A ad0 ad n0 H locs ls hg hC hX hS hA hl hol hos hn0 had
  have h9 := hg.1 _ hd
  exact lv_astoreN hC.1 hC.2.1 h9 (zx_lv_has hl) (by rw [← hl.2.2.1]; exact hi) rfl (fun _ hls => k p l e s m args below meth c D cA A ad0 ad n0 H locs _ hg hC hX hS hA (zx_lo_st1 hl.2.2.1 hls) (zx_okl_st1 hol trivial) (zo_t hos) hn0 had)
set_option maxHeartbeats 40000 in
theorem zv_astore_nN {i : Fin 4}  (hd : (pc, .astore_n i, 1) ∈ M.2.2.2.2.2) (hi : (i : Nat) < lo.length) (k : zx_V M d b Q S (pc + 1) (zx_st1 lo i (.null)) st I L R) : zx_V M d b Q S pc lo (.null :: st) I L R := by
  intro p l e s m args below meth c D cA A ad0 ad n0 H locs ls hg hC hX hS hA hl hol hos hn0 had
  have h9 := hg.1 _ hd
  exact lv_astore_nN hC.1 hC.2.1 h9 rfl (zx_lv_has hl) (by rw [← hl.2.2.1]; exact hi) rfl (fun _ hls => k p l e s m args below meth c D cA A ad0 ad n0 H locs _ hg hC hX hS hA (zx_lo_st1 hl.2.2.1 hls) (zx_okl_st1 hol trivial) (zo_t hos) hn0 had)
set_option maxHeartbeats 40000 in
theorem zv_iinc {i : Nat} {v : Int} {x : Int32} (hd : (pc, .iinc i v, 3) ∈ M.2.2.2.2.2) (hv : lo[i]? = some (some (.int x))) (k : zx_V M d b Q S (pc + 3) (zx_st1 lo i (.int (x + Int32.ofInt v))) st I L R) : zx_V M d b Q S pc lo st I L R := by
  intro p l e s m args below meth c D cA A ad0 ad n0 H locs ls hg hC hX hS hA hl hol hos hn0 had
  obtain ⟨kk, hkk⟩ := List.getElem?_of_mem (zx_lv_mem (ad := ad) hv)
  have h9 := hg.1 _ hd
  exact lv_iinc hC.1 hC.2.1 h9 (zx_lv_has hl) hkk rfl (by rw [← hl.2.2.1]; exact (List.getElem?_eq_some_iff.mp hv).1) rfl (fun _ hls => k p l e s m args below meth c D cA A ad0 ad n0 H locs _ hg hC hX hS hA (zx_lo_st1 (v := .int _) hl.2.2.1 hls) (zx_okl_st1 hol trivial) hos hn0 had)
set_option maxHeartbeats 40000 in
theorem zv_goto {off : Int} {tgt : Nat} (hd : (pc, .goto off, 3) ∈ M.2.2.2.2.2) (ht : (pc : Int) + off = (tgt : Int)) (k : zx_V M d b Q S tgt lo st I L R) : zx_V M d b Q S pc lo st I L R := by
  intro p l e s m args below meth c D cA A ad0 ad n0 H locs ls hg hC hX hS hA hl hol hos hn0 had
  have h9 := hg.1 _ hd
  have h8 := k p l e s m args below meth c D cA A ad0 ad n0 H locs ls hg hC hX hS hA hl hol hos hn0 had
  exact lv_goto hC.1 hC.2.1 h9 ht h8
set_option maxHeartbeats 40000 in
theorem zv_if_eq {x : Int32} {off : Int} {tgt : Nat} (hd : (pc, .ifCond .eq off, 3) ∈ M.2.2.2.2.2) (ht : (pc : Int) + off = (tgt : Int)) (kt : x = 0 → zx_V M d b Q S tgt lo st I L R) (kf : ¬ x = 0 → zx_V M d b Q S (pc + 3) lo st I L R) : zx_V M d b Q S pc lo (.int x :: st) I L R := by
  intro p l e s m args below meth c D cA A ad0 ad n0 H locs ls hg hC hX hS hA hl hol hos hn0 had
  have h9 := hg.1 _ hd
  have ht8 := fun q => kt q p l e s m args below meth c D cA A ad0 ad n0 H locs ls hg hC hX hS hA hl hol (zo_t hos) hn0 had
  have hf8 := fun q => kf q p l e s m args below meth c D cA A ad0 ad n0 H locs ls hg hC hX hS hA hl hol (zo_t hos) hn0 had
  exact lv_if_eq hC.1 hC.2.1 h9 ht ht8 hf8
set_option maxHeartbeats 40000 in
theorem zv_icmp_eq {x y : Int32} {off : Int} {tgt : Nat} (hd : (pc, .if_icmp .eq off, 3) ∈ M.2.2.2.2.2) (ht : (pc : Int) + off = (tgt : Int)) (kt : x = y → zx_V M d b Q S tgt lo st I L R) (kf : ¬ x = y → zx_V M d b Q S (pc + 3) lo st I L R) : zx_V M d b Q S pc lo (.int y :: .int x :: st) I L R := by
  intro p l e s m args below meth c D cA A ad0 ad n0 H locs ls hg hC hX hS hA hl hol hos hn0 had
  have h9 := hg.1 _ hd
  have ht8 := fun q => kt q p l e s m args below meth c D cA A ad0 ad n0 H locs ls hg hC hX hS hA hl hol (zo_t (zo_t hos)) hn0 had
  have hf8 := fun q => kf q p l e s m args below meth c D cA A ad0 ad n0 H locs ls hg hC hX hS hA hl hol (zo_t (zo_t hos)) hn0 had
  exact lv_icmp_eq hC.1 hC.2.1 h9 ht ht8 hf8
set_option maxHeartbeats 40000 in
theorem zv_if_ne {x : Int32} {off : Int} {tgt : Nat} (hd : (pc, .ifCond .ne off, 3) ∈ M.2.2.2.2.2) (ht : (pc : Int) + off = (tgt : Int)) (kt : ¬ x = 0 → zx_V M d b Q S tgt lo st I L R) (kf : x = 0 → zx_V M d b Q S (pc + 3) lo st I L R) : zx_V M d b Q S pc lo (.int x :: st) I L R := by
  intro p l e s m args below meth c D cA A ad0 ad n0 H locs ls hg hC hX hS hA hl hol hos hn0 had
  have h9 := hg.1 _ hd
  have ht8 := fun q => kt q p l e s m args below meth c D cA A ad0 ad n0 H locs ls hg hC hX hS hA hl hol (zo_t hos) hn0 had
  have hf8 := fun q => kf q p l e s m args below meth c D cA A ad0 ad n0 H locs ls hg hC hX hS hA hl hol (zo_t hos) hn0 had
  exact lv_if_ne hC.1 hC.2.1 h9 ht ht8 hf8
set_option maxHeartbeats 40000 in
theorem zv_icmp_ne {x y : Int32} {off : Int} {tgt : Nat} (hd : (pc, .if_icmp .ne off, 3) ∈ M.2.2.2.2.2) (ht : (pc : Int) + off = (tgt : Int)) (kt : ¬ x = y → zx_V M d b Q S tgt lo st I L R) (kf : x = y → zx_V M d b Q S (pc + 3) lo st I L R) : zx_V M d b Q S pc lo (.int y :: .int x :: st) I L R := by
  intro p l e s m args below meth c D cA A ad0 ad n0 H locs ls hg hC hX hS hA hl hol hos hn0 had
  have h9 := hg.1 _ hd
  have ht8 := fun q => kt q p l e s m args below meth c D cA A ad0 ad n0 H locs ls hg hC hX hS hA hl hol (zo_t (zo_t hos)) hn0 had
  have hf8 := fun q => kf q p l e s m args below meth c D cA A ad0 ad n0 H locs ls hg hC hX hS hA hl hol (zo_t (zo_t hos)) hn0 had
  exact lv_icmp_ne hC.1 hC.2.1 h9 ht ht8 hf8
set_option maxHeartbeats 40000 in
theorem zv_if_lt {x : Int32} {off : Int} {tgt : Nat} (hd : (pc, .ifCond .lt off, 3) ∈ M.2.2.2.2.2) (ht : (pc : Int) + off = (tgt : Int)) (kt : x < 0 → zx_V M d b Q S tgt lo st I L R) (kf : ¬ x < 0 → zx_V M d b Q S (pc + 3) lo st I L R) : zx_V M d b Q S pc lo (.int x :: st) I L R := by
  intro p l e s m args below meth c D cA A ad0 ad n0 H locs ls hg hC hX hS hA hl hol hos hn0 had
  have h9 := hg.1 _ hd
  have ht8 := fun q => kt q p l e s m args below meth c D cA A ad0 ad n0 H locs ls hg hC hX hS hA hl hol (zo_t hos) hn0 had
  have hf8 := fun q => kf q p l e s m args below meth c D cA A ad0 ad n0 H locs ls hg hC hX hS hA hl hol (zo_t hos) hn0 had
  exact lv_if_lt hC.1 hC.2.1 h9 ht ht8 hf8
set_option maxHeartbeats 40000 in
theorem zv_icmp_lt {x y : Int32} {off : Int} {tgt : Nat} (hd : (pc, .if_icmp .lt off, 3) ∈ M.2.2.2.2.2) (ht : (pc : Int) + off = (tgt : Int)) (kt : x < y → zx_V M d b Q S tgt lo st I L R) (kf : ¬ x < y → zx_V M d b Q S (pc + 3) lo st I L R) : zx_V M d b Q S pc lo (.int y :: .int x :: st) I L R := by
  intro p l e s m args below meth c D cA A ad0 ad n0 H locs ls hg hC hX hS hA hl hol hos hn0 had
  have h9 := hg.1 _ hd
  have ht8 := fun q => kt q p l e s m args below meth c D cA A ad0 ad n0 H locs ls hg hC hX hS hA hl hol (zo_t (zo_t hos)) hn0 had
  have hf8 := fun q => kf q p l e s m args below meth c D cA A ad0 ad n0 H locs ls hg hC hX hS hA hl hol (zo_t (zo_t hos)) hn0 had
  exact lv_icmp_lt hC.1 hC.2.1 h9 ht ht8 hf8
set_option maxHeartbeats 40000 in
theorem zv_if_ge {x : Int32} {off : Int} {tgt : Nat} (hd : (pc, .ifCond .ge off, 3) ∈ M.2.2.2.2.2) (ht : (pc : Int) + off = (tgt : Int)) (kt : 0 ≤ x → zx_V M d b Q S tgt lo st I L R) (kf : ¬ 0 ≤ x → zx_V M d b Q S (pc + 3) lo st I L R) : zx_V M d b Q S pc lo (.int x :: st) I L R := by
  intro p l e s m args below meth c D cA A ad0 ad n0 H locs ls hg hC hX hS hA hl hol hos hn0 had
  have h9 := hg.1 _ hd
  have ht8 := fun q => kt q p l e s m args below meth c D cA A ad0 ad n0 H locs ls hg hC hX hS hA hl hol (zo_t hos) hn0 had
  have hf8 := fun q => kf q p l e s m args below meth c D cA A ad0 ad n0 H locs ls hg hC hX hS hA hl hol (zo_t hos) hn0 had
  exact lv_if_ge hC.1 hC.2.1 h9 ht ht8 hf8
set_option maxHeartbeats 40000 in
theorem zv_icmp_ge {x y : Int32} {off : Int} {tgt : Nat} (hd : (pc, .if_icmp .ge off, 3) ∈ M.2.2.2.2.2) (ht : (pc : Int) + off = (tgt : Int)) (kt : y ≤ x → zx_V M d b Q S tgt lo st I L R) (kf : ¬ y ≤ x → zx_V M d b Q S (pc + 3) lo st I L R) : zx_V M d b Q S pc lo (.int y :: .int x :: st) I L R := by
  intro p l e s m args below meth c D cA A ad0 ad n0 H locs ls hg hC hX hS hA hl hol hos hn0 had
  have h9 := hg.1 _ hd
  have ht8 := fun q => kt q p l e s m args below meth c D cA A ad0 ad n0 H locs ls hg hC hX hS hA hl hol (zo_t (zo_t hos)) hn0 had
  have hf8 := fun q => kf q p l e s m args below meth c D cA A ad0 ad n0 H locs ls hg hC hX hS hA hl hol (zo_t (zo_t hos)) hn0 had
  exact lv_icmp_ge hC.1 hC.2.1 h9 ht ht8 hf8
set_option maxHeartbeats 40000 in
theorem zv_if_gt {x : Int32} {off : Int} {tgt : Nat} (hd : (pc, .ifCond .gt off, 3) ∈ M.2.2.2.2.2) (ht : (pc : Int) + off = (tgt : Int)) (kt : 0 < x → zx_V M d b Q S tgt lo st I L R) (kf : ¬ 0 < x → zx_V M d b Q S (pc + 3) lo st I L R) : zx_V M d b Q S pc lo (.int x :: st) I L R := by
  intro p l e s m args below meth c D cA A ad0 ad n0 H locs ls hg hC hX hS hA hl hol hos hn0 had
  have h9 := hg.1 _ hd
  have ht8 := fun q => kt q p l e s m args below meth c D cA A ad0 ad n0 H locs ls hg hC hX hS hA hl hol (zo_t hos) hn0 had
  have hf8 := fun q => kf q p l e s m args below meth c D cA A ad0 ad n0 H locs ls hg hC hX hS hA hl hol (zo_t hos) hn0 had
  exact lv_if_gt hC.1 hC.2.1 h9 ht ht8 hf8
set_option maxHeartbeats 40000 in
theorem zv_icmp_gt {x y : Int32} {off : Int} {tgt : Nat} (hd : (pc, .if_icmp .gt off, 3) ∈ M.2.2.2.2.2) (ht : (pc : Int) + off = (tgt : Int)) (kt : y < x → zx_V M d b Q S tgt lo st I L R) (kf : ¬ y < x → zx_V M d b Q S (pc + 3) lo st I L R) : zx_V M d b Q S pc lo (.int y :: .int x :: st) I L R := by
  intro p l e s m args below meth c D cA A ad0 ad n0 H locs ls hg hC hX hS hA hl hol hos hn0 had
  have h9 := hg.1 _ hd
  have ht8 := fun q => kt q p l e s m args below meth c D cA A ad0 ad n0 H locs ls hg hC hX hS hA hl hol (zo_t (zo_t hos)) hn0 had
  have hf8 := fun q => kf q p l e s m args below meth c D cA A ad0 ad n0 H locs ls hg hC hX hS hA hl hol (zo_t (zo_t hos)) hn0 had
  exact lv_icmp_gt hC.1 hC.2.1 h9 ht ht8 hf8
set_option maxHeartbeats 40000 in
theorem zv_if_le {x : Int32} {off : Int} {tgt : Nat} (hd : (pc, .ifCond .le off, 3) ∈ M.2.2.2.2.2) (ht : (pc : Int) + off = (tgt : Int)) (kt : x ≤ 0 → zx_V M d b Q S tgt lo st I L R) (kf : ¬ x ≤ 0 → zx_V M d b Q S (pc + 3) lo st I L R) : zx_V M d b Q S pc lo (.int x :: st) I L R := by
  intro p l e s m args below meth c D cA A ad0 ad n0 H locs ls hg hC hX hS hA hl hol hos hn0 had
  have h9 := hg.1 _ hd
  have ht8 := fun q => kt q p l e s m args below meth c D cA A ad0 ad n0 H locs ls hg hC hX hS hA hl hol (zo_t hos) hn0 had
  have hf8 := fun q => kf q p l e s m args below meth c D cA A ad0 ad n0 H locs ls hg hC hX hS hA hl hol (zo_t hos) hn0 had
  exact lv_if_le hC.1 hC.2.1 h9 ht ht8 hf8
set_option maxHeartbeats 40000 in
theorem zv_icmp_le {x y : Int32} {off : Int} {tgt : Nat} (hd : (pc, .if_icmp .le off, 3) ∈ M.2.2.2.2.2) (ht : (pc : Int) + off = (tgt : Int)) (kt : x ≤ y → zx_V M d b Q S tgt lo st I L R) (kf : ¬ x ≤ y → zx_V M d b Q S (pc + 3) lo st I L R) : zx_V M d b Q S pc lo (.int y :: .int x :: st) I L R := by
  intro p l e s m args below meth c D cA A ad0 ad n0 H locs ls hg hC hX hS hA hl hol hos hn0 had
  have h9 := hg.1 _ hd
  have ht8 := fun q => kt q p l e s m args below meth c D cA A ad0 ad n0 H locs ls hg hC hX hS hA hl hol (zo_t (zo_t hos)) hn0 had
  have hf8 := fun q => kf q p l e s m args below meth c D cA A ad0 ad n0 H locs ls hg hC hX hS hA hl hol (zo_t (zo_t hos)) hn0 had
  exact lv_icmp_le hC.1 hC.2.1 h9 ht ht8 hf8
set_option maxHeartbeats 40000 in
theorem zv_ifnull {off : Int} {x : Nat} (hd : (pc, .ifnull off, 3) ∈ M.2.2.2.2.2) (k : zx_V M d b Q S (pc + 3) lo st I L R) : zx_V M d b Q S pc lo (.ref x :: st) I L R := by
  intro p l e s m args below meth c D cA A ad0 ad n0 H locs ls hg hC hX hS hA hl hol hos hn0 had
  have h9 := hg.1 _ hd
  have h8 := k p l e s m args below meth c D cA A ad0 ad n0 H locs ls hg hC hX hS hA hl hol (zo_t hos) hn0 had
  exact lv_ifnull hC.1 hC.2.1 h9 h8
set_option maxHeartbeats 40000 in
theorem zv_ifnullN {off : Int} {tgt : Nat} (hd : (pc, .ifnull off, 3) ∈ M.2.2.2.2.2) (ht : (pc : Int) + off = (tgt : Int)) (k : zx_V M d b Q S tgt lo st I L R) : zx_V M d b Q S pc lo (.null :: st) I L R := by
  intro p l e s m args below meth c D cA A ad0 ad n0 H locs ls hg hC hX hS hA hl hol hos hn0 had
  have h9 := hg.1 _ hd
  have h8 := k p l e s m args below meth c D cA A ad0 ad n0 H locs ls hg hC hX hS hA hl hol (zo_t hos) hn0 had
  exact lv_ifnullN hC.1 hC.2.1 h9 ht h8
set_option maxHeartbeats 40000 in
theorem zv_ifnonnull {off : Int} {x tgt : Nat} (hd : (pc, .ifnonnull off, 3) ∈ M.2.2.2.2.2) (ht : (pc : Int) + off = (tgt : Int)) (k : zx_V M d b Q S tgt lo st I L R) : zx_V M d b Q S pc lo (.ref x :: st) I L R := by
  intro p l e s m args below meth c D cA A ad0 ad n0 H locs ls hg hC hX hS hA hl hol hos hn0 had
  have h9 := hg.1 _ hd
  have h8 := k p l e s m args below meth c D cA A ad0 ad n0 H locs ls hg hC hX hS hA hl hol (zo_t hos) hn0 had
  exact lv_ifnonnull hC.1 hC.2.1 h9 ht h8
set_option maxHeartbeats 40000 in
theorem zv_ifnonnullN {off : Int} (hd : (pc, .ifnonnull off, 3) ∈ M.2.2.2.2.2) (k : zx_V M d b Q S (pc + 3) lo st I L R) : zx_V M d b Q S pc lo (.null :: st) I L R := by
  intro p l e s m args below meth c D cA A ad0 ad n0 H locs ls hg hC hX hS hA hl hol hos hn0 had
  have h9 := hg.1 _ hd
  have h8 := k p l e s m args below meth c D cA A ad0 ad n0 H locs ls hg hC hX hS hA hl hol (zo_t hos) hn0 had
  exact lv_ifnonnullN hC.1 hC.2.1 h9 h8
set_option maxHeartbeats 40000 in
theorem zv_lookup {dflt : Int} {ps : Array (Int × Int)} {len tgt : Nat} {off : Int} {x : Int32} (hd : (pc, .lookupswitch dflt ps, len) ∈ M.2.2.2.2.2) (hp : (ps.toList.zip (ps.toList.drop 1)).all (fun (a, next) => a.1 < next.1) = true) (ho : Op.lookupswitch.offset ps.toList dflt x.toInt = off) (ht : (pc : Int) + off = (tgt : Int)) (k : zx_V M d b Q S tgt lo st I L R) : zx_V M d b Q S pc lo (.int x :: st) I L R := by
  intro p l e s m args below meth c D cA A ad0 ad n0 H locs ls hg hC hX hS hA hl hol hos hn0 had
  have h9 := hg.1 _ hd
  have h8 := k p l e s m args below meth c D cA A ad0 ad n0 H locs ls hg hC hX hS hA hl hol (zo_t hos) hn0 had
  exact lv_lookup hC.1 hC.2.1 h9 hp ho ht h8
set_option maxHeartbeats 40000 in
theorem zv_tableOut {dflt l0 hi : Int} {offs : Array Int} {len tgt : Nat} {x : Int32} (hd : (pc, .tableswitch dflt l0 hi offs, len) ∈ M.2.2.2.2.2) (h : x.toInt < l0 ∨ hi < x.toInt) (ht : (pc : Int) + dflt = (tgt : Int)) (k : zx_V M d b Q S tgt lo st I L R) : zx_V M d b Q S pc lo (.int x :: st) I L R := by
  intro p l e s m args below meth c D cA A ad0 ad n0 H locs ls hg hC hX hS hA hl hol hos hn0 had
  have h9 := hg.1 _ hd
  have h8 := k p l e s m args below meth c D cA A ad0 ad n0 H locs ls hg hC hX hS hA hl hol (zo_t hos) hn0 had
  exact lv_tableOut hC.1 hC.2.1 h9 h ht h8
set_option maxHeartbeats 40000 in
theorem zv_tableIn {dflt l0 hi : Int} {offs : Array Int} {len tgt : Nat} {off : Int} {x : Int32} (hd : (pc, .tableswitch dflt l0 hi offs, len) ∈ M.2.2.2.2.2) (h1 : ¬ x.toInt < l0) (h2 : ¬ hi < x.toInt) (ho : offs[(x.toInt - l0).toNat]? = some off) (ht : (pc : Int) + off = (tgt : Int)) (k : zx_V M d b Q S tgt lo st I L R) : zx_V M d b Q S pc lo (.int x :: st) I L R := by
  intro p l e s m args below meth c D cA A ad0 ad n0 H locs ls hg hC hX hS hA hl hol hos hn0 had
  have h9 := hg.1 _ hd
  have h8 := k p l e s m args below meth c D cA A ad0 ad n0 H locs ls hg hC hX hS hA hl hol (zo_t hos) hn0 had
  exact lv_tableIn hC.1 hC.2.1 h9 h1 h2 ho ht h8
end
