/-! straight stretches at one go; copies; Math -/
def zs_c2 (oc idx : Nat) : Option Int64 := if oc = 9 ∧ idx = 150 then some (-1) else if oc = 11 ∧ idx = 314 then some (6148914691236517205) else if oc = 11 ∧ idx = 316 then some (3689348814741910323) else if oc = 11 ∧ idx = 318 then some (1085102592571150095) else if oc = 10 ∧ idx = 93 then some (255) else if oc = 10 ∧ idx = 166 then some (-1) else none
def zs_c1 (oc idx : Nat) : Option Int32 := if oc = 9 ∧ idx = 198 then some (1000000) else none
theorem zs_c2_ok {oc idx : Nat} {v : Int64} (h : zs_c2 oc idx = some v) : ∃ own, zt_own[oc]? = some own ∧ Cond.constantLong own idx v ∈ zx_G := by
  unfold zs_c2 at h
  split at h
  · rename_i hq; obtain ⟨rfl, rfl⟩ := hq; cases h; exact ⟨_, rfl, zg_at (i := 590) (by decide +kernel) (by decide +kernel)⟩
  ·
    split at h
    · rename_i hq; obtain ⟨rfl, rfl⟩ := hq; cases h; exact ⟨_, rfl, zg_at (i := 811) (by decide +kernel) (by decide +kernel)⟩
    ·
      split at h
      · rename_i hq; obtain ⟨rfl, rfl⟩ := hq; cases h; exact ⟨_, rfl, zg_at (i := 812) (by decide +kernel) (by decide +kernel)⟩
      ·
        split at h
        · rename_i hq; obtain ⟨rfl, rfl⟩ := hq; cases h; exact ⟨_, rfl, zg_at (i := 813) (by decide +kernel) (by decide +kernel)⟩
        ·
          split at h
          · rename_i hq; obtain ⟨rfl, rfl⟩ := hq; cases h; exact ⟨_, rfl, zg_at (i := 944) (by decide +kernel) (by decide +kernel)⟩
          ·
            split at h
            · rename_i hq; obtain ⟨rfl, rfl⟩ := hq; cases h; exact ⟨_, rfl, zg_at (i := 1045) (by decide +kernel) (by decide +kernel)⟩
            · cases h
theorem zs_c1_ok {oc idx : Nat} {v : Int32} (h : zs_c1 oc idx = some v) : ∃ own, zt_own[oc]? = some own ∧ Cond.constant own idx v ∈ zx_G := by
  unfold zs_c1 at h
  split at h
  · rename_i hq; obtain ⟨rfl, rfl⟩ := hq; cases h; exact ⟨_, rfl, zg_at (i := 731) (by decide +kernel) (by decide +kernel)⟩
  · cases h
abbrev zx_F6 : Type := Nat × List (Option Value) × List Value × zx_I × zx_L × zx_R
def zs_step (M : zx_M) (S : zx_S) (i : Instr) (x : zx_F6) : Option zx_F6 := match x with
  | (pc, lo, st, I, L, R) => match i with
    | .iadd => match st with | .int y :: .int x :: r => some (pc + 1, lo, .int (x + y) :: r, I, L, R) | _ => none
    | .isub => match st with | .int y :: .int x :: r => some (pc + 1, lo, .int (x - y) :: r, I, L, R) | _ => none
    | .imul => match st with | .int y :: .int x :: r => some (pc + 1, lo, .int (x * y) :: r, I, L, R) | _ => none
    | .iand => match st with | .int y :: .int x :: r => some (pc + 1, lo, .int (x &&& y) :: r, I, L, R) | _ => none
    | .ior => match st with | .int y :: .int x :: r => some (pc + 1, lo, .int (x ||| y) :: r, I, L, R) | _ => none
    | .ixor => match st with | .int y :: .int x :: r => some (pc + 1, lo, .int (x ^^^ y) :: r, I, L, R) | _ => none
    | .ishl => match st with | .int y :: .int x :: r => some (pc + 1, lo, .int (x <<< (y &&& 31)) :: r, I, L, R) | _ => none
    | .ishr => match st with | .int y :: .int x :: r => some (pc + 1, lo, .int (x >>> (y &&& 31)) :: r, I, L, R) | _ => none
    | .ladd => match st with | .long y :: .long x :: r => some (pc + 1, lo, .long (x + y) :: r, I, L, R) | _ => none
    | .lsub => match st with | .long y :: .long x :: r => some (pc + 1, lo, .long (x - y) :: r, I, L, R) | _ => none
    | .land => match st with | .long y :: .long x :: r => some (pc + 1, lo, .long (x &&& y) :: r, I, L, R) | _ => none
    | .lor => match st with | .long y :: .long x :: r => some (pc + 1, lo, .long (x ||| y) :: r, I, L, R) | _ => none
    | .lxor => match st with | .long y :: .long x :: r => some (pc + 1, lo, .long (x ^^^ y) :: r, I, L, R) | _ => none
    | .lushr => match st with | .int y :: .long x :: r => some (pc + 1, lo, .long ((x.toUInt64 >>> (y.toInt64.toUInt64 &&& Int64.toUInt64 63)).toInt64) :: r, I, L, R) | _ => none
    | .lshl => match st with | .int y :: .long x :: r => some (pc + 1, lo, .long (x <<< (y.toInt64 &&& 63)) :: r, I, L, R) | _ => none
    | .lshr => match st with | .int y :: .long x :: r => some (pc + 1, lo, .long (x >>> (y.toInt64 &&& 63)) :: r, I, L, R) | _ => none
    | .lcmp => match st with | .long y :: .long x :: r => some (pc + 1, lo, .int (lg_cmp x y) :: r, I, L, R) | _ => none
    | .idiv => match st with | .int y :: .int x :: r => if y = 0 then none else some (pc + 1, lo, .int (x / y) :: r, I, L, R) | _ => none
    | .irem => match st with | .int y :: .int x :: r => if y = 0 then none else some (pc + 1, lo, .int (x - x / y * y) :: r, I, L, R) | _ => none
    | .i2l => match st with | .int x :: r => some (pc + 1, lo, .long x.toInt64 :: r, I, L, R) | _ => none
    | .l2i => match st with | .long x :: r => some (pc + 1, lo, .int x.toInt32 :: r, I, L, R) | _ => none
    | .i2b => match st with | .int x :: r => some (pc + 1, lo, .int x.toInt8.toInt32 :: r, I, L, R) | _ => none
    | .iconst v => some (pc + 1, lo, .int (Int32.ofInt v) :: st, I, L, R)
    | .bipush v => some (pc + 2, lo, .int ((Int8.ofInt v).toInt32) :: st, I, L, R)
    | .sipush v => some (pc + 3, lo, .int ((Int16.ofInt v).toInt32) :: st, I, L, R)
    | .lconst v => some (pc + 1, lo, .long (Int64.ofNat (v : Nat)) :: st, I, L, R)
    | .aconst_null => some (pc + 1, lo, .null :: st, I, L, R)
    | .ldc idx => match zs_c1 M.2.2.2.2.1 idx with | some v => some (pc + 2, lo, .int v :: st, I, L, R) | none => none
    | .ldc2_w idx => match zs_c2 M.2.2.2.2.1 idx with | some v => some (pc + 3, lo, .long v :: st, I, L, R) | none => none
    | .iload i => match lo[i]? with | some (some (.int x)) => some (pc + 2, lo, .int x :: st, I, L, R) | _ => none
    | .iload_n i => match lo[(i : Nat)]? with | some (some (.int x)) => some (pc + 1, lo, .int x :: st, I, L, R) | _ => none
    | .lload i => match lo[i]? with | some (some (.long x)) => some (pc + 2, lo, .long x :: st, I, L, R) | _ => none
    | .lload_n i => match lo[(i : Nat)]? with | some (some (.long x)) => some (pc + 1, lo, .long x :: st, I, L, R) | _ => none
    | .aload i => match lo[i]? with | some (some (.ref x)) => some (pc + 2, lo, .ref x :: st, I, L, R) | some (some .null) => some (pc + 2, lo, .null :: st, I, L, R) | _ => none
    | .aload_n i => match lo[(i : Nat)]? with | some (some (.ref x)) => some (pc + 1, lo, .ref x :: st, I, L, R) | some (some .null) => some (pc + 1, lo, .null :: st, I, L, R) | _ => none
    | .istore i => match st with | .int x :: r => if i < lo.length then some (pc + 2, zx_st1 lo i (.int x), r, I, L, R) else none | _ => none
    | .istore_n i => match st with | .int x :: r => if (i : Nat) < lo.length then some (pc + 1, zx_st1 lo i (.int x), r, I, L, R) else none | _ => none
    | .lstore i => match st with | .long x :: r => if i + 1 < lo.length then some (pc + 2, zx_st2 lo i (.long x), r, I, L, R) else none | _ => none
    | .lstore_n i => match st with | .long x :: r => if (i : Nat) + 1 < lo.length then some (pc + 1, zx_st2 lo i (.long x), r, I, L, R) else none | _ => none
    | .astore i => match st with | .ref x :: r => (if i < lo.length then some (pc + 2, zx_st1 lo i (.ref x), r, I, L, R) else none) | .null :: r => (if i < lo.length then some (pc + 2, zx_st1 lo i .null, r, I, L, R) else none) | _ => none
    | .astore_n i => match st with | .ref x :: r => (if (i : Nat) < lo.length then some (pc + 1, zx_st1 lo i (.ref x), r, I, L, R) else none) | .null :: r => (if (i : Nat) < lo.length then some (pc + 1, zx_st1 lo i .null, r, I, L, R) else none) | _ => none
    | .iinc i v => match lo[i]? with | some (some (.int x)) => some (pc + 3, zx_st1 lo i (.int (x + Int32.ofInt v)), st, I, L, R) | _ => none
    | .dup => match st with | .int x :: r => some (pc + 1, lo, .int x :: .int x :: r, I, L, R) | .ref x :: r => some (pc + 1, lo, .ref x :: .ref x :: r, I, L, R) | _ => none
    | .pop => match st with | .int x :: r => some (pc + 1, lo, r, I, L, R) | .ref x :: r => some (pc + 1, lo, r, I, L, R) | _ => none
    | .dup2 => match st with | .int x :: .ref y :: r => some (pc + 1, lo, .int x :: .ref y :: .int x :: .ref y :: r, I, L, R) | _ => none
    | .goto off => if 0 ≤ (pc : Int) + off then some (((pc : Int) + off).toNat, lo, st, I, L, R) else none
    | .getfield idx => match st with | .ref a :: r => (match zfl M.2.2.2.2.1 idx, S[a]? with | some (ci, k), some (kd, _) => if kd = ci then (match (zt_T.getD ci [])[k]? with | some t => some (pc + 3, lo, zx_pv t (I a k) (L a k) (R a k) :: r, I, L, R) | none => none) else none | _, _ => none) | _ => none
    | .putfield idx => match st with | .int v :: .ref a :: r => (match zfl M.2.2.2.2.1 idx, S[a]? with | some (ci, k), some (kd, _) => if kd = ci ∧ zx_may M ci k = true ∧ (zx_fin ci k = true → ci = M.2.2.2.2.1) ∧ ((zt_T.getD ci [])[k]? = some 0 ∨ (zt_T.getD ci [])[k]? = some 3 ∧ (v = 0 ∨ v = 1)) then some (pc + 3, lo, r, zx_uI I a k v, L, R) else none | _, _ => none) | .long v :: .ref a :: r => (match zfl M.2.2.2.2.1 idx, S[a]? with | some (ci, k), some (kd, _) => if kd = ci ∧ zx_may M ci k = true ∧ (zx_fin ci k = true → ci = M.2.2.2.2.1) ∧ ((zt_T.getD ci [])[k]? = some 1) then some (pc + 3, lo, r, I, zx_uL L a k v, R) else none | _, _ => none) | .ref v :: .ref a :: r => (match zfl M.2.2.2.2.1 idx, S[a]? with | some (ci, k), some (kd, _) => if kd = ci ∧ zx_may M ci k = true ∧ (zx_fin ci k = true → ci = M.2.2.2.2.1) ∧ ((zt_T.getD ci [])[k]? = some 2) then some (pc + 3, lo, r, I, L, zx_uR R a k (some v)) else none | _, _ => none) | .null :: .ref a :: r => (match zfl M.2.2.2.2.1 idx, S[a]? with | some (ci, k), some (kd, _) => if kd = ci ∧ zx_may M ci k = true ∧ (zx_fin ci k = true → ci = M.2.2.2.2.1) ∧ ((zt_T.getD ci [])[k]? = some 2) then some (pc + 3, lo, r, I, L, zx_uR R a k none) else none | _, _ => none) | _ => none
    | .arraylength => match st with | .ref a :: r => (match S[a]? with | some (kd, n) => if 100 ≤ kd ∧ kd ≤ 104 then some (pc + 1, lo, .int (Int32.ofNat n) :: r, I, L, R) else none | none => none) | _ => none
    | .iaload => match st with | .int i :: .ref a :: r => (match S[a]? with | some (kd, n) => if kd = 100 ∧ ¬ i < 0 ∧ i.toNatClampNeg < n then some (pc + 1, lo, .int (I a i.toNatClampNeg) :: r, I, L, R) else none | none => none) | _ => none
    | .iastore => match st with | .int x :: .int i :: .ref a :: r => (match S[a]? with | some (kd, n) => if kd = 100 ∧ ¬ i < 0 ∧ i.toNatClampNeg < n then some (pc + 1, lo, r, zx_uI I a i.toNatClampNeg x, L, R) else none | none => none) | _ => none
    | _ => none
section
variable {M : zx_M} {d : Nat} {b : zx_B} {Q : zx_Qt} {S : zx_S} {pc : Nat} {lo : List (Option Value)} {st : List Value} {I : zx_I} {L : zx_L} {R : zx_R}
theorem zs_own {oc : Nat} {own : String} (hg : zx_good M) (h : oc = M.2.2.2.2.1) (ho : zt_own[oc]? = some own) : own = M.1.cls := by
  subst h
  exact Option.some.inj (ho.symm.trans hg.2.2.2.1)
theorem zs_good (k : zx_good M → zx_V M d b Q S pc lo st I L R) : zx_V M d b Q S pc lo st I L R := by
  intro p l e s m args below meth c D cA A ad0 ad n0 H locs ls hg
  exact k hg p l e s m args below meth c D cA A ad0 ad n0 H locs ls hg
theorem zs_ldc {idx : Nat} {v : Int32} (hm : (pc, .ldc idx, 2) ∈ M.2.2.2.2.2) (hc : zs_c1 M.2.2.2.2.1 idx = some v) (k : zx_V M d b Q S (pc + 2) lo (.int v :: st) I L R) : zx_V M d b Q S pc lo st I L R := zs_good fun hg => by
  obtain ⟨own, h1, h2⟩ := zs_c1_ok hc
  have := zs_own hg rfl h1
  subst this
  exact zv_ldc hm h2 k
theorem zs_ldc2 {idx : Nat} {v : Int64} (hm : (pc, .ldc2_w idx, 3) ∈ M.2.2.2.2.2) (hc : zs_c2 M.2.2.2.2.1 idx = some v) (k : zx_V M d b Q S (pc + 3) lo (.long v :: st) I L R) : zx_V M d b Q S pc lo st I L R := zs_good fun hg => by
  obtain ⟨own, h1, h2⟩ := zs_c2_ok hc
  have := zs_own hg rfl h1
  subst this
  exact zv_ldc2 hm h2 k
theorem zs_putI {idx a ci k n : Nat} {v : Int32} (hd : (pc, .putfield idx, 3) ∈ M.2.2.2.2.2) (hf : zfo M.2.2.2.2.1 idx ci k) (hs : S[a]? = some (ci, n)) (ht : (zt_T.getD ci [])[k]? = some 0 ∨ (zt_T.getD ci [])[k]? = some 3 ∧ (v = 0 ∨ v = 1)) (hm : zx_may M ci k = true) (hF : zx_fin ci k = true → zfoF M.2.2.2.2.1 idx ci k)
    (kk : zx_V M d b Q S (pc + 3) lo st (zx_uI I a k v) L R) : zx_V M d b Q S pc lo (.int v :: .ref a :: st) I L R := by
  have e : zx_uI I a k v a k = v := by simp [zx_uI]
  rcases ht with ht | ⟨ht, hv⟩
  · exact zv_put hd hf hs ht hm hF (by rw [e]; rfl) (fun q => absurd q (by decide)) (fun b hb => ⟨zx_uI_ne hb, rfl, rfl⟩) (fun j hj => ⟨by simp [zx_uI, hj], rfl, rfl⟩) (fun i hi => Or.inl hi) kk
  · exact zv_put hd hf hs ht hm hF (by rw [e]; rfl) (fun _ => by rw [e]; exact hv) (fun b hb => ⟨zx_uI_ne hb, rfl, rfl⟩) (fun j hj => ⟨by simp [zx_uI, hj], rfl, rfl⟩) (fun i hi => Or.inl hi) kk
theorem zs_putL {idx a ci k n : Nat} {v : Int64} (hd : (pc, .putfield idx, 3) ∈ M.2.2.2.2.2) (hf : zfo M.2.2.2.2.1 idx ci k) (hs : S[a]? = some (ci, n)) (ht : (zt_T.getD ci [])[k]? = some 1) (hm : zx_may M ci k = true) (hF : zx_fin ci k = true → zfoF M.2.2.2.2.1 idx ci k)
    (kk : zx_V M d b Q S (pc + 3) lo st I (zx_uL L a k v) R) : zx_V M d b Q S pc lo (.long v :: .ref a :: st) I L R := by
  have e : zx_uL L a k v a k = v := by simp [zx_uL]
  exact zv_put hd hf hs ht hm hF (by rw [e]; rfl) (fun q => absurd q (by decide)) (fun b hb => ⟨rfl, zx_uL_ne hb, rfl⟩) (fun j hj => ⟨rfl, by simp [zx_uL, hj], rfl⟩) (fun i hi => Or.inl hi) kk
theorem zs_putR {idx a ci k n : Nat} {v : Option Nat} (hd : (pc, .putfield idx, 3) ∈ M.2.2.2.2.2) (hf : zfo M.2.2.2.2.1 idx ci k) (hs : S[a]? = some (ci, n)) (ht : (zt_T.getD ci [])[k]? = some 2) (hm : zx_may M ci k = true) (hF : zx_fin ci k = true → zfoF M.2.2.2.2.1 idx ci k)
    (kk : zx_V M d b Q S (pc + 3) lo st I L (zx_uR R a k v)) : zx_V M d b Q S pc lo (va_rf v :: .ref a :: st) I L R := by
  have e : zx_uR R a k v a k = v := by simp [zx_uR]
  exact zv_put hd hf hs ht hm hF (by rw [e]; rfl) (fun q => absurd q (by decide)) (fun b hb => ⟨rfl, rfl, zx_uR_ne hb⟩) (fun j hj => ⟨rfl, rfl, by simp [zx_uR, hj]⟩) (fun i hi => Or.inr (by rw [e] at hi; rw [hi]; rfl)) kk
theorem zs_ok {i : Instr} {n pc' : Nat} {lo' : List (Option Value)} {st' : List Value} {I' : zx_I} {L' : zx_L} {R' : zx_R} (hm : (pc, i, n) ∈ M.2.2.2.2.2) (hl : zs_len i n = true) (h : zs_step M S i (pc, lo, st, I, L, R) = some (pc', lo', st', I', L', R')) (k : zx_V M d b Q S pc' lo' st' I' L' R') : zx_V M d b Q S pc lo st I L R := by
  unfold zs_step at h
  dsimp only at h
  cases i with
  | iadd  =>
    have hn : n = 1 := by simpa [zs_len] using hl
    subst hn
    dsimp only at h
    split at h
    · cases h; exact zv_iadd hm k
    · cases h
  | isub  =>
    have hn : n = 1 := by simpa [zs_len] using hl
    subst hn
    dsimp only at h
    split at h
    · cases h; exact zv_isub hm k
    · cases h
  | imul  =>
    have hn : n = 1 := by simpa [zs_len] using hl
    subst hn
    dsimp only at h
    split at h
    · cases h; exact zv_imul hm k
    · cases h
  | iand  =>
    have hn : n = 1 := by simpa [zs_len] using hl
    subst hn
    dsimp only at h
    split at h
    · cases h; exact zv_iand hm k
    · cases h
  | ior  =>
    have hn : n = 1 := by simpa [zs_len] using hl
    subst hn
    dsimp only at h
    split at h
    · cases h; exact zv_ior hm k
    · cases h
  | ixor  =>
    have hn : n = 1 := by simpa [zs_len] using hl
    subst hn
    dsimp only at h
    split at h
    · cases h; exact zv_ixor hm k
    · cases h
  | ishl  =>
    have hn : n = 1 := by simpa [zs_len] using hl
    subst hn
    dsimp only at h
    split at h
    · cases h; exact zv_ishl hm k
    · cases h
  | ishr  =>
    have hn : n = 1 := by simpa [zs_len] using hl
    subst hn
    dsimp only at h
    split at h
    · cases h; exact zv_ishr hm k
    · cases h
  | ladd  =>
    have hn : n = 1 := by simpa [zs_len] using hl
    subst hn
    dsimp only at h
    split at h
    · cases h; exact zv_ladd hm k
    · cases h
  | lsub  =>
    have hn : n = 1 := by simpa [zs_len] using hl
    subst hn
    dsimp only at h
    split at h
    · cases h; exact zv_lsub hm k
    · cases h
  | land  =>
    have hn : n = 1 := by simpa [zs_len] using hl
    subst hn
    dsimp only at h
    split at h
    · cases h; exact zv_land hm k
    · cases h
  | lor  =>
    have hn : n = 1 := by simpa [zs_len] using hl
    subst hn
    dsimp only at h
    split at h
    · cases h; exact zv_lor hm k
    · cases h
  | lxor  =>
    have hn : n = 1 := by simpa [zs_len] using hl
    subst hn
    dsimp only at h
    split at h
    · cases h; exact zv_lxor hm k
    · cases h
  | lushr  =>
    have hn : n = 1 := by simpa [zs_len] using hl
    subst hn
    dsimp only at h
    split at h
    · cases h; exact zv_lushr hm k
    · cases h
  | lshl  =>
    have hn : n = 1 := by simpa [zs_len] using hl
    subst hn
    dsimp only at h
    split at h
    · cases h; exact zv_lshl hm k
    · cases h
  | lshr  =>
    have hn : n = 1 := by simpa [zs_len] using hl
    subst hn
    dsimp only at h
    split at h
    · cases h; exact zv_lshr hm k
    · cases h
  | lcmp  =>
    have hn : n = 1 := by simpa [zs_len] using hl
    subst hn
    dsimp only at h
    split at h
    · cases h; exact zv_lcmp hm k
    · cases h
  | idiv  =>
    have hn : n = 1 := by simpa [zs_len] using hl
    subst hn
    dsimp only at h
    split at h
    · split at h
      · cases h
      · rename_i hne; cases h; exact zv_idiv hm hne k
    · cases h
  | irem  =>
    have hn : n = 1 := by simpa [zs_len] using hl
    subst hn
    dsimp only at h
    split at h
    · split at h
      · cases h
      · rename_i hne; cases h; exact zv_irem hm hne k
    · cases h
  | i2l  =>
    have hn : n = 1 := by simpa [zs_len] using hl
    subst hn
    dsimp only at h
    split at h
    · cases h; exact zv_i2l hm k
    · cases h
  | l2i  =>
    have hn : n = 1 := by simpa [zs_len] using hl
    subst hn
    dsimp only at h
    split at h
    · cases h; exact zv_l2i hm k
    · cases h
  | i2b  =>
    have hn : n = 1 := by simpa [zs_len] using hl
    subst hn
    dsimp only at h
    split at h
    · cases h; exact zv_i2b hm k
    · cases h
  | iconst v =>
    have hn : n = 1 := by simpa [zs_len] using hl
    subst hn
    dsimp only at h
    cases h; exact zv_iconst hm k
  | bipush v =>
    have hn : n = 2 := by simpa [zs_len] using hl
    subst hn
    dsimp only at h
    cases h; exact zv_bipush hm k
  | sipush v =>
    have hn : n = 3 := by simpa [zs_len] using hl
    subst hn
    dsimp only at h
    cases h; exact zv_sipush hm k
  | lconst v =>
    have hn : n = 1 := by simpa [zs_len] using hl
    subst hn
    dsimp only at h
    cases h; exact zv_lconst hm k
  | aconst_null  =>
    have hn : n = 1 := by simpa [zs_len] using hl
    subst hn
    dsimp only at h
    cases h; exact zv_null hm k
  | ldc idx =>
    have hn : n = 2 := by simpa [zs_len] using hl
    subst hn
    dsimp only at h
    split at h
    · rename_i hc; cases h; exact zs_ldc hm hc k
    · cases h
  | ldc2_w idx =>
    have hn : n = 3 := by simpa [zs_len] using hl
    subst hn
    dsimp only at h
    split at h
    · rename_i hc; cases h; exact zs_ldc2 hm hc k
    · cases h
  | iload i =>
    have hn : n = 2 := by simpa [zs_len] using hl
    subst hn
    dsimp only at h
    split at h
    · rename_i hv; cases h; exact zv_iload hm hv k
    · cases h
  | iload_n i =>
    have hn : n = 1 := by simpa [zs_len] using hl
    subst hn
    dsimp only at h
    split at h
    · rename_i hv; cases h; exact zv_iload_n hm hv k
    · cases h
  | lload i =>
    have hn : n = 2 := by simpa [zs_len] using hl
    subst hn
    dsimp only at h
    split at h
    · rename_i hv; cases h; exact zv_lload hm hv k
    · cases h
  | lload_n i =>
    have hn : n = 1 := by simpa [zs_len] using hl
    subst hn
    dsimp only at h
    split at h
    · rename_i hv; cases h; exact zv_lload_n hm hv k
    · cases h
  | aload i =>
    have hn : n = 2 := by simpa [zs_len] using hl
    subst hn
    dsimp only at h
    split at h
    · rename_i hv; cases h; exact zv_aload hm hv k
    · rename_i hv; cases h; exact zv_aloadN hm hv k
    · cases h
  | aload_n i =>
    have hn : n = 1 := by simpa [zs_len] using hl
    subst hn
    dsimp only at h
    split at h
    · rename_i hv; cases h; exact zv_aload_n hm hv k
    · rename_i hv; cases h; exact zv_aload_nN hm hv k
    · cases h
  | istore i =>
    have hn : n = 2 := by simpa [zs_len] using hl
    subst hn
    dsimp only at h
    split at h
    · split at h
      · rename_i hi; cases h; exact zv_istore hm hi k
      · cases h
    · cases h
  | istore_n i =>
    have hn : n = 1 := by simpa [zs_len] using hl
    subst hn
    dsimp only at h
    split at h
    · split at h
      · rename_i hi; cases h; exact zv_istore_n hm hi k
      · cases h
    · cases h
  | lstore i =>
    have hn : n = 2 := by simpa [zs_len] using hl
    subst hn
    dsimp only at h
    split at h
    · split at h
      · rename_i hi; cases h; exact zv_lstore hm hi k
      · cases h
    · cases h
  | lstore_n i =>
    have hn : n = 1 := by simpa [zs_len] using hl
    subst hn
    dsimp only at h
    split at h
    · split at h
      · rename_i hi; cases h; exact zv_lstore_n hm hi k
      · cases h
    · cases h
  | astore i =>
    have hn : n = 2 := by simpa [zs_len] using hl
    subst hn
    dsimp only at h
    split at h
    · split at h
      · rename_i hi; cases h; exact zv_astore hm hi k
      · cases h
    · split at h
      · rename_i hi; cases h; exact zv_astoreN hm hi k
      · cases h
    · cases h
  | astore_n i =>
    have hn : n = 1 := by simpa [zs_len] using hl
    subst hn
    dsimp only at h
    split at h
    · split at h
      · rename_i hi; cases h; exact zv_astore_n hm hi k
      · cases h
    · split at h
      · rename_i hi; cases h; exact zv_astore_nN hm hi k
      · cases h
    · cases h
  | iinc i v =>
    have hn : n = 3 := by simpa [zs_len] using hl
    subst hn
    dsimp only at h
    split at h
    · rename_i hv; cases h; exact zv_iinc hm hv k
    · cases h
  | dup  =>
    have hn : n = 1 := by simpa [zs_len] using hl
    subst hn
    dsimp only at h
    split at h
    · cases h; exact zv_dup hm rfl k
    · cases h; exact zv_dup hm rfl k
    · cases h
  | pop  =>
    have hn : n = 1 := by simpa [zs_len] using hl
    subst hn
    dsimp only at h
    split at h
    · cases h; exact zv_pop hm rfl k
    · cases h; exact zv_pop hm rfl k
    · cases h
  | dup2  =>
    have hn : n = 1 := by simpa [zs_len] using hl
    subst hn
    dsimp only at h
    split at h
    · cases h; exact zv_dup2 hm rfl rfl k
    · cases h
  | goto off =>
    have hn : n = 3 := by simpa [zs_len] using hl
    subst hn
    dsimp only at h
    split at h
    · rename_i hq; cases h; exact zv_goto hm (Int.toNat_of_nonneg hq).symm k
    · cases h
  | getfield idx =>
    have hn : n = 3 := by simpa [zs_len] using hl
    subst hn
    dsimp only at h
    split at h
    · split at h
      · rename_i h1 h2
        split at h
        · rename_i h3
          split at h
          · rename_i h4
            cases h
            subst h3
            exact zv_get hm (zf_ok h1) h2 h4 k
          · cases h
        · cases h
      · cases h
    · cases h
  | putfield idx =>
    have hn : n = 3 := by simpa [zs_len] using hl
    subst hn
    dsimp only at h
    split at h
    · split at h
      · rename_i h1 h2
        split at h
        · rename_i h3
          cases h
          obtain ⟨rfl, h4, h5, h6⟩ := h3
          exact zs_putI hm (zf_ok h1) h2 h6 h4 (fun q => zfF_ok h1 (h5 q)) k
        · cases h
      · cases h
    · split at h
      · rename_i h1 h2
        split at h
        · rename_i h3
          cases h
          obtain ⟨rfl, h4, h5, h6⟩ := h3
          exact zs_putL hm (zf_ok h1) h2 h6 h4 (fun q => zfF_ok h1 (h5 q)) k
        · cases h
      · cases h
    · split at h
      · rename_i h1 h2
        split at h
        · rename_i h3
          cases h
          obtain ⟨rfl, h4, h5, h6⟩ := h3
          exact zs_putR (v := some _) hm (zf_ok h1) h2 h6 h4 (fun q => zfF_ok h1 (h5 q)) k
        · cases h
      · cases h
    · split at h
      · rename_i h1 h2
        split at h
        · rename_i h3
          cases h
          obtain ⟨rfl, h4, h5, h6⟩ := h3
          exact zs_putR (v := none) hm (zf_ok h1) h2 h6 h4 (fun q => zfF_ok h1 (h5 q)) k
        · cases h
      · cases h
    · cases h
  | arraylength  =>
    have hn : n = 1 := by simpa [zs_len] using hl
    subst hn
    dsimp only at h
    split at h
    · split at h
      · rename_i h1
        split at h
        · rename_i h2; cases h; exact zv_alen hm h1 h2 k
        · cases h
      · cases h
    · cases h
  | iaload  =>
    have hn : n = 1 := by simpa [zs_len] using hl
    subst hn
    dsimp only at h
    split at h
    · split at h
      · rename_i h1
        split at h
        · rename_i h2
          cases h
          obtain ⟨rfl, h3, h4⟩ := h2
          exact zv_iald hm h1 (fun q => q.elim h3 (fun w => absurd h4 (Nat.not_lt.mpr w))) k
        · cases h
      · cases h
    · cases h
  | iastore  =>
    have hn : n = 1 := by simpa [zs_len] using hl
    subst hn
    dsimp only at h
    split at h
    · split at h
      · rename_i h1
        split at h
        · rename_i h2
          cases h
          obtain ⟨rfl, h3, h4⟩ := h2
          exact zv_iast hm h1 (fun q => q.elim h3 (fun w => absurd h4 (Nat.not_lt.mpr w))) k
        · cases h
      · cases h
    · cases h
  | _ => dsimp only at h; cases h
end
def zs_run (M : zx_M) (S : zx_S) : List (Nat × Instr × Nat) → Nat → zx_F6 → Option zx_F6
  | _, 0, x => some x
  | [], _ + 1, _ => none
  | e :: es, k + 1, x => if e.1 = x.1 ∧ zs_len e.2.1 e.2.2 = true then (match zs_step M S e.2.1 x with | some y => zs_run M S es k y | none => none) else none
def zs_from : List (Nat × Instr × Nat) → Nat → List (Nat × Instr × Nat)
  | [], _ => []
  | e :: es, pc => if e.1 = pc then e :: es else zs_from es pc
theorem zs_from_sub : ∀ (l : List (Nat × Instr × Nat)) (pc : Nat), ∀ e ∈ zs_from l pc, e ∈ l
  | [], _, e, h => h
  | x :: l, pc, e, h => by
    unfold zs_from at h
    split at h
    · exact h
    · exact List.mem_cons_of_mem _ (zs_from_sub l pc e h)
theorem zs_run_ok {M : zx_M} {d : Nat} {b : zx_B} {Q : zx_Qt} {S : zx_S} : ∀ (k : Nat) (es : List (Nat × Instr × Nat)) (x y : zx_F6), (∀ e ∈ es, e ∈ M.2.2.2.2.2) → zs_run M S es k x = some y → zx_V M d b Q S y.1 y.2.1 y.2.2.1 y.2.2.2.1 y.2.2.2.2.1 y.2.2.2.2.2 → zx_V M d b Q S x.1 x.2.1 x.2.2.1 x.2.2.2.1 x.2.2.2.2.1 x.2.2.2.2.2
  | 0, es, x, y, _, h, v => by
    have : x = y := by cases es <;> exact Option.some.inj h
    rw [this]; exact v
  | k + 1, [], x, y, _, h, v => by cases h
  | k + 1, e :: es, x, y, hs, h, v => by
    unfold zs_run at h
    split at h
    · rename_i hc
      split at h
      · rename_i z hz
        have ih := zs_run_ok k es z y (fun e he => hs e (List.mem_cons_of_mem _ he)) h v
        have hmem : (x.1, e.2.1, e.2.2) ∈ M.2.2.2.2.2 := by rw [← hc.1]; exact hs e List.mem_cons_self
        exact zs_ok hmem hc.2 hz ih
      · cases h
    · cases h
theorem zv_run {M : zx_M} {d : Nat} {b : zx_B} {Q : zx_Qt} {S : zx_S} {pc : Nat} {lo : List (Option Value)} {st : List Value} {I : zx_I} {L : zx_L} {R : zx_R} (k : Nat) {pc' : Nat} {lo' : List (Option Value)} {st' : List Value} {I' : zx_I} {L' : zx_L} {R' : zx_R} (h : zs_run M S (zs_from M.2.2.2.2.2 pc) k (pc, lo, st, I, L, R) = some (pc', lo', st', I', L', R')) (kk : zx_V M d b Q S pc' lo' st' I' L' R') : zx_V M d b Q S pc lo st I L R := zs_run_ok k _ _ _ (zs_from_sub _ _) h kk
/-- the row at a place -/
theorem zs_at {l : List (Nat × Instr × Nat)} {pc : Nat} {i : Instr} {n : Nat} (h : (zs_from l pc).head? = some (pc, i, n)) : (pc, i, n) ∈ l := zs_from_sub l pc _ (List.mem_of_mem_head? h)
