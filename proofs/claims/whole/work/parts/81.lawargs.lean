/-! the law: the head of the printed skeleton; its arguments; a call of both -/
def R_law : String := "BathNightLaw"
def lw_P (b : Addr) (xs : List Int32) (args : Array Value) (s : State) : Prop := args = #[.ref b] ∧ s.IntsAt b xs ∧ xs.length ≤ 320 ∧ (Jvm.Cond.and given_1 narrow_1).before args s = true
def lw_Q (_ : Array Value) (s : State) (o : Outcome) (t : State) : Prop := o = .returned (some (.int 1)) ∧ Framed s o t [] 600000 7302250
def lw_Z (below : List Frame) (a : Array Value) (s : State) : State → Prop := fun t => ∃ o, t.status = .running ∧ Ended t below o ∧ lw_Q a s o t
/-- the law's own end, with 1 on the stack, nothing written that was there before, its room as the claim has it -/
theorem lw_ret {p : Program} {l : Launch} {e : Env} {s : State} {m : MethodId} {below : List Frame} {meth : Method} {c : Code} {b : Nat} (hx : p.tables.exec = Jvm.exec) (hb : c.code = code) (hr : meth.sig.returnType = ret) (hlocks : meth.locks = false) {pc : Nat} {H : Heap} {ls : Array Slot} (hdg : decode code pc = .ok (.ireturn, 1)) : W p l e room_1 s m #[Value.ref b] below meth c H [] 600000 7302250 (lw_Z below #[Value.ref b] s) (F0 m pc ls [.int 1]) := by
  intro T hT X
  obtain ⟨fs, hret, hrun, hended, hW, hframe⟩ := X.leave (v := some (.int 1)) (hlocks := hlocks) (fun h => by rw [hr] at h; cases h)
  have hmeth' : T.vm.method? m = some meth := X.method'
  refine ⟨T.setFrames fs, ?_, .returned (some (.int 1)), hrun, hended, rfl, ⟨_, rfl⟩, hW, hframe⟩
  jvm_step X.here [X.here.top, hx, hb, hdg, hmeth', hr, ret, narrow_b1]
  (try refine ⟨rfl, ?_⟩); (try refine ⟨rfl, ?_⟩)
  first | (intro acts; rw [hret _ acts rfl rfl rfl]) | rw [hret _ _ rfl rfl rfl]
  exact Steps.refl _
/-- what holds at the law's entry: the machine, the code, the tables' words (any of lw_tbl by 'hts w (by decide +kernel)'), the script of L ints xs at the cell b, what the Statement gives of the start (any of its parts by flat_of_before) -/
def lw_At (p : Program) (s : State) (m : MethodId) (meth : Method) (c : Code) (b L : Nat) (xs : Nat → Int32) : Prop :=
  p.tables.exec = Jvm.exec ∧ c.code = code ∧ meth.sig.returnType = ret ∧ c.maxLocals = 4 ∧ s.vm.findClass R_law = some m.cls ∧ (∀ w ∈ lw_tbl, w.before #[Value.ref b] s = true) ∧ va_X b L xs s s.heap ∧ b < s.heap.size ∧ meth.locks = false ∧ (Jvm.Cond.and given_1 narrow_1).before #[Value.ref b] s = true
section
variable {p : Program} {l : Launch} {e : Env} {s : State} {m : MethodId} {below : List Frame} {meth : Method} {c : Code} {b n : Nat} {xs : Nat → Int32} {Z : State → Prop} {ls : Array Slot} {a1 a2 i : Nat}
def LWC (p : Program) (s : State) (m : MethodId) (c : Code) (b n : Nat) (xs : Nat → Int32) : Prop :=
  p.tables.exec = Jvm.exec ∧ c.code = code ∧ c.maxLocals = 4 ∧ s.vm.findClass RL = some m.cls ∧ (∀ w ∈ zx_G, w.before #[Value.ref b] s = true) ∧ va_X b n xs s s.heap ∧ b < s.heap.size
def AEv (p : Program) (l : Launch) (e : Env) (s : State) (m : MethodId) (below : List Frame) (meth : Method) (c : Code) (b : Nat) (Z : State → Prop) (ls : Array Slot) (pc pc' : Nat) (av : List Value) : Prop :=
  ∀ (H : Heap) (locs : List Loc) (cells slots : Nat) (rest : List Value), va_S (fun q => s.heap.size ≤ q) s.heap H locs →
    W p l e room_1 s m #[Value.ref b] below meth c H locs cells slots Z (F0 m pc' ls (av.reverse ++ rest)) → W p l e room_1 s m #[Value.ref b] below meth c H locs cells slots Z (F0 m pc ls rest)
theorem AEv_nil {pc : Nat} : AEv p l e s m below meth c b Z ls pc pc [] := fun _ _ _ _ _ _ k => k
theorem AEv_app {pc pc1 pc2 : Nat} {av aw : List Value} (h1 : AEv p l e s m below meth c b Z ls pc pc1 av) (h2 : AEv p l e s m below meth c b Z ls pc1 pc2 aw) : AEv p l e s m below meth c b Z ls pc pc2 (av ++ aw) := fun H locs cells slots rest hS k => by
  refine h1 H locs cells slots rest hS (h2 H locs cells slots (av.reverse ++ rest) hS ?_)
  rw [List.reverse_append, List.append_assoc] at k
  exact k
def lwl (b a1 a2 i : Nat) : List (Nat × Value) := [(0, .ref b), (1, .ref a1), (2, .ref a2), (3, .int (nI i))]
theorem AEv_int {pc k : Nat} {kc : Int} (C : LWC p s m c b n xs) (hl : lv_has ls 4 (lwl b a1 a2 i)) (hin : i + k < n) (hn : n ≤ 320) (hk : Int32.ofInt kc = nI k)
    (d0 : decode code pc = .ok (.aload_n 0, 1)) (d1 : decode code (pc + 1) = .ok (.iload_n 3, 1)) (d2 : decode code (pc + 2) = .ok (.iconst kc, 1)) (d3 : decode code (pc + 3) = .ok (.iadd, 1)) (d4 : decode code (pc + 4) = .ok (.iaload, 1)) : AEv p l e s m below meth c b Z ls pc (pc + 5) [.int (xs (i + k))] := by
  obtain ⟨hx, hb, hml, hown, hts, hX, hbl⟩ := C
  intro H locs cells slots rest hS kk
  have h9 : vp_in (nI (i + k)) n := vp_in_nI hin (by omega)
  have e9 : (nI (i + k)).toNatClampNeg = i + k := nI_clamp (by omega)
  have k1 : W p l e room_1 s m #[Value.ref b] below meth c H locs cells slots Z (F0 m (pc + 4 + 1) ls (.int (xs (nI (i + k)).toNatClampNeg) :: rest)) := by
    rw [e9]
    exact kk
  have k2 := va_sld hx hb hX hbl (A := fun q => s.heap.size ≤ q) (Nat.not_le.mpr hbl) hS h9 d4 k1
  rw [← nI_add] at k2
  refine lv_aload_n hx hb d0 rfl (lv_at hl 0 rfl) ?_
  refine lv_iload_n hx hb d1 rfl (lv_at hl 3 rfl) ?_
  refine lv_iconst (v := nI k) hx hb d2 hk ?_
  exact lv_iadd hx hb d3 k2
theorem AEv_bool {pc k : Nat} {kc : Int} (C : LWC p s m c b n xs) (hl : lv_has ls 4 (lwl b a1 a2 i)) (hin : i + k < n) (hn : n ≤ 320) (hk : Int32.ofInt kc = nI k)
    (d0 : decode code pc = .ok (.aload_n 0, 1)) (d1 : decode code (pc + 1) = .ok (.iload_n 3, 1)) (d2 : decode code (pc + 2) = .ok (.iconst kc, 1)) (d3 : decode code (pc + 3) = .ok (.iadd, 1)) (d4 : decode code (pc + 4) = .ok (.iaload, 1))
    (d5 : decode code (pc + 5) = .ok (.ifCond .eq 7, 3)) (d6 : decode code (pc + 8) = .ok (.iconst 1, 1)) (d7 : decode code (pc + 9) = .ok (.goto 4, 3)) (d8 : decode code (pc + 12) = .ok (.iconst 0, 1)) : AEv p l e s m below meth c b Z ls pc (pc + 13) [.int (if xs (i + k) = 0 then 0 else 1)] := by
  intro H locs cells slots rest hS kk
  refine AEv_int C hl hin hn hk d0 d1 d2 d3 d4 H locs cells slots rest hS ?_
  obtain ⟨hx, hb, hml, hown, hts, hX, hbl⟩ := C
  refine lv_if_eq (tgt := pc + 12) hx hb d5 (by omega) (fun q => ?_) (fun q => ?_)
  · rw [if_pos q] at kk
    exact lv_iconst (v := 0) hx hb d8 (by decide) kk
  · rw [if_neg q] at kk
    have k1 := lv_goto (pc := pc + 9) (tgt := pc + 13) hx hb d7 (by omega) kk
    exact lv_iconst (v := 1) hx hb d6 (by decide) k1
def lwv (x y : Int32) : Int64 := (x.toInt64 <<< ((32 : Int32).toInt64 &&& 63)) ||| (y.toInt64 &&& 4294967295)
theorem AEv_long {pc k k' : Nat} {kc kc' : Int} (C : LWC p s m c b n xs) (hl : lv_has ls 4 (lwl b a1 a2 i)) (hin : i + k < n) (hin' : i + k' < n) (hn : n ≤ 320) (hk : Int32.ofInt kc = nI k) (hk' : Int32.ofInt kc' = nI k') (hc : Cond.constantLong RL 13 4294967295 ∈ zx_G)
    (d0 : decode code pc = .ok (.aload_n 0, 1)) (d1 : decode code (pc + 1) = .ok (.iload_n 3, 1)) (d2 : decode code (pc + 2) = .ok (.iconst kc, 1)) (d3 : decode code (pc + 3) = .ok (.iadd, 1)) (d4 : decode code (pc + 4) = .ok (.iaload, 1))
    (d5 : decode code (pc + 5) = .ok (.i2l, 1)) (d6 : decode code (pc + 6) = .ok (.bipush 32, 2)) (d7 : decode code (pc + 8) = .ok (.lshl, 1))
    (f0 : decode code (pc + 9) = .ok (.aload_n 0, 1)) (f1 : decode code (pc + 10) = .ok (.iload_n 3, 1)) (f2 : decode code (pc + 11) = .ok (.iconst kc', 1)) (f3 : decode code (pc + 12) = .ok (.iadd, 1)) (f4 : decode code (pc + 13) = .ok (.iaload, 1))
    (d8 : decode code (pc + 14) = .ok (.i2l, 1)) (d9 : decode code (pc + 15) = .ok (.ldc2_w 13, 3)) (d10 : decode code (pc + 18) = .ok (.land, 1)) (d11 : decode code (pc + 19) = .ok (.lor, 1)) : AEv p l e s m below meth c b Z ls pc (pc + 20) [.long (lwv (xs (i + k)) (xs (i + k')))] := by
  intro H locs cells slots rest hS kk
  refine AEv_int C hl hin hn hk d0 d1 d2 d3 d4 H locs cells slots rest hS ?_
  obtain ⟨hx, hb, hml, hown, hts, hX, hbl⟩ := id C
  refine lv_i2l (pc := pc + 5) (v := (xs (i + k)).toInt64) hx hb d5 rfl ?_
  refine lv_bipush (pc := pc + 6) (v := 32) hx hb d6 (by decide) ?_
  refine lv_lshl (pc := pc + 8) (v := (xs (i + k)).toInt64 <<< ((32 : Int32).toInt64 &&& 63)) hx hb d7 rfl ?_
  refine AEv_int (pc := pc + 9) C hl hin' hn hk' f0 f1 f2 f3 f4 H locs cells slots _ hS ?_
  refine lv_i2l (pc := pc + 14) (v := (xs (i + k')).toInt64) hx hb d8 rfl ?_
  refine lv_ldc2 (pc := pc + 15) (v := 4294967295) hx hb hown (hts _ hc) d9 ?_
  have k1 := lv_lor (pc := pc + 19) (x := (xs (i + k)).toInt64 <<< ((32 : Int32).toInt64 &&& 63)) (y := (xs (i + k')).toInt64 &&& 4294967295) hx hb d11 kk
  exact lv_land (pc := pc + 18) hx hb d10 k1
/-- what is behind a call of both -/
def LNx (p : Program) (l : Launch) (e : Env) (s : State) (m : MethodId) (below : List Frame) (meth : Method) (c : Code) (b n : Nat) (xs : Nat → Int32) (Z : State → Prop) (ls : Array Slot) (D : va_G) (cA : Nat → ClassId) (ad1 ad2 : Nat → Nat) : Prop :=
  ∀ (h' sp' : Nat) (la' : Option Nat) (I' : zx_I) (L' : zx_L) (J' : zx_I) (M' : zx_L) (ad1' ad2' : Nat → Nat) (H' : Heap) (locs' : List Loc), ad1' 0 = ad1 0 → ad2' 0 = ad2 0 → LX D cA ad1' ad2' h' sp' la' I' L' J' M' b n xs s H' → va_S (fun q => s.heap.size ≤ q) s.heap H' locs' → WR h' sp' I' L' J' M' → W p l e room_1 s m #[Value.ref b] below meth c H' locs' 600000 7302250 Z (F0 m 925 ls [])
theorem law_case {MC MM : zx_M} {i1 i2 np N1 N2 pc pc1 pc2 : Nat} {T1 T2 : u_T} {off : Int} {av : List Value} {D : va_G} {cA : Nat → ClassId} {ad1 ad2 : Nat → Nat} {H : Heap} {locs : List Loc} {h sp : Nat} {la : Option Nat} {I : zx_I} {L : zx_L} {J : zx_I} {M : zx_L}
    (C : LWC p s m c b n xs) (hl : lv_has ls 4 (lwl b (ad1 0) (ad2 0) i)) (lc1 : lcV i1 MC.1 np) (lc2 : lcV i2 MM.1 np) (g1 : zx_good MC) (g2 : zx_good MM) (hc1 : vwCl[9]? = some (MC.1.cls, T1, N1)) (hc2 : vwCl[10]? = some (MM.1.cls, T2, N2)) (hnp : av.length = np) (hp : plain av)
    (d1 : decode code pc = .ok (.aload_n 1, 1)) (E1 : AEv p l e s m below meth c b Z ls (pc + 1) pc1 av) (d2 : decode code pc1 = .ok (.invokevirtual i1, 3)) (d3 : decode code (pc1 + 3) = .ok (.aload_n 2, 1)) (E2 : AEv p l e s m below meth c b Z ls (pc1 + 4) pc2 av) (d4 : decode code pc2 = .ok (.invokevirtual i2, 3)) (d5 : decode code (pc2 + 3) = .ok (.if_icmp .eq off, 3)) (ht : ((pc2 + 3 : Nat) : Int) + off = ((925 : Nat) : Int))
    (X : LX D cA ad1 ad2 h sp la I L J M b n xs s H) (hS : va_S (fun q => s.heap.size ≤ q) s.heap H locs) (cr : CR MC MM av h sp la I L J M) (kk : LNx p l e s m below meth c b n xs Z ls D cA ad1 ad2) :
    W p l e room_1 s m #[Value.ref b] below meth c H locs 600000 7302250 Z (F0 m pc ls []) := by
  obtain ⟨hx, hb, hml, hown, hts, hX, hbl⟩ := id C
  have hb9 : (600000 : Nat) ≤ 600000 ∧ (7302250 : Nat) ≤ 7302250 := ⟨Nat.le_refl _, Nat.le_refl _⟩
  refine lv_aload_n hx hb d1 rfl (lv_at hl 1 rfl) ?_
  refine E1 H locs _ _ _ hS ?_
  refine lw_first (MC := MC) (MM := MM) hx hb hml hown hts lc1 g1 hc1 hnp hb9 (Nat.zero_le _) d2 hl.1 hp X hS cr (fun v h' sp' la' I' L' J' M' ad1' H' locs' e1 X' hS' c3 hW' => ?_)
  refine lv_aload_n hx hb d3 rfl (lv_at hl 2 rfl) ?_
  refine E2 H' locs' _ _ _ hS' ?_
  refine lw_second (MM := MM) hx hb hml hown hts lc2 g2 hc2 hnp hb9 (by show 1 + 0 ≤ 8; omega) d4 hl.1 hp X' hS' c3 (fun ad2' H2 locs2 e2 X2 hS2 => ?_)
  refine lv_icmp_eq (tgt := 925) hx hb d5 ht (fun _ => ?_) (fun q => absurd rfl q)
  exact kk h' sp' la' I' L' J' M' ad1' ad2' H2 locs2 e1 e2 X2 hS2 hW'
/-- a case of the law's switch -/
def LKs (p : Program) (l : Launch) (e : Env) (s : State) (m : MethodId) (below : List Frame) (meth : Method) (c : Code) (b n : Nat) (xs : Nat → Int32) (Z : State → Prop) (ls : Array Slot) (i pc : Nat) : Prop :=
  ∀ (D : va_G) (cA : Nat → ClassId) (ad1 ad2 : Nat → Nat) (H : Heap) (locs : List Loc) (h sp : Nat) (la : Option Nat) (I : zx_I) (L : zx_L) (J : zx_I) (M : zx_L), lv_has ls 4 (lwl b (ad1 0) (ad2 0) i) → LX D cA ad1 ad2 h sp la I L J M b n xs s H → va_S (fun q => s.heap.size ≤ q) s.heap H locs → WR h sp I L J M → LNx p l e s m below meth c b n xs Z ls D cA ad1 ad2 → W p l e room_1 s m #[Value.ref b] below meth c H locs 600000 7302250 Z (F0 m pc ls [])
theorem lk_13 : Cond.constantLong RL 13 4294967295 ∈ zx_G := zg_at (i := 1161) (by decide +kernel) (by decide +kernel)
end
