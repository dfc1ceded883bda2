/-! the law: the class's call, then the model's -/
def plain (av : List Value) : Prop := ∀ v ∈ av, (∀ ad, zx_rl ad v = v) ∧ ∀ n, zx_ok n v
theorem plain_map {av : List Value} (h : plain av) (ad : Nat → Nat) : av.map (zx_rl ad) = av := by
  induction av with
  | nil => rfl
  | cons v av ih => rw [List.map_cons, (h v List.mem_cons_self).1 ad, ih (fun w hw => h w (List.mem_cons_of_mem _ hw))]
theorem plain_nil : plain [] := fun _ h => absurd h List.not_mem_nil
theorem plain_i {x : Int32} {av : List Value} (h : plain av) : plain (.int x :: av) := fun v hv => by
  rcases List.mem_cons.mp hv with rfl | hv
  · exact ⟨fun _ => rfl, fun _ => trivial⟩
  · exact h v hv
theorem plain_l {x : Int64} {av : List Value} (h : plain av) : plain (.long x :: av) := fun v hv => by
  rcases List.mem_cons.mp hv with rfl | hv
  · exact ⟨fun _ => rfl, fun _ => trivial⟩
  · exact h v hv
theorem lw_first {p : Program} {l : Launch} {e : Env} {s : State} {m : MethodId} {below : List Frame} {meth : Method} {c : Code} {b n : Nat} {xs : Nat → Int32} {D : va_G} {cA : Nat → ClassId} {ad1 ad2 : Nat → Nat} {H : Heap} {locs : List Loc} {ls : Array Slot} {cells slots pc : Nat} {Z : State → Prop} {MC MM : zx_M} {idx np N : Nat} {T : u_T} {av rest : List Value} {h sp : Nat} {la : Option Nat} {I : zx_I} {L : zx_L} {J : zx_I} {M : zx_L}
    (hx : p.tables.exec = Jvm.exec) (hb : c.code = code) (hml : c.maxLocals = 4) (hown : s.vm.findClass RL = some m.cls) (hts : ∀ w ∈ zx_G, w.before #[Value.ref b] s = true)
    (hl : lcV idx MC.1 np) (hg' : zx_good MC) (hcn : vwCl[9]? = some (MC.1.cls, T, N)) (hnp : av.length = np) (hbd : cells ≤ 600000 ∧ slots ≤ 7302250) (hw : (rest.map fun v => v.category).sum ≤ 8) (hd : decode code pc = .ok (.invokevirtual idx, 3)) (hls : ls.size = 4) (hp : plain av)
    (X : LX D cA ad1 ad2 h sp la I L J M b n xs s H) (hS : va_S (fun q => s.heap.size ≤ q) s.heap H locs) (cr : CR MC MM av h sp la I L J M)
    (kk : ∀ (v : Int32) (h' sp' : Nat) (la' : Option Nat) (I' : zx_I) (L' : zx_L) (J' : zx_I) (M' : zx_L) (ad1' : Nat → Nat) (H' : Heap) (locs' : List Loc), ad1' 0 = ad1 0 → LX D cA ad1' ad2 h' sp' la' I' L' J M b n xs s H' → va_S (fun q => s.heap.size ≤ q) s.heap H' locs' → zx_M0 MM 8 0 0 (.ref 0 :: av) zw_SM J M zw_RM (zw_ret (some (.int v)) zw_SM J' M' zw_RM) → WR h' sp' I' L' J' M' → W p l e room_1 s m #[Value.ref b] below meth c H' locs' cells slots Z (F0 m (pc + 3) ls (.int v :: rest))) :
    W p l e room_1 s m #[Value.ref b] below meth c H locs cells slots Z (F0 m pc ls (av.reverse ++ .ref (ad1 0) :: rest)) := by
  obtain ⟨v, Q, J', M', c1, c2, c3⟩ := cr
  have := lw_callV (mc' := 0) (ms' := 0) (S := zw_SC) (ad := ad1) (ci := 9) (n := 11) (rest := rest) (slots := slots) (cells := cells) (pc := pc) (ls := ls) (e := e) (below := below) (meth := meth) (Z := Z) hx hb hml hown hts hl hg' rfl hcn hnp c1 hbd hw hd hls X.1 hS (fun _ w => w) (fun w hw' => by
    rcases List.mem_cons.mp hw' with rfl | hw'
    · show 0 < zw_SC.length
      decide
    · exact (hp w hw').2 _) (fun r S' I' L' R' ad' H' locs' hq hn had hX hS' hz hk => by
    obtain ⟨q1, q2, h1, sp1, la1, q3, q4⟩ := c2 r S' I' L' R' hq
    subst q1
    subst q2
    subst q3
    exact kk v h1 sp1 la1 I' L' J' M' ad' H' locs' (had 0 (by decide)) (LX_C X had hX hz hk) hS' c3 q4)
  rw [plain_map hp] at this
  exact this
theorem lw_second {p : Program} {l : Launch} {e : Env} {s : State} {m : MethodId} {below : List Frame} {meth : Method} {c : Code} {b n : Nat} {xs : Nat → Int32} {D : va_G} {cA : Nat → ClassId} {ad1 ad2 : Nat → Nat} {H : Heap} {locs : List Loc} {ls : Array Slot} {cells slots pc : Nat} {Z : State → Prop} {MM : zx_M} {idx np N : Nat} {T : u_T} {av rest : List Value} {h sp : Nat} {la : Option Nat} {I : zx_I} {L : zx_L} {J J' : zx_I} {M M' : zx_L} {v : Int32}
    (hx : p.tables.exec = Jvm.exec) (hb : c.code = code) (hml : c.maxLocals = 4) (hown : s.vm.findClass RL = some m.cls) (hts : ∀ w ∈ zx_G, w.before #[Value.ref b] s = true)
    (hl : lcV idx MM.1 np) (hg' : zx_good MM) (hcn : vwCl[10]? = some (MM.1.cls, T, N)) (hnp : av.length = np) (hbd : cells ≤ 600000 ∧ slots ≤ 7302250) (hw : (rest.map fun v => v.category).sum ≤ 8) (hd : decode code pc = .ok (.invokevirtual idx, 3)) (hls : ls.size = 4) (hp : plain av)
    (X : LX D cA ad1 ad2 h sp la I L J M b n xs s H) (hS : va_S (fun q => s.heap.size ≤ q) s.heap H locs) (c3 : zx_M0 MM 8 0 0 (.ref 0 :: av) zw_SM J M zw_RM (zw_ret (some (.int v)) zw_SM J' M' zw_RM))
    (kk : ∀ (ad2' : Nat → Nat) (H' : Heap) (locs' : List Loc), ad2' 0 = ad2 0 → LX D cA ad1 ad2' h sp la I L J' M' b n xs s H' → va_S (fun q => s.heap.size ≤ q) s.heap H' locs' → W p l e room_1 s m #[Value.ref b] below meth c H' locs' cells slots Z (F0 m (pc + 3) ls (.int v :: rest))) :
    W p l e room_1 s m #[Value.ref b] below meth c H locs cells slots Z (F0 m pc ls (av.reverse ++ .ref (ad2 0) :: rest)) := by
  have := lw_callV (mc' := 0) (ms' := 0) (S := zw_SM) (ad := ad2) (ci := 10) (n := 36) (rest := rest) (slots := slots) (cells := cells) (pc := pc) (ls := ls) (e := e) (below := below) (meth := meth) (Z := Z) hx hb hml hown hts hl hg' rfl hcn hnp c3 hbd hw hd hls X.2.1 hS (fun _ w => w) (fun w hw' => by
    rcases List.mem_cons.mp hw' with rfl | hw'
    · show 0 < zw_SM.length
      decide
    · exact (hp w hw').2 _) (fun r S' I' L' R' ad' H' locs' hq hn had hX hS' hz hk => by
    obtain ⟨rfl, rfl, rfl, rfl, rfl⟩ := hq
    exact kk ad' H' locs' (had 0 (by decide)) (LX_M X had hX hz hk) hS')
  rw [plain_map hp] at this
  exact this
