/-! the law: its start, by program -/
theorem lw_callJ {p : Program} {l : Launch} {e : Env} {s : State} {m : MethodId} {below : List Frame} {meth : Method} {c : Code} {b : Nat} {D : va_G} {cA : Nat → ClassId} {A : Nat → Prop} {ad : Nat → Nat} {H : Heap} {locs : List Loc} {ls : Array Slot} {cells slots pc : Nat} {Z : State → Prop} {M' : zx_M} {idx np mc' ms' : Nat} {av rest : List Value} {S : zx_S} {I : zx_I} {L : zx_L} {R : zx_R} {Q' : zx_Qt}
    (hx : p.tables.exec = Jvm.exec) (hb : c.code = code) (hml : c.maxLocals = 4) (hown : s.vm.findClass RL = some m.cls) (hts : ∀ w ∈ zx_G, w.before #[Value.ref b] s = true)
    (hl : Cond.methodLink RL idx M'.1 ∈ zx_G ∧ Cond.instanceMethod M'.1 ∈ zx_G ∧ Cond.initialized M'.1.cls ∈ zx_G ∧ M'.1.name = "<init>" ∧ zcP M'.1 np) (hg' : zx_good M') (hret : M'.2.2.2.1 = none) (hnp : av.length = np) (hc : zx_M0 M' 8 mc' ms' (.ref 0 :: av) S I L R Q') (hbd : cells + mc' ≤ 600000 ∧ slots + ms' ≤ 7302250) (hw : (rest.map fun v => v.category).sum ≤ 8) (hd : decode code pc = .ok (.invokespecial idx, 3)) (hls : ls.size = 4)
    (hX : zx_X D cA A ad S I L R s H) (hS : va_S A s.heap H locs) (hA : ∀ q, s.heap.size ≤ q → A q) (hav : zx_oks S.length (.ref 0 :: av))
    (kk : ∀ r S' I' L' R' ad' H' locs', Q' r S' I' L' R' → S.length ≤ S'.length → (∀ i, i < S.length → ad' i = ad i) → zx_X D cA A ad' S' I' L' R' s H' → va_S A s.heap H' locs' → H.size ≤ H'.size → (∀ q : Nat, q < H.size → (∀ i, i < S.length → q ≠ ad i) → H'[q]? = H[q]?) → (∀ j, j < S'.length → (∃ i, i < S.length ∧ ad' j = ad i) ∨ H.size ≤ ad' j) → W p l e room_1 s m #[Value.ref b] below meth c H' locs' (cells + mc') (slots + ms') Z (F0 m (pc + 3) ls ((r.map (zx_rl ad')).toList ++ rest))) :
    W p l e room_1 s m #[Value.ref b] below meth c H locs cells slots Z (F0 m pc ls ((av.map (zx_rl ad)).reverse ++ .ref (ad 0) :: rest)) := by
  obtain ⟨w1, w2, w4, hini, hp1, hp2, hp3⟩ := hl
  have hG : GoodIn zx_G (zx_ws M') := zg_in (zg_ws hg')
  have hwsn : zx_ws M' = Cond.code M'.1 M'.2.1 M'.2.2.1 none :: zx_G := by unfold zx_ws; rw [hret]
  have hR : (zx_rm 8 mc' ms').frames + 1 ≤ room_1.frames ∧ 8 + (M'.2.2.1 + 11) + (zx_rm 8 mc' ms').locals ≤ room_1.locals := ⟨by show 8 + 1 ≤ 10; omega, by
    have := hg'.2.2.2.2
    show 8 + (M'.2.2.1 + 11) + 40 * 8 ≤ 412
    omega⟩
  have cw := cwI (R := room_1) (mc := mc') (ms := ms') (rm := zx_rm 8 mc' ms') (ws' := zx_G) (bytes := M'.2.1) (maxL := M'.2.2.1) np hts hG hwsn rfl rfl (hts _ w4) (hts _ w1) (hts _ w2) hini ⟨hp1, hp2, hp3⟩ hR
  have hpre : PreS s H (va_Pc ((.ref 0 :: av).map (zx_rl ad)) (fun U => U.heap.size = H.size ∧ zx_X D cA (fun _ => True) ad S I L R U U.heap)) (.ref (ad 0) :: av.map (zx_rl ad)) := ⟨zx_blind, fun U hU hW => ⟨rfl, zx_pre hX hU hW⟩⟩
  have hrun := va_runI (As := av.map (zx_rl ad)) (rest := rest) (g := F0 m pc ls ((av.map (zx_rl ad)).reverse ++ .ref (ad 0) :: rest)) (cells := cells) (slots := slots) ⟨hx, hb, hml, hown, hts⟩ (hc l D cA ad H.size hav) cw hpre rfl (by rw [List.length_map]; exact hnp) hls rfl (lv_room (pc := pc) (ls := ls) (rest := (av.map (zx_rl ad)).reverse ++ .ref (ad 0) :: rest) (m := m) hw) hd hbd (locs := locs) (below := below) (meth := meth) (e := e)
  intro T' hT X
  obtain ⟨v, st₀, t, T2, Lc, h0, X', hL, e1, e2, ⟨⟨r, S', I', L', R', ad', ho, hq, hnn, hadd, hokr, hX'⟩, hz, hk⟩, stp⟩ := hrun T' hT X
  have hv : v = r.map (zx_rl ad') := by cases ho; rfl
  subst hv
  have hFc : ∀ q, va_A (zx_W cA ad S I L R) H.size q → A q := by
    intro q h
    rcases h with ⟨k, x, h⟩ | h
    · exact hX.2.1.2 k (q, x) h
    · exact hA q (Nat.le_trans hS.1 h)
  have hS' : va_S A s.heap T2.heap (locs ++ Lc) := ⟨Nat.le_trans hS.1 (by rw [e1, ← h0]; exact hz), fun q h1 h2 => by
    rw [e1, hk q (by rw [h0]; exact Nat.lt_of_lt_of_le h1 hS.1) (fun z => h2 (hFc q z)), h0]
    exact hS.2.1 q h1 h2, fun q hq => by
    rcases List.mem_append.mp hq with h | h
    · exact hS.2.2 q h
    · exact hFc _ (hL q h)⟩
  have hX2 : zx_X D cA A ad' S' I' L' R' s T2.heap := ⟨by rw [e1]; exact hX'.1, hX'.2.1.weaken (fun _ q _ h => hFc q.1 h), hX.2.2.1, hX.2.2.2.1, hX'.2.2.2.2⟩
  obtain ⟨t2, a1, b1⟩ := kk r S' I' L' R' ad' T2.heap (locs ++ Lc) hq hnn hadd hX2 hS' (by rw [e1, ← h0]; exact hz) (fun q h1 h2 => by
    rw [e1, hk q (by rw [h0]; exact h1) (fun z => ?_), h0]
    rcases z with ⟨k, x, z⟩ | z
    · obtain ⟨z1, z2⟩ := lw_adr z
      exact h2 k z1 z2
    · omega) (fun j hj => by
    have y1 : S'[j]? = some S'[j] := List.getElem?_eq_some_iff.mpr ⟨hj, rfl⟩
    rcases hX'.2.1.2 j _ (zx_W_get (cA := cA) (ad := ad') (I := I') (L := L') (R := R') y1) with ⟨k, x, z⟩ | z
    · obtain ⟨z1, z2⟩ := lw_adr z
      exact Or.inl ⟨k, z1, z2⟩
    · exact Or.inr z) T2 rfl X'
  exact ⟨t2, stp t2 a1, b1⟩
theorem zib_0 : Cond.instantiable RX0 8 ∈ zx_G := zg_at (i := 274) (by decide +kernel) (by decide +kernel)
theorem zib_1 : Cond.instantiable RX1 4 ∈ zx_G := zg_at (i := 358) (by decide +kernel) (by decide +kernel)
theorem zib_2 : Cond.instantiable RX2 14 ∈ zx_G := zg_at (i := 96) (by decide +kernel) (by decide +kernel)
theorem zib_3 : Cond.instantiable RX3 8 ∈ zx_G := zg_at (i := 314) (by decide +kernel) (by decide +kernel)
theorem zib_4 : Cond.instantiable RX4 3 ∈ zx_G := zg_at (i := 340) (by decide +kernel) (by decide +kernel)
theorem zib_5 : Cond.instantiable RX5 15 ∈ zx_G := zg_at (i := 89) (by decide +kernel) (by decide +kernel)
theorem zib_6 : Cond.instantiable RX6 3 ∈ zx_G := zg_at (i := 69) (by decide +kernel) (by decide +kernel)
theorem zib_7 : Cond.instantiable RX7 4 ∈ zx_G := zg_at (i := 320) (by decide +kernel) (by decide +kernel)
theorem zib_8 : Cond.instantiable RX8 4 ∈ zx_G := zg_at (i := 243) (by decide +kernel) (by decide +kernel)
theorem zib_9 : Cond.instantiable RX9 11 ∈ zx_G := zg_at (i := 61) (by decide +kernel) (by decide +kernel)
theorem zib_10 : Cond.instantiable RX10 36 ∈ zx_G := zg_at (i := 815) (by decide +kernel) (by decide +kernel)
theorem zib_all {ci : Nat} {C : String} {T : u_T} {N : Nat} (h : vwCl[ci]? = some (C, T, N)) : Cond.instantiable C N ∈ zx_G := by
  have hl : ci < 11 := (List.getElem?_eq_some_iff.mp h).1
  match ci, hl, h with
  | 0, _, h => exact (by cases h; exact zib_0)
  | 1, _, h => exact (by cases h; exact zib_1)
  | 2, _, h => exact (by cases h; exact zib_2)
  | 3, _, h => exact (by cases h; exact zib_3)
  | 4, _, h => exact (by cases h; exact zib_4)
  | 5, _, h => exact (by cases h; exact zib_5)
  | 6, _, h => exact (by cases h; exact zib_6)
  | 7, _, h => exact (by cases h; exact zib_7)
  | 8, _, h => exact (by cases h; exact zib_8)
  | 9, _, h => exact (by cases h; exact zib_9)
  | 10, _, h => exact (by cases h; exact zib_10)
  | n + 11, hl, _ => exact absurd hl (by omega)
theorem sz_cl {s : State} {args : Array Value} (htg : ∀ w ∈ zx_G, w.before args s = true) (k : Nat) : ∃ (cC : ClassId) (iS : Nat → Nat), ∀ q : vw_C, vwCl[k]? = some q → u_Kn s q.1 q.2.1 q.2.2 cC iS := by
  cases h : vwCl[k]? with
  | none => exact ⟨0, fun _ => 0, fun q hq => by cases hq⟩
  | some q =>
    obtain ⟨C, T, N⟩ := q
    obtain ⟨ty, hk⟩ := zk_all h
    obtain ⟨cC, iS, hu⟩ := u_known (T := T) (N := N) htg hk.2.1 (htg _ (zib_all h))
    exact ⟨cC, iS, fun q hq => by cases hq; exact hu⟩
theorem sz_arr {s : State} {args : Array Value} {ty : FieldType} (hty : ty = .int ∨ ty = .byte ∨ ty = .long) (h : (Cond.arrayClass ty).before args s = true) : ∃ cA : ClassId, ArrOfT s cA ty ∧ va_RA s cA ty := by
  obtain ⟨cA, kA, comp, h1, h2, h3⟩ := Cond.arrayClass_spec h
  refine ⟨cA, fun n z => ⟨(fun k h => by cases h), kA, h2, comp, h3⟩, ?_⟩
  rcases hty with rfl | rfl | rfl <;> exact h1
theorem sz_arq {s : State} {C : String} (h : va_AO C s) : ∃ cA : ClassId, ArrOfT s cA (.object C) ∧ va_RA s cA (.object C) := by
  obtain ⟨comp, cA, kA, h1, h2, h3, h4, h5⟩ := Cond.arrayOver_spec h
  exact ⟨cA, fun n z => ⟨(fun k h => by cases h), kA, h3, comp, h4⟩, kA, comp, h3, h4, h1, h5⟩
theorem sz_nw {w : Cond} (hw : zx_nest w = true) {s : State} {args : Array Value} (h : w.before args s = true) : va_Nw w s := by
  cases w with
  | fieldLinkNest a b c d e f => exact va_Nw.of rfl h
  | methodLinkNest a b c d => exact va_Nw.of rfl h
  | arrayOver t =>
    cases t with
    | object C => exact va_AO.of h
    | _ => exact absurd hw (by simp [zx_nest])
  | _ => exact absurd hw (by simp [zx_nest])
theorem sz_K {s : State} {args : Array Value} (htg : ∀ w ∈ zx_G, w.before args s = true) (hnw : ∀ w ∈ zx_N, va_Nw w s) : ∃ (D : va_G) (cA : Nat → ClassId), va_K D vwCl (zx_tys cA) s := by
  obtain ⟨c0, p0⟩ := sz_arr (Or.inl rfl) (htg _ zq_int)
  obtain ⟨c1, p1⟩ := sz_arr (Or.inr (Or.inl rfl)) (htg _ zq_byte)
  obtain ⟨c2, p2⟩ := sz_arr (Or.inr (Or.inr rfl)) (htg _ zq_long)
  obtain ⟨c3, p3⟩ := sz_arq (C := "BathNight$Bather") (hnw _ (zg_nat (i := 95) (by decide +kernel) rfl))
  obtain ⟨c4, p4⟩ := sz_arq (C := "BathNight$Wishes") (hnw _ (zg_nat (i := 272) (by decide +kernel) rfl))
  refine ⟨(fun k => (sz_cl htg k).choose, fun k => (sz_cl htg k).choose_spec.choose), fun k => if k = 100 then c0 else if k = 101 then c1 else if k = 102 then c2 else if k = 103 then c3 else c4, fun k q hq => (sz_cl htg k).choose_spec.choose_spec q hq, fun k q hq => ?_⟩
  match k, hq with
  | 0, hq => cases hq; exact p0
  | 1, hq => cases hq; exact p1
  | 2, hq => cases hq; exact p2
  | 3, hq => cases hq; exact p3
  | 4, hq => cases hq; exact p4
  | k + 5, hq => simp [zx_tys] at hq
/-- the fields of a new object -/
def sz_f (ci : Nat) : List Value := zx_fs (fun _ => 0) (fun _ => 0) (fun _ => 0) (fun _ => none) (zt_T.getD ci []) 0
theorem sz_W {cA : Nat → ClassId} {q ci N : Nat} (hci : ci < 100) : zx_W cA (fun _ => q) [(ci, N)] (fun _ _ => 0) (fun _ _ => 0) (fun _ _ => none) = [(q, .inr (ci, sz_f ci))] := by
  have e : zx_e cA (fun _ => q) (fun _ => 0) (fun _ => 0) (fun _ => none) (ci, N) = .inr (ci, sz_f ci) := by
    rw [zx_e_ad (ad := fun _ => 0) (ad' := fun _ => q) (fun k j hj => by cases hj)]
    exact if_pos hci
  simp [zx_W, e]
theorem sz_one {D : va_G} {cA : Nat → ClassId} {A : Nat → Prop} {q ci N : Nat} {s : State} {H : Heap} (hci : ci < 100) (hP : va_P D vwCl [(q, .inr (ci, sz_f ci))] H) (hD : va_D A [(q, .inr (ci, sz_f ci))]) (hK : va_K D vwCl (zx_tys cA) s) (hnw : ∀ w ∈ zx_N, va_Nw w s) : zx_X D cA A (fun _ => q) [(ci, N)] (fun _ _ => 0) (fun _ _ => 0) (fun _ _ => none) s H := by
  refine ⟨?_, ?_, hK, hnw, fun a k j h => by cases h⟩
  · rw [sz_W hci]; exact hP
  · rw [sz_W hci]; exact hD
theorem sz_two {D : va_G} {A : Nat → Prop} {ws : va_W} {x : Nat × va_E} {H : Heap} (hP : va_P D vwCl (ws ++ [x]) H) (hD : va_D A (ws ++ [x])) : (va_P D vwCl ws H ∧ va_D A ws) ∧ (va_P D vwCl [x] H ∧ va_D A [x]) ∧ ∀ (k : Nat) (y : Nat × va_E), ws[k]? = some y → y.1 ≠ x.1 := by
  have h1 : ∀ (k : Nat) (y : Nat × va_E), ws[k]? = some y → (ws ++ [x])[k]? = some y := fun k y h => by
    rw [List.getElem?_append_left (List.getElem?_eq_some_iff.mp h).1]; exact h
  have h2 : ∀ (k : Nat) (y : Nat × va_E), [x][k]? = some y → (ws ++ [x])[ws.length + k]? = some y := fun k y h => by
    rw [List.getElem?_append_right (by omega), Nat.add_sub_cancel_left]; exact h
  refine ⟨⟨fun k y h => hP k y (h1 k y h), fun i j y z hi hj he => hD.1 i j y z (h1 i y hi) (h1 j z hj) he, fun k y h => hD.2 k y (h1 k y h)⟩, ⟨fun k y h => hP _ y (h2 k y h), fun i j y z hi hj he => ?_, fun k y h => hD.2 _ y (h2 k y h)⟩, fun k y h e => ?_⟩
  · have := hD.1 _ _ y z (h2 i y hi) (h2 j z hj) he
    omega
  · have := hD.1 _ _ y x (h1 k y h) (h2 0 x rfl) e
    have hk := (List.getElem?_eq_some_iff.mp h).1
    omega
section
variable {p : Program} {l : Launch} {e : Env} {s : State} {m : MethodId} {below : List Frame} {meth : Method} {c : Code} {b : Nat} {Z : State → Prop} {ls : Array Slot}
theorem lw_new {idx ci N pc cells slots : Nat} {C : String} {T : u_T} {ty : Nat → FieldType} {D : va_G} {A : Nat → Prop} {tys : List (ClassId × FieldType)} {ws : va_W} {H : Heap} {locs : List Loc} {rest : List Value} (hx : p.tables.exec = Jvm.exec) (hb : c.code = code) (hown : s.vm.findClass RL = some m.cls) (htg : ∀ w ∈ zx_G, w.before #[Value.ref b] s = true) (hd : decode code pc = .ok (.new idx, 3)) (hk : zk_C ci C T N ty) (w1 : Cond.classLink RL idx C ∈ zx_G) (w2 : Cond.instantiable C N ∈ zx_G) (w3 : Cond.initialized C ∈ zx_G) (hK : va_K D vwCl tys s) (hP : va_P D vwCl ws H) (hD : va_D A ws) (hS : va_S A s.heap H locs) (hA : ∀ q, s.heap.size ≤ q → A q) (hbd : cells + 1 ≤ 600000 ∧ slots + N ≤ 7302250)
    (kk : ∀ (q : Nat) (H1 : Heap), va_P D vwCl (ws ++ [(q, .inr (ci, sz_f ci))]) H1 → va_D A (ws ++ [(q, .inr (ci, sz_f ci))]) → va_S A s.heap H1 locs → W p l e room_1 s m #[Value.ref b] below meth c H1 locs (cells + 1) (slots + N) Z (F0 m (pc + 3) ls (.ref q :: rest))) : W p l e room_1 s m #[Value.ref b] below meth c H locs cells slots Z (F0 m pc ls rest) := by
  have hfs : ∀ j, j < N → defaultValue (ty j) = vp_V (sz_f ci) j := by
    intro j hj
    have h1 : (sz_f ci)[j]? = some (zx_v (fun _ => 0) (fun _ => 0) (fun _ => 0) (fun _ => none) (zk_code (ty j)) j) := by
      unfold sz_f
      rw [zx_fs_get, hk.2.2.2.2.1 j hj]
      simp
    unfold vp_V
    rw [List.getD_eq_getElem?_getD, h1, Option.getD_some]
    unfold zx_v
    rcases hk.2.2.2.2.2.2.2.2 j hj with h | h | h | h
    · rw [h]; rfl
    · rw [h]; rfl
    · rw [h]; rfl
    · rw [h]
      cases hty : ty j with
      | object w => rfl
      | array w => rfl
      | _ => rw [hty] at h; exact absurd h (by decide)
  exact va_new (D := D) hx hb htg hk.2.1 ty hk.2.2.1 hown (htg _ w1) (htg _ w2) (htg _ w3) hK hP hD hS hA hk.1 hfs hbd.1 hbd.2 hd kk
end
theorem kS_1 : kS 1 = [(9, 11)] := rfl
theorem kT_1 : kT 1 = [(10, 36)] := rfl
theorem kS_42 : kS 42 = zw_SC := rfl
theorem ws_nil {D : va_G} {H : Heap} : va_P D vwCl [] H := fun k q h => by simp at h
theorem ws_nilD {A : Nat → Prop} : va_D A [] := ⟨fun i j p q h => by simp at h, fun k q h => by simp at h⟩
section
variable {p : Program} {l : Launch} {e : Env} {s : State} {m : MethodId} {below : List Frame} {meth : Method} {c : Code} {b n : Nat} {xs : Nat → Int32} {Z : State → Prop} {ls : Array Slot}
/-- the class's object and its constructor -/
theorem ws_1 {D : va_G} {cA : Nat → ClassId} {H : Heap} {locs : List Loc} (C : LWC p s m c b n xs) (hls : ls.size = 4) (hK : va_K D vwCl (zx_tys cA) s) (hnw : ∀ w ∈ zx_N, va_Nw w s) (hS : va_S (fun q : Nat => s.heap.size ≤ q) s.heap H locs)
    (kk : ∀ (q1 : Nat) (ad1 : Nat → Nat) (H2 : Heap) (locs2 : List Loc), ad1 0 = q1 → zx_X D cA (fun q : Nat => s.heap.size ≤ q) ad1 zw_SC ki_92 kl_3 (zw_RC 4 14 none) s H2 → va_S (fun q : Nat => s.heap.size ≤ q) s.heap H2 locs2 → W p l e room_1 s m #[Value.ref b] below meth c H2 locs2 42 741 Z (F0 m 7 ls [.ref q1])) : W p l e room_1 s m #[Value.ref b] below meth c H locs 0 0 Z (F0 m 0 ls []) := by
  obtain ⟨hx, hb, hml, hown, htg, hX, hbl⟩ := id C
  have hA : ∀ q : Nat, s.heap.size ≤ q → (fun q : Nat => s.heap.size ≤ q) q := fun _ h => h
  refine lw_new (ci := 9) (N := 11) (ws := []) (rest := []) hx hb hown htg (dL1 rfl) zk_9 lx_7 zib_9 zn_X9 hK ws_nil ws_nilD hS hA ⟨by omega, by omega⟩ (fun q1 H1 hP1 hD1 hS1 => ?_)
  refine lv_dup hx hb (dL1 rfl) rfl ?_
  have X1 : zx_X D cA (fun q : Nat => s.heap.size ≤ q) (fun _ => q1) (kS 1) ki_0 kl_0 kr_0 s H1 := by
    rw [kS_1]
    exact sz_one (by decide) hP1 hD1 hK hnw
  have hav : zx_oks (kS 1).length [Value.ref 0] := fun w hw => by
    rcases List.mem_cons.mp hw with rfl | hw
    · show 0 < (kS 1).length
      decide
    · cases hw
  have hc : zx_M0 mm_X9_init 8 41 730 [.ref 0] (kS 1) ki_0 kl_0 kr_0 (zw_ret none (kS 42) ki_92 kl_3 kr_41) := kc_29_X9_init (d := 5)
  have hl9 : Cond.methodLink RL 9 mm_X9_init.1 ∈ zx_G ∧ Cond.instanceMethod mm_X9_init.1 ∈ zx_G ∧ Cond.initialized mm_X9_init.1.cls ∈ zx_G ∧ mm_X9_init.1.name = "<init>" ∧ zcP mm_X9_init.1 0 := ⟨lm_9, zi_X9_init, zn_X9, rfl, zp_X9_init⟩
  have K := lw_callJ (p := p) (l := l) (e := e) (m := m) (below := below) (meth := meth) (c := c) (ls := ls) (Z := Z) (pc := 4) (cells := 1) (slots := 11) (av := []) (rest := [.ref q1]) (locs := locs) hx hb hml hown htg hl9 gd_X9_init rfl rfl hc ⟨by omega, by omega⟩ (by show 1 + 0 ≤ 8; omega) (dL1 rfl) hls X1 hS1 hA hav
  refine K (fun r S' I' L' R' ad1 H2 locs2 hq hn had X2 hS2 hz hk hf => ?_)
  obtain ⟨rfl, rfl, rfl, rfl, rfl⟩ := hq
  rw [kr_RC, kS_42] at X2
  exact kk q1 ad1 H2 locs2 (had 0 (by decide)) X2 hS2
/-- the model's object and its constructor -/
theorem ws_2 {D : va_G} {cA : Nat → ClassId} {ad1 : Nat → Nat} {H : Heap} {locs : List Loc} {J1 J : zx_I} {M : zx_L} (C : LWC p s m c b n xs) (hls : ls.size = 4) (e1 : mf_firstHouse 1000 kmi_0 = some J1) (e2 : mf_layDown 1000 J1 kml_0 = some (J, M)) (X : zx_X D cA (fun q : Nat => s.heap.size ≤ q) ad1 zw_SC ki_92 kl_3 (zw_RC 4 14 none) s H) (hS : va_S (fun q : Nat => s.heap.size ≤ q) s.heap H locs)
    (kk : ∀ (q2 : Nat) (ad2 : Nat → Nat) (H4 : Heap) (locs4 : List Loc), ad2 0 = q2 → LX D cA ad1 ad2 4 14 none ki_92 kl_3 J M b n xs s H4 → va_S (fun q : Nat => s.heap.size ≤ q) s.heap H4 locs4 → W p l e room_1 s m #[Value.ref b] below meth c H4 locs4 62 1407 Z (F0 m 15 ls [.ref q2])) : W p l e room_1 s m #[Value.ref b] below meth c H locs 42 741 Z (F0 m 8 ls []) := by
  obtain ⟨hx, hb, hml, hown, htg, hX, hbl⟩ := id C
  have hA : ∀ q : Nat, s.heap.size ≤ q → (fun q : Nat => s.heap.size ≤ q) q := fun _ h => h
  refine lw_new (ci := 10) (N := 36) (ws := zx_W cA ad1 zw_SC ki_92 kl_3 (zw_RC 4 14 none)) (rest := []) hx hb hown htg (dL1 rfl) zk_10 lx_10 zib_10 zn_X10 X.2.2.1 X.1 X.2.1 hS hA ⟨by omega, by omega⟩ (fun q2 H3 hP3 hD3 hS3 => ?_)
  obtain ⟨⟨hP4, hD4⟩, ⟨hP5, hD5⟩, hne⟩ := sz_two hP3 hD3
  have X3 : zx_X D cA (fun q : Nat => s.heap.size ≤ q) ad1 zw_SC ki_92 kl_3 (zw_RC 4 14 none) s H3 := ⟨hP4, hD4, X.2.2.1, X.2.2.2.1, X.2.2.2.2⟩
  refine lv_dup hx hb (dL1 rfl) rfl ?_
  have Y1 : zx_X D cA (fun q : Nat => s.heap.size ≤ q) (fun _ => q2) (kT 1) kmi_0 kml_0 kmr_0 s H3 := by
    rw [kT_1]
    exact sz_one (by decide) hP5 hD5 X.2.2.1 X.2.2.2.1
  have hav : zx_oks (kT 1).length [Value.ref 0] := fun w hw => by
    rcases List.mem_cons.mp hw with rfl | hw
    · show 0 < (kT 1).length
      decide
    · cases hw
  have hc : zx_M0 mm_X10_init 8 19 630 [.ref 0] (kT 1) kmi_0 kml_0 kmr_0 (zw_ret none zw_SM J M zw_RM) := kmc_init (d := 7) e1 e2
  have hl9 : Cond.methodLink RL 12 mm_X10_init.1 ∈ zx_G ∧ Cond.instanceMethod mm_X10_init.1 ∈ zx_G ∧ Cond.initialized mm_X10_init.1.cls ∈ zx_G ∧ mm_X10_init.1.name = "<init>" ∧ zcP mm_X10_init.1 0 := ⟨lm_12, zi_X10_init, zn_X10, rfl, zp_X10_init⟩
  have K := lw_callJ (p := p) (l := l) (e := e) (m := m) (below := below) (meth := meth) (c := c) (ls := ls) (Z := Z) (pc := 12) (cells := 43) (slots := 777) (av := []) (rest := [.ref q2]) (locs := locs) hx hb hml hown htg hl9 gd_X10_init rfl rfl hc ⟨by omega, by omega⟩ (by show 1 + 0 ≤ 8; omega) (dL1 rfl) hls Y1 hS3 hA hav
  refine K (fun r S' I' L' R' ad2 H4 locs4 hq hn had Y2 hS4 hz hk hf => ?_)
  obtain ⟨h1, h2, h3, h4, h5⟩ := hq
  rw [h2, h3, h4, h5] at Y2
  rw [h2] at hf
  rw [h1]
  have hap : ∀ i, i < 42 → ad1 i ≠ q2 := fun i hi => by
    have h1 : zw_SC[i]? = some zw_SC[i] := List.getElem?_eq_some_iff.mpr ⟨hi, rfl⟩
    exact hne i _ (zx_W_get (cA := cA) (ad := ad1) (I := ki_92) (L := kl_3) (R := zw_RC 4 14 none) h1)
  have X4 := lw_keep X3 (fun i hi => hk _ (lw_cell X3 hi).1 (fun _ _ w => hap i hi w))
  have hfar : ∀ i j, i < 42 → j < 20 → ad1 i ≠ ad2 j := fun i j hi hj w => by
    rcases hf j hj with ⟨_, _, z⟩ | z
    · exact hap i hi (w.trans z)
    · have := (lw_cell X3 (i := i) hi).1
      omega
  exact kk q2 ad2 H4 locs4 (had 0 (by decide)) ⟨X4, Y2, hfar, hX.kept (hS4.2.1 b hbl (Nat.not_le.mpr hbl)), hbl, hS4.1⟩ hS4
end
theorem whole_start {p : Program} {e : Env} {s : State} {m : MethodId} {below : List Frame} {meth : Method} {c : Code} (l : Launch) (hflags : l.flags = flags0) {b L : Nat} {xs : Nat → Int32} (hL : L ≤ 320) (C0 : lw_At p s m meth c b L xs) : W p l e room_1 s m #[Value.ref b] below meth c s.heap [] 0 0 (lw_Z below #[Value.ref b] s) (entryFrame m ([Value.ref b] : List Value).toArray 4) := by
  obtain ⟨hx, hb, hr, hml, hown, hts, hX, hbl, hlocks, hgv⟩ := id C0
  have htg : ∀ w ∈ zx_G, w.before #[Value.ref b] s = true := fun w hw => hts w (List.mem_filter.mp hw).1
  have hnw : ∀ w ∈ zx_N, va_Nw w s := fun w hw => sz_nw (zg_nest w hw) (hts w (List.mem_filter.mp hw).1)
  obtain ⟨D, cA, hK⟩ := sz_K htg hnw
  have C : LWC p s m c b L xs := ⟨hx, hb, hml, hown, htg, hX, hbl⟩
  obtain ⟨J1, J, e1, e2, hW⟩ := both_start
  have hS0 : va_S (fun q : Nat => s.heap.size ≤ q) s.heap s.heap [] := va_S.rf
  have hl := lv_entry ([.ref b]) (n := 4) (Nat.le_of_ble_eq_true rfl)
  rw [lg_entry_eq]
  generalize (lg_sl ([.ref b]) ++ List.replicate (4 - (lg_sl ([.ref b])).length) Slot.unset).toArray = ls at hl ⊢
  have hl : lv_has ls 4 [(0, .ref b)] := hl
  refine ws_1 C hl.1 hK hnw hS0 (fun q1 ad1 H2 locs2 a1 X2 hS2 => ?_)
  refine lv_astore_n (lv' := [(1, .ref q1), (0, .ref b)]) hx hb (dL1 rfl) rfl hl (by decide) rfl (fun ls hl => ?_)
  refine ws_2 C hl.1 e1 e2 X2 hS2 (fun q2 ad2 H4 locs4 a2 XX hS4 => ?_)
  refine lv_astore_n (lv' := [(2, .ref q2), (1, .ref q1), (0, .ref b)]) hx hb (dL1 rfl) rfl hl (by decide) rfl (fun ls hl => ?_)
  refine lv_iconst (v := nI 0) hx hb (dL1 rfl) (by decide) ?_
  refine lv_istore_n (lv' := [(3, .int (nI 0)), (2, .ref q2), (1, .ref q1), (0, .ref b)]) hx hb (dL1 rfl) rfl hl (by decide) rfl (fun ls hl => ?_)
  refine W.widen (k := 600000) (n := 7302250) (Nat.le_of_ble_eq_true rfl) (Nat.le_of_ble_eq_true rfl) ?_
  have hl9 : lv_has ls 4 (lwl b (ad1 0) (ad2 0) 0) := by
    rw [a1, a2]
    exact lv_sub hl [3, 2, 1, 0] rfl
  exact law_loop C hr hlocks hL (L + 1) 0 (by omega) (by omega) D cA ad1 ad2 H4 locs4 4 14 none ki_92 kl_3 J (zx_uL kml_0 0 9 0) ls hl9 XX hS4 hW
