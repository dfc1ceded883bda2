/-! the law: the constructors' calls; both worlds side by side -/
theorem lw_callI {p : Program} {l : Launch} {e : Env} {s : State} {m : MethodId} {below : List Frame} {meth : Method} {c : Code} {b : Nat} {D : va_G} {cA : Nat → ClassId} {A : Nat → Prop} {ad : Nat → Nat} {H : Heap} {locs : List Loc} {ls : Array Slot} {cells slots pc : Nat} {Z : State → Prop} {M' : zx_M} {idx np mc' ms' : Nat} {av rest : List Value} {S : zx_S} {I : zx_I} {L : zx_L} {R : zx_R} {Q' : zx_Qt}
    (hx : p.tables.exec = Jvm.exec) (hb : c.code = code) (hml : c.maxLocals = 4) (hown : s.vm.findClass RL = some m.cls) (hts : ∀ w ∈ zx_G, w.before #[Value.ref b] s = true)
    (hl : Cond.methodLink RL idx M'.1 ∈ zx_G ∧ Cond.instanceMethod M'.1 ∈ zx_G ∧ Cond.initialized M'.1.cls ∈ zx_G ∧ M'.1.name = "<init>" ∧ zcP M'.1 np) (hg' : zx_good M') (hret : M'.2.2.2.1 = none) (hnp : av.length = np) (hc : zx_M0 M' 8 mc' ms' (.ref 0 :: av) S I L R Q') (hbd : cells + mc' ≤ 600000 ∧ slots + ms' ≤ 7302250) (hw : (rest.map fun v => v.category).sum ≤ 8) (hd : decode code pc = .ok (.invokespecial idx, 3)) (hls : ls.size = 4)
    (hX : zx_X D cA A ad S I L R s H) (hS : va_S A s.heap H locs) (hA : ∀ q, s.heap.size ≤ q → A q) (hav : zx_oks S.length (.ref 0 :: av))
    (kk : ∀ r S' I' L' R' ad' H' locs', Q' r S' I' L' R' → S.length ≤ S'.length → (∀ i, i < S.length → ad' i = ad i) → zx_X D cA A ad' S' I' L' R' s H' → va_S A s.heap H' locs' → H.size ≤ H'.size → (∀ q : Nat, q < H.size → (∀ i, i < S.length → q ≠ ad i) → H'[q]? = H[q]?) → W p l e room_1 s m #[Value.ref b] below meth c H' locs' (cells + mc') (slots + ms') Z (F0 m (pc + 3) ls ((r.map (zx_rl ad')).toList ++ rest))) :
    W p l e room_1 s m #[Value.ref b] below meth c H locs cells slots Z (F0 m pc ls ((av.map (zx_rl ad)).reverse ++ .ref (ad 0) :: rest)) := by
  obtain ⟨w1, w2, w4, hini, hp1, hp2, hp3⟩ := hl
  have hG : GoodIn zx_G (zx_ws M') := zg_in (zg_ws hg')
  have hwsn : zx_ws M' = Cond.code M'.1 M'.2.1 M'.2.2.1 none :: zx_G := by unfold zx_ws; rw [hret]
  have hR : (zx_rm 8 mc' ms').frames + 1 ≤ room_1.frames ∧ 8 + (M'.2.2.1 + 11) + (zx_rm 8 mc' ms').locals ≤ room_1.locals := ⟨by show 8 + 1 ≤ 10; omega, by
    have := hg'.2.2.2.2
    show 8 + (M'.2.2.1 + 11) + 40 * 8 ≤ 412
    omega⟩
  have cw := cwI (R := room_1) (mc := mc') (ms := ms') (rm := zx_rm 8 mc' ms') (ws' := zx_G) (bytes := M'.2.1) (maxL := M'.2.2.1) np hts hG hwsn rfl rfl (hts _ w4) (hts _ w1) (hts _ w2) hini ⟨hp1, hp2, hp3⟩ hR
  have hpre : PreS s H (va_Pc ((.ref 0 :: av).map (zx_rl ad)) (fun U => U.heap.size = H.size ∧ zx_X D cA (fun _ => True) ad S I L R U U.heap)) (.ref (ad 0) :: av.map (zx_rl ad)) := ⟨zx_blind, fun U hU hW => ⟨rfl, zx_pre hX hU hW⟩⟩
  have hrun := va_runI (As := av.map (zx_rl ad)) (rest := rest) (g := F0 m pc ls ((av.map (zx_rl ad)).reverse ++ .ref (ad 0) :: rest)) (cells := cells) (slots := slots) ⟨hx, hb, hml, hown, hts⟩ (hc l D cA ad H.size hav) cw hpre rfl (by rw [List.length_map]; exact hnp) hls rfl (lv_room (pc := pc) (ls := ls) (rest := (av.map (zx_rl ad)).reverse ++ .ref (ad 0) :: rest) (m := m) hw) hd hbd (locs := locs) (below := below) (meth := meth) (e := e)
  intro T' hT X
  obtain ⟨v, st₀, t, T2, Lc, h0, X', hL, e1, e2, ⟨⟨r, S', I', L', R', ad', ho, hq, hnn, hadd, hokr, hX'⟩, hz, hk⟩, stp⟩ := hrun T' hT X
  have hv : v = r.map (zx_rl ad') := by cases ho; rfl
  subst hv
  have hFc : ∀ q, va_A (zx_W cA ad S I L R) H.size q → A q := by
    intro q h
    rcases h with ⟨k, x, h⟩ | h
    · exact hX.2.1.2 k (q, x) h
    · exact hA q (Nat.le_trans hS.1 h)
  have hS' : va_S A s.heap T2.heap (locs ++ Lc) := ⟨Nat.le_trans hS.1 (by rw [e1, ← h0]; exact hz), fun q h1 h2 => by
    rw [e1, hk q (by rw [h0]; exact Nat.lt_of_lt_of_le h1 hS.1) (fun z => h2 (hFc q z)), h0]
    exact hS.2.1 q h1 h2, fun q hq => by
    rcases List.mem_append.mp hq with h | h
    · exact hS.2.2 q h
    · exact hFc _ (hL q h)⟩
  have hX2 : zx_X D cA A ad' S' I' L' R' s T2.heap := ⟨by rw [e1]; exact hX'.1, hX'.2.1.weaken (fun _ q _ h => hFc q.1 h), hX.2.2.1, hX.2.2.2.1, hX'.2.2.2.2⟩
  obtain ⟨t2, a1, b1⟩ := kk r S' I' L' R' ad' T2.heap (locs ++ Lc) hq hnn hadd hX2 hS' (by rw [e1, ← h0]; exact hz) (fun q h1 h2 => by
    rw [e1, hk q (by rw [h0]; exact h1) (fun z => ?_), h0]
    rcases z with ⟨k, x, z⟩ | z
    · obtain ⟨z1, z2⟩ := lw_adr z
      exact h2 k z1 z2
    · omega) T2 rfl X'
  exact ⟨t2, stp t2 a1, b1⟩
theorem lw_cell {D : va_G} {cA : Nat → ClassId} {A : Nat → Prop} {ad : Nat → Nat} {S : zx_S} {I : zx_I} {L : zx_L} {R : zx_R} {s : State} {H : Heap} (hX : zx_X D cA A ad S I L R s H) {i : Nat} (hi : i < S.length) : ad i < H.size ∧ A (ad i) := by
  have h1 : S[i]? = some S[i] := List.getElem?_eq_some_iff.mpr ⟨hi, rfl⟩
  have h2 := zx_W_get (cA := cA) (ad := ad) (I := I) (L := L) (R := R) h1
  exact ⟨(hX.1 i _ h2).lt, hX.2.1.2 i _ h2⟩
theorem lw_keep {D : va_G} {cA : Nat → ClassId} {A : Nat → Prop} {ad : Nat → Nat} {S : zx_S} {I : zx_I} {L : zx_L} {R : zx_R} {s : State} {H H' : Heap} (hX : zx_X D cA A ad S I L R s H) (hk : ∀ i, i < S.length → H'[ad i]? = H[ad i]?) : zx_X D cA A ad S I L R s H' :=
  ⟨hX.1.kept (fun k q hq => by
    obtain ⟨z1, z2⟩ := lw_adr (q := q.1) (e := q.2) hq
    rw [z2]
    exact hk k z1), hX.2⟩
/-- the law's world: the class's cells, the model's, the script -/
def LX (D : va_G) (cA : Nat → ClassId) (ad1 ad2 : Nat → Nat) (h sp : Nat) (la : Option Nat) (I : zx_I) (L : zx_L) (J : zx_I) (M : zx_L) (b n : Nat) (xs : Nat → Int32) (s : State) (H : Heap) : Prop :=
  zx_X D cA (fun q => s.heap.size ≤ q) ad1 zw_SC I L (zw_RC h sp la) s H ∧ zx_X D cA (fun q => s.heap.size ≤ q) ad2 zw_SM J M zw_RM s H ∧ (∀ i j, i < 42 → j < 20 → ad1 i ≠ ad2 j) ∧ va_X b n xs s H ∧ b < s.heap.size ∧ s.heap.size ≤ H.size
theorem LX_C {D : va_G} {cA : Nat → ClassId} {ad1 ad1' ad2 : Nat → Nat} {h sp h' sp' : Nat} {la la' : Option Nat} {I I' : zx_I} {L L' : zx_L} {J : zx_I} {M : zx_L} {b n : Nat} {xs : Nat → Int32} {s : State} {H H' : Heap} (X : LX D cA ad1 ad2 h sp la I L J M b n xs s H) (had : ∀ i, i < zw_SC.length → ad1' i = ad1 i) (hX : zx_X D cA (fun q => s.heap.size ≤ q) ad1' zw_SC I' L' (zw_RC h' sp' la') s H') (hz : H.size ≤ H'.size) (hk : ∀ q : Nat, q < H.size → (∀ i, i < zw_SC.length → q ≠ ad1 i) → H'[q]? = H[q]?) : LX D cA ad1' ad2 h' sp' la' I' L' J M b n xs s H' := by
  obtain ⟨x1, x2, x3, x4, x5, x6⟩ := X
  refine ⟨hX, lw_keep x2 (fun j hj => hk _ (lw_cell x2 hj).1 (fun i hi w => x3 i j hi hj w.symm)), fun i j hi hj => by rw [had i hi]; exact x3 i j hi hj, x4.kept (hk b (Nat.lt_of_lt_of_le x5 x6) (fun i hi w => ?_)), x5, Nat.le_trans x6 hz⟩
  have := (lw_cell x1 hi).2
  omega
theorem LX_M {D : va_G} {cA : Nat → ClassId} {ad1 ad2 ad2' : Nat → Nat} {h sp : Nat} {la : Option Nat} {I : zx_I} {L : zx_L} {J J' : zx_I} {M M' : zx_L} {b n : Nat} {xs : Nat → Int32} {s : State} {H H' : Heap} (X : LX D cA ad1 ad2 h sp la I L J M b n xs s H) (had : ∀ i, i < zw_SM.length → ad2' i = ad2 i) (hX : zx_X D cA (fun q => s.heap.size ≤ q) ad2' zw_SM J' M' zw_RM s H') (hz : H.size ≤ H'.size) (hk : ∀ q : Nat, q < H.size → (∀ i, i < zw_SM.length → q ≠ ad2 i) → H'[q]? = H[q]?) : LX D cA ad1 ad2' h sp la I L J' M' b n xs s H' := by
  obtain ⟨x1, x2, x3, x4, x5, x6⟩ := X
  refine ⟨lw_keep x1 (fun i hi => hk _ (lw_cell x1 hi).1 (fun j hj w => x3 i j hi hj w)), hX, fun i j hi hj => by rw [had j hj]; exact x3 i j hi hj, x4.kept (hk b (Nat.lt_of_lt_of_le x5 x6) (fun i hi w => ?_)), x5, Nat.le_trans x6 hz⟩
  have := (lw_cell x2 hi).2
  omega
