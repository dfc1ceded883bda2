/-! the law: a call of one world -/
theorem lw_adr {cA : Nat → ClassId} {ad : Nat → Nat} {S : zx_S} {I : zx_I} {L : zx_L} {R : zx_R} {k q : Nat} {e : va_E} (h : (zx_W cA ad S I L R)[k]? = some (q, e)) : k < S.length ∧ q = ad k := by
  have hk : k < S.length := by
    have := (List.getElem?_eq_some_iff.mp h).1
    rw [zx_W_len] at this
    exact this
  refine ⟨hk, ?_⟩
  have h1 : S[k]? = some S[k] := List.getElem?_eq_some_iff.mpr ⟨hk, rfl⟩
  rw [zx_W_get h1] at h
  exact (congrArg Prod.fst (Option.some.inj h)).symm
theorem lw_callV {p : Program} {l : Launch} {e : Env} {s : State} {m : MethodId} {below : List Frame} {meth : Method} {c : Code} {b : Nat} {D : va_G} {cA : Nat → ClassId} {A : Nat → Prop} {ad : Nat → Nat} {H : Heap} {locs : List Loc} {ls : Array Slot} {cells slots pc : Nat} {Z : State → Prop} {M' : zx_M} {idx np mc' ms' ci n N : Nat} {T : u_T} {av rest : List Value} {S : zx_S} {I : zx_I} {L : zx_L} {R : zx_R} {Q' : zx_Qt}
    (hx : p.tables.exec = Jvm.exec) (hb : c.code = code) (hml : c.maxLocals = 4) (hown : s.vm.findClass RL = some m.cls) (hts : ∀ w ∈ zx_G, w.before #[Value.ref b] s = true)
    (hl : lcV idx M'.1 np) (hg' : zx_good M') (hs : S[0]? = some (ci, n)) (hcn : vwCl[ci]? = some (M'.1.cls, T, N)) (hnp : av.length = np) (hc : zx_M0 M' 8 mc' ms' (.ref 0 :: av) S I L R Q') (hbd : cells + mc' ≤ 600000 ∧ slots + ms' ≤ 7302250) (hw : (rest.map fun v => v.category).sum ≤ 8) (hd : decode code pc = .ok (.invokevirtual idx, 3)) (hls : ls.size = 4)
    (hX : zx_X D cA A ad S I L R s H) (hS : va_S A s.heap H locs) (hA : ∀ q, s.heap.size ≤ q → A q) (hav : zx_oks S.length (.ref 0 :: av))
    (kk : ∀ r S' I' L' R' ad' H' locs', Q' r S' I' L' R' → S.length ≤ S'.length → (∀ i, i < S.length → ad' i = ad i) → zx_X D cA A ad' S' I' L' R' s H' → va_S A s.heap H' locs' → H.size ≤ H'.size → (∀ q : Nat, q < H.size → (∀ i, i < S.length → q ≠ ad i) → H'[q]? = H[q]?) → W p l e room_1 s m #[Value.ref b] below meth c H' locs' (cells + mc') (slots + ms') Z (F0 m (pc + 3) ls ((r.map (zx_rl ad')).toList ++ rest))) :
    W p l e room_1 s m #[Value.ref b] below meth c H locs cells slots Z (F0 m pc ls ((av.map (zx_rl ad)).reverse ++ .ref (ad 0) :: rest)) := by
  obtain ⟨w1, w2, w3, w4, hp1, hp2, hp3⟩ := hl
  have hci : ci < 100 := Nat.lt_of_lt_of_le (List.getElem?_eq_some_iff.mp hcn).1 (by decide)
  have he : (zx_W cA ad S I L R)[0]? = some (ad 0, .inr (ci, zx_fs ad (I 0) (L 0) (R 0) (zt_T.getD ci []) 0)) := by
    rw [zx_W_get hs, show zx_e cA ad (I 0) (L 0) (R 0) (ci, n) = .inr (ci, zx_fs ad (I 0) (L 0) (R 0) (zt_T.getD ci []) 0) from if_pos hci]
  have hG : GoodIn zx_G (wsV RL idx M'.1.cls M'.1 (zx_ws M')) := zg_in (fun w hw => by
    unfold wsV at hw
    rcases List.mem_append.mp hw with h | h
    · simp only [List.mem_cons, List.not_mem_nil, or_false] at h
      rcases h with rfl | rfl | rfl | rfl
      · exact w1
      · exact w2
      · exact w3
      · exact w4
    · exact zg_ws hg' w h)
  have hR : (zx_rm 8 mc' ms').frames + 1 ≤ room_1.frames ∧ 8 + (M'.2.2.1 + 11) + (zx_rm 8 mc' ms').locals ≤ room_1.locals := ⟨by show 8 + 1 ≤ 10; omega, by
    have := hg'.2.2.2.2
    show 8 + (M'.2.2.1 + 11) + 40 * 8 ≤ 412
    omega⟩
  have cw := cwV (R := room_1) (mc := mc') (ms := ms') (rm := zx_rm 8 mc' ms') (ws' := zx_G) (bytes := M'.2.1) (maxL := M'.2.2.1) (ret := M'.2.2.2.1) np hts hG rfl rfl rfl ⟨rfl, hp1, hp2, hp3⟩ hR
  have hrecv := va_recv hX.2.2.1 hX.1 hcn he
  have hrun := va_runV (As := av.map (zx_rl ad)) (rest := rest) (g := F0 m pc ls ((av.map (zx_rl ad)).reverse ++ .ref (ad 0) :: rest)) (cells := cells) (slots := slots) ⟨hx, hb, hml, hown, hts⟩ (hc l D cA ad H.size hav) cw ⟨zx_blind, hrecv, fun U hU hW => ⟨rfl, zx_pre hX hU hW⟩⟩ rfl (by rw [List.length_map]; exact hnp) hls rfl (lv_room (pc := pc) (ls := ls) (rest := (av.map (zx_rl ad)).reverse ++ .ref (ad 0) :: rest) (m := m) hw) hd hbd (locs := locs) (H := H) (below := below) (meth := meth) (e := e)
  intro T' hT X
  obtain ⟨v, st₀, t, T2, Lc, h0, X', hL, e1, e2, ⟨⟨r, S', I', L', R', ad', ho, hq, hnn, hadd, hokr, hX'⟩, hz, hk⟩, stp⟩ := hrun T' hT X
  have hv : v = r.map (zx_rl ad') := by cases ho; rfl
  subst hv
  have hFc : ∀ q, va_A (zx_W cA ad S I L R) H.size q → A q := by
    intro q h
    rcases h with ⟨k, x, h⟩ | h
    · exact hX.2.1.2 k (q, x) h
    · exact hA q (Nat.le_trans hS.1 h)
  have hS' : va_S A s.heap T2.heap (locs ++ Lc) := ⟨Nat.le_trans hS.1 (by rw [e1, ← h0]; exact hz), fun q h1 h2 => by
    rw [e1, hk q (by rw [h0]; exact Nat.lt_of_lt_of_le h1 hS.1) (fun z => h2 (hFc q z)), h0]
    exact hS.2.1 q h1 h2, fun q hq => by
    rcases List.mem_append.mp hq with h | h
    · exact hS.2.2 q h
    · exact hFc _ (hL q h)⟩
  have hX2 : zx_X D cA A ad' S' I' L' R' s T2.heap := ⟨by rw [e1]; exact hX'.1, hX'.2.1.weaken (fun _ q _ h => hFc q.1 h), hX.2.2.1, hX.2.2.2.1, hX'.2.2.2.2⟩
  obtain ⟨t2, a1, b1⟩ := kk r S' I' L' R' ad' T2.heap (locs ++ Lc) hq hnn hadd hX2 hS' (by rw [e1, ← h0]; exact hz) (fun q h1 h2 => by
    rw [e1, hk q (by rw [h0]; exact h1) (fun z => ?_), h0]
    rcases z with ⟨k, x, z⟩ | z
    · obtain ⟨z1, z2⟩ := lw_adr z
      exact h2 k z1 z2
    · omega) T2 rfl X'
  exact ⟨t2, stp t2 a1, b1⟩
