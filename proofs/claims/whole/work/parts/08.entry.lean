/-! entry of a method, calls, the JDK's copies and Math -/
def zx_arg : List Value → List (Option Value)
  | [] => []
  | v :: vs => if v.category = 2 then some v :: none :: zx_arg vs else some v :: zx_arg vs
def zx_ar (n : Nat) (av : List Value) : List (Option Value) := zx_arg av ++ List.replicate (n - (zx_arg av).length) none
theorem zx_arg_at {ad : Nat → Nat} : ∀ (av : List Value) (k i : Nat) (v : Value), (zx_arg av)[i]? = some (some v) → (k + i, zx_rl ad v) ∈ lv_args k (av.map (zx_rl ad))
  | [], _, _, _, h => by simp [zx_arg] at h
  | w :: vs, k, i, v, h => by
    unfold zx_arg at h
    rw [List.map_cons]
    unfold lv_args
    rw [zx_rl_cat]
    by_cases hw : w.category = 2
    · rw [if_pos hw] at h ⊢
      match i, h with
      | 0, h => cases h; exact List.mem_cons_self
      | 1, h => cases h
      | i + 2, h =>
        have := zx_arg_at (ad := ad) vs (k + 2) i v h
        rw [show k + (i + 2) = k + 2 + i by omega]
        exact List.mem_cons_of_mem _ this
    · rw [if_neg hw] at h ⊢
      match i, h with
      | 0, h => cases h; exact List.mem_cons_self
      | i + 1, h =>
        have := zx_arg_at (ad := ad) vs (k + 1) i v h
        rw [show k + (i + 1) = k + 1 + i by omega]
        exact List.mem_cons_of_mem _ this
theorem zx_arg_len {ad : Nat → Nat} (av : List Value) : (lg_sl (av.map (zx_rl ad))).length = (zx_arg av).length := by
  induction av with
  | nil => rfl
  | cons v vs ih =>
    have e : lg_sl ((v :: vs).map (zx_rl ad)) = (if (zx_rl ad v).category = 2 then [Slot.val (zx_rl ad v), .second] else [.val (zx_rl ad v)]) ++ lg_sl (vs.map (zx_rl ad)) := by simp [lg_sl]
    rw [e, List.length_append, ih, zx_rl_cat]
    rw [show zx_arg (v :: vs) = if v.category = 2 then some v :: none :: zx_arg vs else some v :: zx_arg vs from rfl]
    by_cases hv : v.category = 2
    · simp [hv]; omega
    · simp [hv]; omega
theorem zx_arg_mem : ∀ (av : List Value) (i : Nat) (v : Value), (zx_arg av)[i]? = some (some v) → v ∈ av
  | [], _, _, h => by simp [zx_arg] at h
  | w :: vs, i, v, h => by
    unfold zx_arg at h
    by_cases hw : w.category = 2
    · rw [if_pos hw] at h
      match i, h with
      | 0, h => cases h; exact List.mem_cons_self
      | 1, h => cases h
      | i + 2, h => exact List.mem_cons_of_mem _ (zx_arg_mem vs i v h)
    · rw [if_neg hw] at h
      match i, h with
      | 0, h => cases h; exact List.mem_cons_self
      | i + 1, h => exact List.mem_cons_of_mem _ (zx_arg_mem vs i v h)
theorem zx_ar_some {n i : Nat} {av : List Value} {v : Value} (h : (zx_ar n av)[i]? = some (some v)) : (zx_arg av)[i]? = some (some v) := by
  unfold zx_ar at h
  by_cases hi : i < (zx_arg av).length
  · rwa [List.getElem?_append_left hi] at h
  · rw [List.getElem?_append_right (by omega), List.getElem?_replicate] at h
    split at h <;> cases h
theorem zv_entry {M : zx_M} {d mc ms : Nat} {Q : zx_Qt} {S : zx_S} {I : zx_I} {L : zx_L} {R : zx_R} {av : List Value} (hg : zx_good M) (hn : (zx_arg av).length ≤ M.2.2.1) (h : zx_V M d (0, 0, mc, ms) Q S 0 (zx_ar M.2.2.1 av) [] I L R) : zx_M0 M d mc ms av S I L R Q := by
  intro l D cA ad sz hoa
  refine Met.ofW (cc := M.2.1) (maxL := M.2.2.1) (ret := M.2.2.2.1) hg.2.2.1 rfl ?_
  intro p e s m args below meth c s₁ B hml hv
  obtain ⟨rfl, hsz, hX⟩ := hv
  have hts := atoms_spec (ws := zx_ws M) B.pre
  subst hsz
  have hX' : zx_X D cA (va_A (zx_W cA ad S I L R) s.heap.size) ad S I L R s s.heap := ⟨hX.1, hX.2.1.self, hX.2.2⟩
  have hlen : (lg_sl (av.map (zx_rl ad))).length ≤ M.2.2.1 := by rw [zx_arg_len]; exact hn
  have hl := lv_entry (av.map (zx_rl ad)) (n := M.2.2.1) hlen
  rw [lg_entry_eq]
  generalize (lg_sl (av.map (zx_rl ad)) ++ List.replicate (M.2.2.1 - (lg_sl (av.map (zx_rl ad))).length) Slot.unset).toArray = ls at hl ⊢
  have hlo : zx_lo ad M.2.2.1 (zx_ar M.2.2.1 av) ls := ⟨hl.1, hl.2.1, by unfold zx_ar; rw [List.length_append, List.length_replicate]; omega, fun i v hv => by
    have := hl.2.2 _ (zx_arg_at (ad := ad) av 0 i v (zx_ar_some hv))
    rwa [Nat.zero_add] at this⟩
  exact h p l e s m _ below meth c D cA _ ad ad S.length s.heap [] ls hg ⟨B.exec, B.bytes, B.returns, hml, findClass_of_methodNamed B.named, fun w hw => hts w (List.mem_cons_of_mem _ hw), B.notSynchronized, (name_of_methodNamed B.named B.method).1⟩ hX' va_S.rf (fun q hq => Or.inr hq) hlo (fun i v hv => hoa v (zx_arg_mem av i v (zx_ar_some hv))) (fun v hv => by cases hv) (Nat.le_refl _) (fun _ _ => rfl)
theorem zg_in {l : List Cond} (h : ∀ w ∈ l, w ∈ zx_G) : GoodIn zx_G l := fun w hw => ⟨h w hw, good_of_word (zg_good w (h w hw))⟩
theorem zg_ws {M : zx_M} (hg : zx_good M) : ∀ w ∈ zx_ws M, w ∈ zx_G := fun w hw => by
  rcases List.mem_cons.mp hw with rfl | hw
  · exact hg.2.1
  · exact hw
section
variable {M : zx_M} {d : Nat} {b : zx_B} {Q : zx_Qt} {S : zx_S} {pc : Nat} {lo : List (Option Value)} {st : List Value} {I : zx_I} {L : zx_L} {R : zx_R}
/-- what stands behind a call -/
theorem zx_behind {p : Program} {l : Launch} {e : Env} {s : State} {m : MethodId} {args : Array Value} {below : List Frame} {meth : Method} {c : Code} {D : va_G} {cA : Nat → ClassId} {A : Nat → Prop} {ad0 ad : Nat → Nat} {n0 : Nat} {H : Heap} {locs : List Loc} {ls : Array Slot} {stc : List Value} {mc' ms' : Nat} {Q' : zx_Qt} {aa : Array Value}
    (hg : zx_good M) (hC : zx_C M p s m args meth c) (hX : zx_X D cA A ad S I L R s H) (hS : va_S A s.heap H locs) (hA : ∀ q, s.heap.size ≤ q → A q) (hl : zx_lo ad M.2.2.1 lo ls) (hol : zx_okl S.length lo) (hos : zx_oks S.length st) (hn0 : n0 ≤ S.length) (had : ∀ i, i < n0 → ad i = ad0 i)
    (hrun : va_Run p l e (zx_rm (d + 1) b.2.2.1 b.2.2.2) s m args below meth c H locs b.1 b.2.1 mc' ms' (F0 m pc ls stc) (st.map (zx_rl ad)) (zx_Q D cA (va_A (zx_W cA ad S I L R) H.size) ad S.length Q' aa) (va_A (zx_W cA ad S I L R) H.size))
    (kk : ∀ r S' I' L' R', Q' r S' I' L' R' → zx_V M (d + 1) (b.1 + mc', b.2.1 + ms', b.2.2) Q S' (pc + 3) lo (r.toList ++ st) I' L' R') :
    W p l e (zx_rm (d + 1) b.2.2.1 b.2.2.2) s m args below meth c H locs b.1 b.2.1 (MQ below (zx_Q D cA A ad0 n0 Q) args s b.2.2.1 b.2.2.2 A) (F0 m pc ls stc) := by
  intro T hT X
  obtain ⟨v, st₀, t, T', Lc, h0, X', hL, e1, e2, ⟨⟨r, S', I', L', R', ad', ho, hq, hnn, hadd, hokr, hX'⟩, hz, hk⟩, stp⟩ := hrun T hT X
  have hv : v = r.map (zx_rl ad') := by cases ho; rfl
  subst hv
  have hFc : ∀ q, va_A (zx_W cA ad S I L R) H.size q → A q := by
    intro q h
    rcases h with ⟨k, x, h⟩ | h
    · exact hX.2.1.2 k (q, x) h
    · exact hA q (Nat.le_trans hS.1 h)
  have hal := X'.warmed.alike
  have hS' : va_S A s.heap T'.heap (locs ++ Lc) := ⟨Nat.le_trans hS.1 (by rw [e1, ← h0]; exact hz), fun q h1 h2 => by
    rw [e1, hk q (by rw [h0]; exact Nat.lt_of_lt_of_le h1 hS.1) (fun z => h2 (hFc q z)), h0]
    exact hS.2.1 q h1 h2, fun q hq => by
    rcases List.mem_append.mp hq with h | h
    · exact hS.2.2 q h
    · exact hFc _ (hL q h)⟩
  have hX2 : zx_X D cA A ad' S' I' L' R' s T'.heap := ⟨by rw [e1]; exact hX'.1, hX'.2.1.weaken (fun _ q _ h => hFc q.1 h), hX.2.2.1, hX.2.2.2.1, hX'.2.2.2.2⟩
  have hoks : zx_oks S'.length (r.toList ++ st) := fun w hw => by
    rcases List.mem_append.mp hw with h | h
    · exact hokr w (by cases r with
        | none => cases h
        | some x => rcases List.mem_cons.mp h with rfl | h
                    · rfl
                    · cases h)
    · exact zx_ok_mono (hos w h) hnn
  obtain ⟨t2, a1, b1⟩ := kk r S' I' L' R' hq p l e s m args below meth c D cA A ad0 ad' n0 T'.heap (locs ++ Lc) ls hg hC hX2 hS' hA (zx_lo_ad hl hol hadd) (zx_okl_mono hol hnn) hoks (Nat.le_trans hn0 hnn) (fun i hi => by rw [hadd i (Nat.lt_of_lt_of_le hi hn0)]; exact had i hi) T' rfl X'
  refine ⟨t2, stp t2 ?_, b1⟩
  have e3 : (r.toList ++ st).map (zx_rl ad') = (r.map (zx_rl ad')).toList ++ st.map (zx_rl ad) := by
    rw [List.map_append, zo_ad hos hadd]
    cases r <;> rfl
  rw [e3] at a1
  exact a1
theorem zx_room {ad : Nat → Nat} {st : List Value} (h : (st.map fun v => v.category).sum ≤ 8) : ((st.map (zx_rl ad)).map fun v => v.category).sum ≤ 8 := by
  rw [List.map_map]
  have : ((fun v : Value => v.category) ∘ zx_rl ad) = fun v => v.category := funext fun v => zx_rl_cat ad v
  rw [this]
  exact h
theorem zx_nw_same {w : Cond} (hw : zx_nest w = true) {s U : State} (h : va_Nw w s) (hv : s.vm.Alike U.vm) (he : s.vm = U.vm) : va_Nw w U := by
  cases w with
  | fieldLinkNest a b c d e f => exact va_Nw.same rfl he h
  | methodLinkNest a b c d => exact va_Nw.same rfl he h
  | arrayOver t =>
    cases t with
    | object C => exact va_AO.moved hv h
    | _ => exact absurd hw (by simp [zx_nest])
  | _ => exact absurd hw (by simp [zx_nest])
theorem zx_blind {av : List Value} {sz : Nat} {D : va_G} {cA : Nat → ClassId} {ad : Nat → Nat} : FrameBlind (va_Pc av (fun U => U.heap.size = sz ∧ zx_X D cA (fun _ => True) ad S I L R U U.heap)) := fun a U g mk q => by
  obtain ⟨q0, q1, q2, q3, q4, q5, q6⟩ := q
  exact ⟨q0, q1, q2, q3, va_K.moved (u := U) (U := U.calling g mk a) (Vm.Alike.refl U.vm) q4, fun w hw => zx_nw_same (zg_nest w hw) (q5 w hw) (Vm.Alike.refl U.vm) rfl, q6⟩
theorem zx_pre {D : va_G} {cA : Nat → ClassId} {A : Nat → Prop} {ad : Nat → Nat} {s U : State} {H : Heap} (hX : zx_X D cA A ad S I L R s H) (hU : U.heap = H) (hW : s.WarmedH U.vm) : U.heap.size = H.size ∧ zx_X D cA (fun _ => True) ad S I L R U U.heap :=
  ⟨by rw [hU], by rw [hU]; exact hX.1, hX.2.1.weaken (fun _ _ _ _ => trivial), va_K.moved hW.alike hX.2.2.1, fun w hw => zx_nw_warm (zg_nest w hw) (hX.2.2.2.1 w hw) hW, hX.2.2.2.2⟩
theorem zv_callV {M' : zx_M} {idx np mc' ms' a ci n N : Nat} {T : u_T} {av : List Value} {Q' : zx_Qt} (hd : (pc, .invokevirtual idx, 3) ∈ M.2.2.2.2.2) (hl : zcV M.2.2.2.2.1 idx M'.1 np) (hg' : zx_good M') (hs : S[a]? = some (ci, n)) (hcn : vwCl[ci]? = some (M'.1.cls, T, N)) (hnp : av.length = np)
    (hc : zx_M0 M' d mc' ms' (.ref a :: av) S I L R Q') (hb : b.1 + mc' ≤ b.2.2.1 ∧ b.2.1 + ms' ≤ b.2.2.2) (hw : (st.map fun v => v.category).sum ≤ 8)
    (kk : ∀ r S' I' L' R', Q' r S' I' L' R' → zx_V M (d + 1) (b.1 + mc', b.2.1 + ms', b.2.2) Q S' (pc + 3) lo (r.toList ++ st) I' L' R') : zx_V M (d + 1) b Q S pc lo (av.reverse ++ .ref a :: st) I L R := by
  intro p l e s m args below meth c D cA A ad0 ad n0 H locs ls hg hC hX hS hA hll hol hos hn0 had
  have h9 := hg.1 _ hd
  obtain ⟨own, ho, w1, w2, w3, w4, hp1, hp2, hp3⟩ := hl
  have hown : own = M.1.cls := Option.some.inj (ho.symm.trans hg.2.2.2.1)
  subst hown
  have hoav : zx_oks S.length (.ref a :: av) := zo_c (hos _ (List.mem_append_right _ List.mem_cons_self)) (fun v hv => hos v (List.mem_append_left _ (List.mem_reverse.mpr hv)))
  have host : zx_oks S.length st := fun v hv => hos v (List.mem_append_right _ (List.mem_cons_of_mem _ hv))
  have hci : ci < 100 := Nat.lt_of_lt_of_le (List.getElem?_eq_some_iff.mp hcn).1 (by decide)
  have he : (zx_W cA ad S I L R)[a]? = some (ad a, .inr (ci, zx_fs ad (I a) (L a) (R a) (zt_T.getD ci []) 0)) := by
    rw [zx_W_get hs, show zx_e cA ad (I a) (L a) (R a) (ci, n) = .inr (ci, zx_fs ad (I a) (L a) (R a) (zt_T.getD ci []) 0) from if_pos hci]
  have hG : GoodIn zx_G (wsV M.1.cls idx M'.1.cls M'.1 (zx_ws M')) := zg_in (fun w hw => by
    unfold wsV at hw
    rcases List.mem_append.mp hw with h | h
    · simp only [List.mem_cons, List.not_mem_nil, or_false] at h
      rcases h with rfl | rfl | rfl | rfl
      · exact w1
      · exact w2
      · exact w3
      · exact w4
    · exact zg_ws hg' w h)
  have hR : (zx_rm d mc' ms').frames + 1 ≤ (zx_rm (d + 1) b.2.2.1 b.2.2.2).frames ∧ 8 + (M'.2.2.1 + 11) + (zx_rm d mc' ms').locals ≤ (zx_rm (d + 1) b.2.2.1 b.2.2.2).locals := ⟨Nat.le_refl _, by
    have := hg'.2.2.2.2
    show 8 + (M'.2.2.1 + 11) + 40 * d ≤ 40 * (d + 1)
    omega⟩
  have cw := cwV (R := zx_rm (d + 1) b.2.2.1 b.2.2.2) (mc := mc') (ms := ms') (rm := zx_rm d mc' ms') (ws' := zx_G) (bytes := M'.2.1) (maxL := M'.2.2.1) (ret := M'.2.2.2.1) np hC.2.2.2.2.2.1 hG rfl rfl rfl ⟨rfl, hp1, hp2, hp3⟩ hR
  have hrecv := va_recv hX.2.2.1 hX.1 hcn he
  have hrun := va_runV (As := av.map (zx_rl ad)) (rest := st.map (zx_rl ad)) (g := F0 m pc ls ((av.reverse ++ .ref a :: st).map (zx_rl ad))) (cells := b.1) (slots := b.2.1) ⟨hC.1, hC.2.1, hC.2.2.2.1, hC.2.2.2.2.1, hC.2.2.2.2.2.1⟩ (hc l D cA ad H.size hoav) cw ⟨zx_blind, hrecv, fun U hU hW => ⟨rfl, zx_pre hX hU hW⟩⟩ rfl (by rw [List.length_map]; exact hnp) hll.1 (by show ((av.reverse ++ .ref a :: st).map (zx_rl ad)) = _; rw [List.map_append, List.map_reverse]; rfl) (lv_room (pc := pc) (ls := ls) (rest := (av.reverse ++ .ref a :: st).map (zx_rl ad)) (m := m) (zx_room hw)) h9 hb (locs := locs) (H := H) (below := below) (meth := meth) (e := e)
  exact zx_behind hg hC hX hS hA hll hol host hn0 had hrun kk
theorem zv_callS {M' : zx_M} {idx np mc' ms' : Nat} {av : List Value} {Q' : zx_Qt} (hd : (pc, .invokestatic idx, 3) ∈ M.2.2.2.2.2) (hl : zcS M.2.2.2.2.1 idx M'.1 np) (hg' : zx_good M') (hnp : av.length = np)
    (hc : zx_M0 M' d mc' ms' av S I L R Q') (hb : b.1 + mc' ≤ b.2.2.1 ∧ b.2.1 + ms' ≤ b.2.2.2) (hw : (st.map fun v => v.category).sum ≤ 8)
    (kk : ∀ r S' I' L' R', Q' r S' I' L' R' → zx_V M (d + 1) (b.1 + mc', b.2.1 + ms', b.2.2) Q S' (pc + 3) lo (r.toList ++ st) I' L' R') : zx_V M (d + 1) b Q S pc lo (av.reverse ++ st) I L R := by
  intro p l e s m args below meth c D cA A ad0 ad n0 H locs ls hg hC hX hS hA hll hol hos hn0 had
  have h9 := hg.1 _ hd
  obtain ⟨own, ho, w1, w2, w4, hp1, hp2, hp3⟩ := hl
  have hown : own = M.1.cls := Option.some.inj (ho.symm.trans hg.2.2.2.1)
  subst hown
  have hoav : zx_oks S.length av := fun v hv => hos v (List.mem_append_left _ (List.mem_reverse.mpr hv))
  have host : zx_oks S.length st := fun v hv => hos v (List.mem_append_right _ hv)
  have hG : GoodIn zx_G (va_wsS M.1.cls idx M'.1 (zx_ws M')) := zg_in (fun w hw => by
    unfold va_wsS at hw
    rcases List.mem_append.mp hw with h | h
    · simp only [List.mem_cons, List.not_mem_nil, or_false] at h
      rcases h with rfl | rfl | rfl
      · exact w1
      · exact w2
      · exact w4
    · exact zg_ws hg' w h)
  have hR : (zx_rm d mc' ms').frames + 1 ≤ (zx_rm (d + 1) b.2.2.1 b.2.2.2).frames ∧ 8 + (M'.2.2.1 + 11) + (zx_rm d mc' ms').locals ≤ (zx_rm (d + 1) b.2.2.1 b.2.2.2).locals := ⟨Nat.le_refl _, by
    have := hg'.2.2.2.2
    show 8 + (M'.2.2.1 + 11) + 40 * d ≤ 40 * (d + 1)
    omega⟩
  have cw := va_cwS (R := zx_rm (d + 1) b.2.2.1 b.2.2.2) (mc := mc') (ms := ms') (rm := zx_rm d mc' ms') (ws' := zx_G) (bytes := M'.2.1) (maxL := M'.2.2.1) (ret := M'.2.2.2.1) np hC.2.2.2.2.2.1 hG rfl rfl rfl ⟨hp1, hp2, hp3⟩ hR
  have hrun := va_runS (As := av.map (zx_rl ad)) (rest := st.map (zx_rl ad)) (g := F0 m pc ls ((av.reverse ++ st).map (zx_rl ad))) (cells := b.1) (slots := b.2.1) ⟨hC.1, hC.2.1, hC.2.2.2.1, hC.2.2.2.2.1, hC.2.2.2.2.2.1⟩ (hc l D cA ad H.size hoav) cw ⟨zx_blind, fun U hU hW => ⟨rfl, zx_pre hX hU hW⟩⟩ rfl (by rw [List.length_map]; exact hnp) hll.1 (by show ((av.reverse ++ st).map (zx_rl ad)) = _; rw [List.map_append, List.map_reverse]) (lv_room (pc := pc) (ls := ls) (rest := (av.reverse ++ st).map (zx_rl ad)) (m := m) (zx_room hw)) h9 hb (locs := locs) (H := H) (below := below) (meth := meth) (e := e)
  exact zx_behind hg hC hX hS hA hll hol host hn0 had hrun kk
theorem zv_callI {M' : zx_M} {idx np mc' ms' a : Nat} {av : List Value} {Q' : zx_Qt} (hd : (pc, .invokespecial idx, 3) ∈ M.2.2.2.2.2) (hl : zcI M.2.2.2.2.1 idx M'.1 np) (hg' : zx_good M') (hret : M'.2.2.2.1 = none) (hnp : av.length = np)
    (hc : zx_M0 M' d mc' ms' (.ref a :: av) S I L R Q') (hb : b.1 + mc' ≤ b.2.2.1 ∧ b.2.1 + ms' ≤ b.2.2.2) (hw : (st.map fun v => v.category).sum ≤ 8)
    (kk : ∀ r S' I' L' R', Q' r S' I' L' R' → zx_V M (d + 1) (b.1 + mc', b.2.1 + ms', b.2.2) Q S' (pc + 3) lo (r.toList ++ st) I' L' R') : zx_V M (d + 1) b Q S pc lo (av.reverse ++ .ref a :: st) I L R := by
  intro p l e s m args below meth c D cA A ad0 ad n0 H locs ls hg hC hX hS hA hll hol hos hn0 had
  have h9 := hg.1 _ hd
  obtain ⟨own, ho, w1, w2, w4, hini, hp1, hp2, hp3⟩ := hl
  have hown : own = M.1.cls := Option.some.inj (ho.symm.trans hg.2.2.2.1)
  subst hown
  have hoav : zx_oks S.length (.ref a :: av) := zo_c (hos _ (List.mem_append_right _ List.mem_cons_self)) (fun v hv => hos v (List.mem_append_left _ (List.mem_reverse.mpr hv)))
  have host : zx_oks S.length st := fun v hv => hos v (List.mem_append_right _ (List.mem_cons_of_mem _ hv))
  have hG : GoodIn zx_G (zx_ws M') := zg_in (zg_ws hg')
  have hts := hC.2.2.2.2.2.1
  have hR : (zx_rm d mc' ms').frames + 1 ≤ (zx_rm (d + 1) b.2.2.1 b.2.2.2).frames ∧ 8 + (M'.2.2.1 + 11) + (zx_rm d mc' ms').locals ≤ (zx_rm (d + 1) b.2.2.1 b.2.2.2).locals := ⟨Nat.le_refl _, by
    have := hg'.2.2.2.2
    show 8 + (M'.2.2.1 + 11) + 40 * d ≤ 40 * (d + 1)
    omega⟩
  have hwsn : zx_ws M' = Cond.code M'.1 M'.2.1 M'.2.2.1 none :: zx_G := by unfold zx_ws; rw [hret]
  have hpre : PreS s H (va_Pc ((.ref a :: av).map (zx_rl ad)) (fun U => U.heap.size = H.size ∧ zx_X D cA (fun _ => True) ad S I L R U U.heap)) (.ref (ad a) :: av.map (zx_rl ad)) := ⟨zx_blind, fun U hU hW => ⟨rfl, zx_pre hX hU hW⟩⟩
  have hstk : (F0 m pc ls ((av.reverse ++ .ref a :: st).map (zx_rl ad))).stack = (av.map (zx_rl ad)).reverse ++ .ref (ad a) :: st.map (zx_rl ad) := by
    show ((av.reverse ++ .ref a :: st).map (zx_rl ad)) = _
    rw [List.map_append, List.map_reverse]; rfl
  rcases w1 with w1 | ⟨h, w1⟩
  · have cw := cwI (R := zx_rm (d + 1) b.2.2.1 b.2.2.2) (mc := mc') (ms := ms') (rm := zx_rm d mc' ms') (ws' := zx_G) (bytes := M'.2.1) (maxL := M'.2.2.1) np hts hG hwsn rfl rfl (hts _ w4) (hts _ w1) (hts _ w2) hini ⟨hp1, hp2, hp3⟩ hR
    have hrun := va_runI (As := av.map (zx_rl ad)) (rest := st.map (zx_rl ad)) (g := F0 m pc ls ((av.reverse ++ .ref a :: st).map (zx_rl ad))) (cells := b.1) (slots := b.2.1) ⟨hC.1, hC.2.1, hC.2.2.2.1, hC.2.2.2.2.1, hts⟩ (hc l D cA ad H.size hoav) cw hpre rfl (by rw [List.length_map]; exact hnp) hll.1 hstk (lv_room (pc := pc) (ls := ls) (rest := (av.reverse ++ .ref a :: st).map (zx_rl ad)) (m := m) (zx_room hw)) h9 hb (locs := locs) (below := below) (meth := meth) (e := e)
    exact zx_behind hg hC hX hS hA hll hol host hn0 had hrun kk
  · have cw := va_cnB (R := zx_rm (d + 1) b.2.2.1 b.2.2.2) (mc := mc') (ms := ms') (rm := zx_rm d mc' ms') (ws' := zx_G) (bytes := M'.2.1) (maxL := M'.2.2.1) (ret := none) np hts hG hwsn rfl rfl (hX.2.2.2.1 _ w1) (hts _ w4) ⟨hp1, hp2, hp3⟩ hR
    have hrun := va_runIN (As := av.map (zx_rl ad)) (rest := st.map (zx_rl ad)) (g := F0 m pc ls ((av.reverse ++ .ref a :: st).map (zx_rl ad))) (cells := b.1) (slots := b.2.1) ⟨hC.1, hC.2.1, hC.2.2.2.1, hC.2.2.2.2.1, hts⟩ (hc l D cA ad H.size hoav) ⟨cw, hini, hts _ w2⟩ hpre rfl (by rw [List.length_map]; exact hnp) hll.1 hstk (lv_room (pc := pc) (ls := ls) (rest := (av.reverse ++ .ref a :: st).map (zx_rl ad)) (m := m) (zx_room hw)) h9 hb (locs := locs) (below := below) (meth := meth) (e := e)
    exact zx_behind hg hC hX hS hA hll hol host hn0 had hrun kk
end
