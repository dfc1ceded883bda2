/-! a pure machine beside the kit's: cells by number, typed memories; what a state of it means on the heap -/
abbrev zx_I : Type := Nat → Nat → Int32
abbrev zx_L : Type := Nat → Nat → Int64
abbrev zx_R : Type := Nat → Nat → Option Nat
abbrev zx_S : Type := List (Nat × Nat)
abbrev zx_M : Type := MethodName × ByteArray × Nat × Option FieldType × Nat × List (Nat × Instr × Nat)
abbrev zx_B : Type := Nat × Nat × Nat × Nat
def zx_rl (ad : Nat → Nat) : Value → Value
  | .ref i => .ref (ad i)
  | v => v
def zx_v (ad : Nat → Nat) (I : Nat → Int32) (L : Nat → Int64) (R : Nat → Option Nat) (t k : Nat) : Value :=
  if t = 1 then .long (L k) else if t = 2 then va_rf ((R k).map ad) else .int (I k)
def zx_fs (ad : Nat → Nat) (I : Nat → Int32) (L : Nat → Int64) (R : Nat → Option Nat) : List Nat → Nat → List Value
  | [], _ => []
  | t :: ts, k => zx_v ad I L R t k :: zx_fs ad I L R ts (k + 1)
def zx_row (ad : Nat → Nat) (I : Nat → Int32) (L : Nat → Int64) (R : Nat → Option Nat) (kd : Nat) : ((Nat → Int32) ⊕ (Nat → Int64) ⊕ (Nat → UInt32) ⊕ (Nat → UInt64) ⊕ (Nat → Option Nat)) :=
  if kd = 102 then .inr (.inl L) else if 103 ≤ kd then .inr (.inr (.inr (.inr (fun j => (R j).map ad)))) else .inl I
def zx_e (cA : Nat → ClassId) (ad : Nat → Nat) (I : Nat → Int32) (L : Nat → Int64) (R : Nat → Option Nat) (sh : Nat × Nat) : va_E :=
  if sh.1 < 100 then .inr (sh.1, zx_fs ad I L R (zt_T.getD sh.1 []) 0) else .inl (cA sh.1, sh.2, zx_row ad I L R sh.1)
def zx_W (cA : Nat → ClassId) (ad : Nat → Nat) (S : zx_S) (I : zx_I) (L : zx_L) (R : zx_R) : va_W := S.mapIdx fun a sh => (ad a, zx_e cA ad (I a) (L a) (R a) sh)
def zx_ty (k : Nat) : FieldType := if k = 0 then .int else if k = 1 then .byte else if k = 2 then .long else if k = 3 then .object "BathNight$Bather" else .object "BathNight$Wishes"
def zx_tys (cA : Nat → ClassId) : List (ClassId × FieldType) := [(cA 100, .int), (cA 101, .byte), (cA 102, .long), (cA 103, .object "BathNight$Bather"), (cA 104, .object "BathNight$Wishes")]
def zx_nest (w : Cond) : Bool := match w with
  | .fieldLinkNest _ _ _ _ _ _ => true
  | .methodLinkNest _ _ _ _ => true
  | .arrayOver (.object _) => true
  | _ => false
def zx_N : List Cond := lw_tbl.filter zx_nest
def zx_G : List Cond := lw_tbl.filter goodWord
theorem zx_fs_get (ad : Nat → Nat) (I : Nat → Int32) (L : Nat → Int64) (R : Nat → Option Nat) : ∀ (ts : List Nat) (j k : Nat), (zx_fs ad I L R ts j)[k]? = ts[k]?.map (fun t => zx_v ad I L R t (j + k))
  | [], _, _ => by simp [zx_fs]
  | t :: ts, j, 0 => by simp [zx_fs]
  | t :: ts, j, k + 1 => by
    simp only [zx_fs, List.getElem?_cons_succ]
    rw [zx_fs_get ad I L R ts (j + 1) k, show j + 1 + k = j + (k + 1) by omega]
theorem zx_fs_len (ad : Nat → Nat) (I : Nat → Int32) (L : Nat → Int64) (R : Nat → Option Nat) (ts : List Nat) (j : Nat) : (zx_fs ad I L R ts j).length = ts.length := by
  induction ts generalizing j with
  | nil => rfl
  | cons t ts ih => simp [zx_fs, ih]
theorem zx_fs_set {ad : Nat → Nat} {I I' : Nat → Int32} {L L' : Nat → Int64} {R R' : Nat → Option Nat} {ts : List Nat} {k t : Nat} (ht : ts[k]? = some t) (ho : ∀ j u, j ≠ k → ts[j]? = some u → zx_v ad I' L' R' u j = zx_v ad I L R u j) : zx_fs ad I' L' R' ts 0 = (zx_fs ad I L R ts 0).set k (zx_v ad I' L' R' t k) := by
  apply List.ext_getElem?
  intro j
  by_cases hj : j = k
  · subst hj
    have hl : j < ts.length := (List.getElem?_eq_some_iff.mp ht).1
    rw [List.getElem?_set_self (by rw [zx_fs_len]; exact hl), zx_fs_get, ht]
    simp
  · rw [List.getElem?_set_ne (Ne.symm hj), zx_fs_get, zx_fs_get]
    cases hu : ts[j]? with
    | none => rfl
    | some u =>
      simp only [Option.map_some, Nat.zero_add]
      exact congrArg some (ho j u hj hu)
theorem zx_W_get {cA : Nat → ClassId} {ad : Nat → Nat} {S : zx_S} {I : zx_I} {L : zx_L} {R : zx_R} {a : Nat} {sh : Nat × Nat} (h : S[a]? = some sh) : (zx_W cA ad S I L R)[a]? = some (ad a, zx_e cA ad (I a) (L a) (R a) sh) := by
  simp [zx_W, List.getElem?_mapIdx, h]
theorem zx_W_set {cA : Nat → ClassId} {ad : Nat → Nat} {S : zx_S} {I I' : zx_I} {L L' : zx_L} {R R' : zx_R} {a : Nat} {sh : Nat × Nat} (h : S[a]? = some sh) (ho : ∀ b, b ≠ a → I' b = I b ∧ L' b = L b ∧ R' b = R b) : zx_W cA ad S I' L' R' = (zx_W cA ad S I L R).set a (ad a, zx_e cA ad (I' a) (L' a) (R' a) sh) := by
  apply List.ext_getElem?
  intro b
  by_cases hb : b = a
  · subst hb
    have hl : b < (zx_W cA ad S I L R).length := by simp [zx_W]; exact (List.getElem?_eq_some_iff.mp h).1
    rw [List.getElem?_set_self hl, zx_W_get h]
  · rw [List.getElem?_set_ne (Ne.symm hb)]
    obtain ⟨h1, h2, h3⟩ := ho b hb
    simp only [zx_W, List.getElem?_mapIdx, h1, h2, h3]
theorem zx_W_len {cA : Nat → ClassId} {ad : Nat → Nat} {S : zx_S} {I : zx_I} {L : zx_L} {R : zx_R} : (zx_W cA ad S I L R).length = S.length := by simp [zx_W]
/-- another numbering that agrees on what is there -/
theorem zx_v_ad {ad ad' : Nat → Nat} {I : Nat → Int32} {L : Nat → Int64} {R : Nat → Option Nat} {t k : Nat} (h : ∀ j, R k = some j → ad' j = ad j) : zx_v ad' I L R t k = zx_v ad I L R t k := by
  unfold zx_v
  cases hr : R k with
  | none => rfl
  | some j => simp [h j hr]
theorem zx_e_ad {cA : Nat → ClassId} {ad ad' : Nat → Nat} {I : Nat → Int32} {L : Nat → Int64} {R : Nat → Option Nat} {sh : Nat × Nat} (h : ∀ k j, R k = some j → ad' j = ad j) : zx_e cA ad' I L R sh = zx_e cA ad I L R sh := by
  have h1 : ∀ (ts : List Nat) (k : Nat), zx_fs ad' I L R ts k = zx_fs ad I L R ts k := by
    intro ts
    induction ts with
    | nil => intro k; rfl
    | cons t ts ih => intro k; simp only [zx_fs, ih, zx_v_ad (h k)]
  have h2 : (fun j => (R j).map ad') = fun j => (R j).map ad := by
    funext j
    cases hr : R j with
    | none => rfl
    | some i => simp [h j i hr]
  unfold zx_e
  rw [h1]
  unfold zx_row
  rw [h2]
/-- what a value's reference may be -/
def zx_ok (n : Nat) : Value → Prop
  | .ref i => i < n
  | _ => True
theorem zx_rl_ad {ad ad' : Nat → Nat} {n : Nat} {v : Value} (hv : zx_ok n v) (h : ∀ i, i < n → ad' i = ad i) : zx_rl ad' v = zx_rl ad v := by
  cases v <;> first | rfl | (simp only [zx_rl]; rw [h _ hv])
theorem zx_ok_mono {n n' : Nat} {v : Value} (h : zx_ok n v) (hn : n ≤ n') : zx_ok n' v := by
  cases v <;> first | trivial | exact Nat.lt_of_lt_of_le h hn
theorem zx_rl_cat (ad : Nat → Nat) (v : Value) : (zx_rl ad v).category = v.category := by cases v <;> rfl
theorem zx_rl_rf (ad : Nat → Nat) (r : Option Nat) : zx_rl ad (va_rf r) = va_rf (r.map ad) := by cases r <;> rfl
/-- the world of a pure state -/
def zx_X (D : va_G) (cA : Nat → ClassId) (A : Nat → Prop) (ad : Nat → Nat) (S : zx_S) (I : zx_I) (L : zx_L) (R : zx_R) (s : State) (H : Heap) : Prop :=
  va_P D vwCl (zx_W cA ad S I L R) H ∧ va_D A (zx_W cA ad S I L R) ∧ va_K D vwCl (zx_tys cA) s ∧ (∀ w ∈ zx_N, va_Nw w s) ∧ ∀ a k j, R a k = some j → j < S.length
theorem zx_nw_warm {w : Cond} (hw : zx_nest w = true) {s U : State} (h : va_Nw w s) (hW : s.WarmedH U.vm) : va_Nw w U := by
  cases w with
  | fieldLinkNest a b c d e f => exact va_Nw.warmF hW h
  | methodLinkNest a b c d => exact va_Nw.warmM hW h
  | arrayOver t =>
    cases t with
    | object C => exact va_AO.moved hW.alike h
    | _ => exact absurd hw (by simp [zx_nest])
  | _ => exact absurd hw (by simp [zx_nest])
/-- the locals -/
def zx_lv (ad : Nat → Nat) (lo : List (Option Value)) : List (Nat × Value) := lo.zipIdx.filterMap (fun q => q.1.map (fun v => (q.2, zx_rl ad v)))
def zx_lo (ad : Nat → Nat) (n : Nat) (lo : List (Option Value)) (ls : Array Slot) : Prop := ls.size = n ∧ lv_wf ls ∧ lo.length = n ∧ ∀ (i : Nat) (v : Value), lo[i]? = some (some v) → ls[i]? = some (.val (zx_rl ad v))
def zx_okl (n : Nat) (lo : List (Option Value)) : Prop := ∀ (i : Nat) (v : Value), lo[i]? = some (some v) → zx_ok n v
def zx_oks (n : Nat) (st : List Value) : Prop := ∀ v ∈ st, zx_ok n v
theorem zx_lv_mem {ad : Nat → Nat} {lo : List (Option Value)} {i : Nat} {v : Value} (h : lo[i]? = some (some v)) : (i, zx_rl ad v) ∈ zx_lv ad lo := by
  unfold zx_lv
  refine List.mem_filterMap.mpr ⟨(some v, i), ?_, rfl⟩
  rw [List.mem_zipIdx_iff_getElem?]
  exact h
theorem zx_lv_has {ad : Nat → Nat} {n : Nat} {lo : List (Option Value)} {ls : Array Slot} (h : zx_lo ad n lo ls) : lv_has ls n (zx_lv ad lo) := by
  obtain ⟨h1, h2, h3, h4⟩ := h
  refine ⟨h1, h2, fun q hq => ?_⟩
  obtain ⟨⟨o, i⟩, hm, he⟩ := List.mem_filterMap.mp hq
  rw [List.mem_zipIdx_iff_getElem?] at hm
  cases o with
  | none => cases he
  | some v => cases he; exact h4 i v hm
/-- a store of one slot, of two -/
def zx_st1 (lo : List (Option Value)) (i : Nat) (v : Value) : List (Option Value) :=
  lo.mapIdx fun j o => if j = i then some v else if j + 1 = i then (match o with | some w => if w.category = 2 then none else some w | none => none) else o
def zx_st2 (lo : List (Option Value)) (i : Nat) (v : Value) : List (Option Value) :=
  lo.mapIdx fun j o => if j = i then some v else if j = i + 1 then none else if j + 1 = i then (match o with | some w => if w.category = 2 then none else some w | none => none) else o
theorem zx_st1_get {lo : List (Option Value)} {i j : Nat} {v w : Value} (h : (zx_st1 lo i v)[j]? = some (some w)) : (j = i ∧ w = v) ∨ (j ≠ i ∧ lo[j]? = some (some w) ∧ (j + 1 = i → w.category ≠ 2)) := by
  unfold zx_st1 at h
  rw [List.getElem?_mapIdx] at h
  cases ho : lo[j]? with
  | none => rw [ho] at h; cases h
  | some o =>
    rw [ho] at h
    simp only [Option.map_some, Option.some.injEq] at h
    by_cases h1 : j = i
    · rw [if_pos h1] at h; exact Or.inl ⟨h1, (Option.some.inj h).symm⟩
    · rw [if_neg h1] at h
      refine Or.inr ⟨h1, ?_⟩
      by_cases h2 : j + 1 = i
      · rw [if_pos h2] at h
        cases o with
        | none => cases h
        | some u =>
          simp only at h
          by_cases h3 : u.category = 2
          · rw [if_pos h3] at h; cases h
          · rw [if_neg h3] at h; cases h; exact ⟨rfl, fun _ => h3⟩
      · rw [if_neg h2] at h; exact ⟨by rw [h], fun q => absurd q h2⟩
theorem zx_st2_get {lo : List (Option Value)} {i j : Nat} {v w : Value} (h : (zx_st2 lo i v)[j]? = some (some w)) : (j = i ∧ w = v) ∨ (j ≠ i ∧ j ≠ i + 1 ∧ lo[j]? = some (some w) ∧ (j + 1 = i → w.category ≠ 2)) := by
  unfold zx_st2 at h
  rw [List.getElem?_mapIdx] at h
  cases ho : lo[j]? with
  | none => rw [ho] at h; cases h
  | some o =>
    rw [ho] at h
    simp only [Option.map_some, Option.some.injEq] at h
    by_cases h1 : j = i
    · rw [if_pos h1] at h; exact Or.inl ⟨h1, (Option.some.inj h).symm⟩
    · rw [if_neg h1] at h
      by_cases h0 : j = i + 1
      · rw [if_pos h0] at h; cases h
      · rw [if_neg h0] at h
        refine Or.inr ⟨h1, h0, ?_⟩
        by_cases h2 : j + 1 = i
        · rw [if_pos h2] at h
          cases o with
          | none => cases h
          | some u =>
            simp only at h
            by_cases h3 : u.category = 2
            · rw [if_pos h3] at h; cases h
            · rw [if_neg h3] at h; cases h; exact ⟨rfl, fun _ => h3⟩
        · rw [if_neg h2] at h; exact ⟨by rw [h], fun q => absurd q h2⟩
theorem zx_lo_st1 {ad : Nat → Nat} {n i : Nat} {lo : List (Option Value)} {v : Value} {ls' : Array Slot} (hn : lo.length = n) (h : lv_has ls' n ((i, zx_rl ad v) :: (zx_lv ad lo).filter (fun q => !(q.1 == i) && !(q.1 + 1 == i && q.2.category == 2)))) : zx_lo ad n (zx_st1 lo i v) ls' := by
  refine ⟨h.1, h.2.1, by simp [zx_st1, hn], fun j w hw => ?_⟩
  rcases zx_st1_get hw with ⟨rfl, rfl⟩ | ⟨h1, h2, h3⟩
  · exact h.2.2 (j, zx_rl ad w) List.mem_cons_self
  · refine h.2.2 (j, zx_rl ad w) (List.mem_cons_of_mem _ (List.mem_filter.mpr ⟨zx_lv_mem h2, ?_⟩))
    by_cases h4 : j + 1 = i
    · have := h3 h4
      simp [h1, zx_rl_cat, this]
    · simp [h1, h4]
theorem zx_lo_st2 {ad : Nat → Nat} {n i : Nat} {lo : List (Option Value)} {v : Value} {ls' : Array Slot} (hn : lo.length = n) (h : lv_has ls' n ((i, zx_rl ad v) :: (zx_lv ad lo).filter (fun q => !(q.1 == i) && (!(q.1 == i + 1) && !(q.1 + 1 == i && q.2.category == 2))))) : zx_lo ad n (zx_st2 lo i v) ls' := by
  refine ⟨h.1, h.2.1, by simp [zx_st2, hn], fun j w hw => ?_⟩
  rcases zx_st2_get hw with ⟨rfl, rfl⟩ | ⟨h1, h0, h2, h3⟩
  · exact h.2.2 (j, zx_rl ad w) List.mem_cons_self
  · refine h.2.2 (j, zx_rl ad w) (List.mem_cons_of_mem _ (List.mem_filter.mpr ⟨zx_lv_mem h2, ?_⟩))
    by_cases h4 : j + 1 = i
    · have := h3 h4
      simp [h1, h0, zx_rl_cat, this]
    · simp [h1, h0, h4]
theorem zx_okl_st1 {n i : Nat} {lo : List (Option Value)} {v : Value} (h : zx_okl n lo) (hv : zx_ok n v) : zx_okl n (zx_st1 lo i v) := fun j w hw => by
  rcases zx_st1_get hw with ⟨-, rfl⟩ | ⟨-, h2, -⟩
  · exact hv
  · exact h j w h2
theorem zx_okl_st2 {n i : Nat} {lo : List (Option Value)} {v : Value} (h : zx_okl n lo) (hv : zx_ok n v) : zx_okl n (zx_st2 lo i v) := fun j w hw => by
  rcases zx_st2_get hw with ⟨-, rfl⟩ | ⟨-, -, h2, -⟩
  · exact hv
  · exact h j w h2
/-- a method, its name, code, size of locals, answer, class, rows -/
def zx_ws (M : zx_M) : List Cond := .code M.1 M.2.1 M.2.2.1 M.2.2.2.1 :: zx_G
def zx_good (M : zx_M) : Prop := (∀ e ∈ M.2.2.2.2.2, decode M.2.1 e.1 = .ok (e.2.1, e.2.2)) ∧ Cond.code M.1 M.2.1 M.2.2.1 M.2.2.2.1 ∈ zx_G ∧ plainName M.1.cls = true ∧ zt_own[M.2.2.2.2.1]? = some M.1.cls ∧ M.2.2.1 ≤ 21
def zx_rm (d mc ms : Nat) : Room := { frames := d, cells := mc, slots := ms, locals := 40 * d }
def zx_C (M : zx_M) (p : Program) (s : State) (m : MethodId) (args : Array Value) (meth : Method) (c : Code) : Prop :=
  p.tables.exec = Jvm.exec ∧ c.code = M.2.1 ∧ meth.sig.returnType = M.2.2.2.1 ∧ c.maxLocals = M.2.2.1 ∧ s.vm.findClass M.1.cls = some m.cls ∧ (∀ w ∈ zx_G, w.before args s = true) ∧ meth.locks = false ∧ meth.name = M.1.name
abbrev zx_Qt : Type := Option Value → zx_S → zx_I → zx_L → zx_R → Prop
def zx_Q (D : va_G) (cA : Nat → ClassId) (A : Nat → Prop) (ad0 : Nat → Nat) (n0 : Nat) (Q : zx_Qt) : Array Value → State → Outcome → State → Prop := fun _ s o t =>
  (∃ (r : Option Value) (S' : zx_S) (I' : zx_I) (L' : zx_L) (R' : zx_R) (ad' : Nat → Nat), o = .returned (r.map (zx_rl ad')) ∧ Q r S' I' L' R' ∧ n0 ≤ S'.length ∧ (∀ i, i < n0 → ad' i = ad0 i) ∧ (∀ v, r = some v → zx_ok S'.length v) ∧ zx_X D cA A ad' S' I' L' R' t t.heap) ∧ va_F A s t
/-- from here, by the method M at depth d, the end is such that Q -/
def zx_V (M : zx_M) (d : Nat) (b : zx_B) (Q : zx_Qt) (S : zx_S) (pc : Nat) (lo : List (Option Value)) (st : List Value) (I : zx_I) (L : zx_L) (R : zx_R) : Prop :=
  ∀ (p : Program) (l : Launch) (e : Env) (s : State) (m : MethodId) (args : Array Value) (below : List Frame) (meth : Method) (c : Code) (D : va_G) (cA : Nat → ClassId) (A : Nat → Prop) (ad0 ad : Nat → Nat) (n0 : Nat) (H : Heap) (locs : List Loc) (ls : Array Slot),
    zx_good M → zx_C M p s m args meth c → zx_X D cA A ad S I L R s H → va_S A s.heap H locs → (∀ q, s.heap.size ≤ q → A q) → zx_lo ad M.2.2.1 lo ls → zx_okl S.length lo → zx_oks S.length st → n0 ≤ S.length → (∀ i, i < n0 → ad i = ad0 i) →
    W p l e (zx_rm d b.2.2.1 b.2.2.2) s m args below meth c H locs b.1 b.2.1 (MQ below (zx_Q D cA A ad0 n0 Q) args s b.2.2.1 b.2.2.2 A) (F0 m pc ls (st.map (zx_rl ad)))
/-- the contract: from these arguments in this world -/
def zx_M0 (M : zx_M) (d mc ms : Nat) (av : List Value) (S : zx_S) (I : zx_I) (L : zx_L) (R : zx_R) (Q : zx_Qt) : Prop :=
  ∀ (l : Launch) (D : va_G) (cA : Nat → ClassId) (ad : Nat → Nat) (sz : Nat), zx_oks S.length av →
    Met l M.1 (zx_ws M) (zx_rm d mc ms) (va_Pc (av.map (zx_rl ad)) (fun U => U.heap.size = sz ∧ zx_X D cA (fun _ => True) ad S I L R U U.heap)) (zx_Q D cA (va_A (zx_W cA ad S I L R) sz) ad S.length Q) mc ms (va_A (zx_W cA ad S I L R) sz)
