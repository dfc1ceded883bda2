/-! the law: its bytes and instructions, by program -/
def lb_at (cc : ByteArray) (pc v : Nat) : Prop := ∃ h : pc < cc.size, (cc[pc]'h).toNat = v
theorem lb_of {cc : ByteArray} {l : List Nat} (hl : cc.data.toList.map UInt8.toNat = l) {pc v : Nat} (h : l[pc]? = some v) : lb_at cc pc v := by
  rw [← hl, List.getElem?_map] at h
  cases h1 : cc.data.toList[pc]? with
  | none => rw [h1] at h; cases h
  | some w =>
    rw [h1] at h
    have hw : w.toNat = v := Option.some.inj h
    rw [Array.getElem?_toList] at h1
    obtain ⟨h2, h3⟩ := Array.getElem?_eq_some_iff.mp h1
    obtain ⟨bs⟩ := cc
    exact ⟨h2, by rw [← hw, ← h3]; rfl⟩
theorem lb_bind {α β : Type} {r : Decoder α} {k : α → Decoder β} {cc : ByteArray} {pc q : Nat} {a : α} (h : r cc pc = .ok (a, q)) : (r >>= k) cc pc = k a cc q := by
  simp only [bind, ReaderT.bind, StateT.bind, h]
  rfl
theorem lb_map {α β : Type} {r : Decoder α} {f : α → β} {cc : ByteArray} {pc q : Nat} {a : α} (h : r cc pc = .ok (a, q)) : (f <$> r) cc pc = .ok (f a, q) := (lb_bind (k := fun a => pure (f a)) h)
theorem lb_u1 {cc : ByteArray} {pc v : Nat} (h : lb_at cc pc v) : (Reader.u1 : Decoder Nat) cc pc = .ok (v, pc + 1) := by
  obtain ⟨h1, h2⟩ := h
  unfold Reader.u1
  refine (lb_bind (a := cc) (q := pc) rfl).trans ?_
  refine (lb_bind (a := pc) (q := pc) rfl).trans ?_
  rw [dif_pos h1, ← h2]
  rfl
theorem lb_u2 {cc : ByteArray} {pc a b : Nat} (h1 : lb_at cc pc a) (h2 : lb_at cc (pc + 1) b) : (Reader.u2 : Decoder Nat) cc pc = .ok (a * 256 + b, pc + 2) := by
  unfold Reader.u2
  refine (lb_bind (lb_u1 h1)).trans ?_
  exact (lb_bind (lb_u1 h2)).trans rfl
theorem lb_s2 {cc : ByteArray} {pc a b : Nat} (h1 : lb_at cc pc a) (h2 : lb_at cc (pc + 1) b) : (Reader.s2 : Decoder Int) cc pc = .ok (Reader.signed 16 (a * 256 + b), pc + 2) := lb_map (lb_u2 h1 h2)
theorem lb_s1 {cc : ByteArray} {pc a : Nat} (h1 : lb_at cc pc a) : (Reader.s1 : Decoder Int) cc pc = .ok (Reader.signed 8 a, pc + 1) := lb_map (lb_u1 h1)
theorem lb_dec {cc : ByteArray} {pc n : Nat} {i : Instr} (h : (Decoder.instr pc) cc pc = .ok (i, pc + n)) : decode cc pc = .ok (i, n) := by
  unfold decode Reader.runAt
  show (do let (instr, next) ← (Decoder.instr pc) cc pc; pure (instr, next - pc) : Except DecodeError (Instr × Nat)) = _
  rw [h]
  show Except.ok (i, pc + n - pc) = _
  rw [Nat.add_sub_cancel_left]
theorem lo_3 {cc : ByteArray} {pc : Nat} (h : lb_at cc pc 3) : decode cc pc = .ok (.iconst 0, 1) := by
  refine lb_dec ?_
  unfold Decoder.instr
  exact (lb_bind (lb_u1 h)).trans rfl
theorem lo_4 {cc : ByteArray} {pc : Nat} (h : lb_at cc pc 4) : decode cc pc = .ok (.iconst 1, 1) := by
  refine lb_dec ?_
  unfold Decoder.instr
  exact (lb_bind (lb_u1 h)).trans rfl
theorem lo_5 {cc : ByteArray} {pc : Nat} (h : lb_at cc pc 5) : decode cc pc = .ok (.iconst 2, 1) := by
  refine lb_dec ?_
  unfold Decoder.instr
  exact (lb_bind (lb_u1 h)).trans rfl
theorem lo_6 {cc : ByteArray} {pc : Nat} (h : lb_at cc pc 6) : decode cc pc = .ok (.iconst 3, 1) := by
  refine lb_dec ?_
  unfold Decoder.instr
  exact (lb_bind (lb_u1 h)).trans rfl
theorem lo_7 {cc : ByteArray} {pc : Nat} (h : lb_at cc pc 7) : decode cc pc = .ok (.iconst 4, 1) := by
  refine lb_dec ?_
  unfold Decoder.instr
  exact (lb_bind (lb_u1 h)).trans rfl
theorem lo_8 {cc : ByteArray} {pc : Nat} (h : lb_at cc pc 8) : decode cc pc = .ok (.iconst 5, 1) := by
  refine lb_dec ?_
  unfold Decoder.instr
  exact (lb_bind (lb_u1 h)).trans rfl
theorem lo_29 {cc : ByteArray} {pc : Nat} (h : lb_at cc pc 29) : decode cc pc = .ok (.iload_n 3, 1) := by
  refine lb_dec ?_
  unfold Decoder.instr
  exact (lb_bind (lb_u1 h)).trans rfl
theorem lo_42 {cc : ByteArray} {pc : Nat} (h : lb_at cc pc 42) : decode cc pc = .ok (.aload_n 0, 1) := by
  refine lb_dec ?_
  unfold Decoder.instr
  exact (lb_bind (lb_u1 h)).trans rfl
theorem lo_43 {cc : ByteArray} {pc : Nat} (h : lb_at cc pc 43) : decode cc pc = .ok (.aload_n 1, 1) := by
  refine lb_dec ?_
  unfold Decoder.instr
  exact (lb_bind (lb_u1 h)).trans rfl
theorem lo_44 {cc : ByteArray} {pc : Nat} (h : lb_at cc pc 44) : decode cc pc = .ok (.aload_n 2, 1) := by
  refine lb_dec ?_
  unfold Decoder.instr
  exact (lb_bind (lb_u1 h)).trans rfl
theorem lo_46 {cc : ByteArray} {pc : Nat} (h : lb_at cc pc 46) : decode cc pc = .ok (.iaload, 1) := by
  refine lb_dec ?_
  unfold Decoder.instr
  exact (lb_bind (lb_u1 h)).trans rfl
theorem lo_62 {cc : ByteArray} {pc : Nat} (h : lb_at cc pc 62) : decode cc pc = .ok (.istore_n 3, 1) := by
  refine lb_dec ?_
  unfold Decoder.instr
  exact (lb_bind (lb_u1 h)).trans rfl
theorem lo_76 {cc : ByteArray} {pc : Nat} (h : lb_at cc pc 76) : decode cc pc = .ok (.astore_n 1, 1) := by
  refine lb_dec ?_
  unfold Decoder.instr
  exact (lb_bind (lb_u1 h)).trans rfl
theorem lo_77 {cc : ByteArray} {pc : Nat} (h : lb_at cc pc 77) : decode cc pc = .ok (.astore_n 2, 1) := by
  refine lb_dec ?_
  unfold Decoder.instr
  exact (lb_bind (lb_u1 h)).trans rfl
theorem lo_89 {cc : ByteArray} {pc : Nat} (h : lb_at cc pc 89) : decode cc pc = .ok (.dup, 1) := by
  refine lb_dec ?_
  unfold Decoder.instr
  exact (lb_bind (lb_u1 h)).trans rfl
theorem lo_96 {cc : ByteArray} {pc : Nat} (h : lb_at cc pc 96) : decode cc pc = .ok (.iadd, 1) := by
  refine lb_dec ?_
  unfold Decoder.instr
  exact (lb_bind (lb_u1 h)).trans rfl
theorem lo_100 {cc : ByteArray} {pc : Nat} (h : lb_at cc pc 100) : decode cc pc = .ok (.isub, 1) := by
  refine lb_dec ?_
  unfold Decoder.instr
  exact (lb_bind (lb_u1 h)).trans rfl
theorem lo_121 {cc : ByteArray} {pc : Nat} (h : lb_at cc pc 121) : decode cc pc = .ok (.lshl, 1) := by
  refine lb_dec ?_
  unfold Decoder.instr
  exact (lb_bind (lb_u1 h)).trans rfl
theorem lo_126 {cc : ByteArray} {pc : Nat} (h : lb_at cc pc 126) : decode cc pc = .ok (.iand, 1) := by
  refine lb_dec ?_
  unfold Decoder.instr
  exact (lb_bind (lb_u1 h)).trans rfl
theorem lo_127 {cc : ByteArray} {pc : Nat} (h : lb_at cc pc 127) : decode cc pc = .ok (.land, 1) := by
  refine lb_dec ?_
  unfold Decoder.instr
  exact (lb_bind (lb_u1 h)).trans rfl
theorem lo_129 {cc : ByteArray} {pc : Nat} (h : lb_at cc pc 129) : decode cc pc = .ok (.lor, 1) := by
  refine lb_dec ?_
  unfold Decoder.instr
  exact (lb_bind (lb_u1 h)).trans rfl
theorem lo_133 {cc : ByteArray} {pc : Nat} (h : lb_at cc pc 133) : decode cc pc = .ok (.i2l, 1) := by
  refine lb_dec ?_
  unfold Decoder.instr
  exact (lb_bind (lb_u1 h)).trans rfl
theorem lo_172 {cc : ByteArray} {pc : Nat} (h : lb_at cc pc 172) : decode cc pc = .ok (.ireturn, 1) := by
  refine lb_dec ?_
  unfold Decoder.instr
  exact (lb_bind (lb_u1 h)).trans rfl
theorem lo_190 {cc : ByteArray} {pc : Nat} (h : lb_at cc pc 190) : decode cc pc = .ok (.arraylength, 1) := by
  refine lb_dec ?_
  unfold Decoder.instr
  exact (lb_bind (lb_u1 h)).trans rfl
theorem lo_187 {cc : ByteArray} {pc a b : Nat} (h : lb_at cc pc 187) (h1 : lb_at cc (pc + 1) a) (h2 : lb_at cc (pc + 2) b) : decode cc pc = .ok (.new (a * 256 + b), 3) := by
  refine lb_dec ?_
  unfold Decoder.instr
  refine (lb_bind (lb_u1 h)).trans ?_
  exact (lb_bind (lb_u2 h1 h2)).trans rfl
theorem lo_183 {cc : ByteArray} {pc a b : Nat} (h : lb_at cc pc 183) (h1 : lb_at cc (pc + 1) a) (h2 : lb_at cc (pc + 2) b) : decode cc pc = .ok (.invokespecial (a * 256 + b), 3) := by
  refine lb_dec ?_
  unfold Decoder.instr
  refine (lb_bind (lb_u1 h)).trans ?_
  exact (lb_bind (lb_u2 h1 h2)).trans rfl
theorem lo_182 {cc : ByteArray} {pc a b : Nat} (h : lb_at cc pc 182) (h1 : lb_at cc (pc + 1) a) (h2 : lb_at cc (pc + 2) b) : decode cc pc = .ok (.invokevirtual (a * 256 + b), 3) := by
  refine lb_dec ?_
  unfold Decoder.instr
  refine (lb_bind (lb_u1 h)).trans ?_
  exact (lb_bind (lb_u2 h1 h2)).trans rfl
theorem lo_20 {cc : ByteArray} {pc a b : Nat} (h : lb_at cc pc 20) (h1 : lb_at cc (pc + 1) a) (h2 : lb_at cc (pc + 2) b) : decode cc pc = .ok (.ldc2_w (a * 256 + b), 3) := by
  refine lb_dec ?_
  unfold Decoder.instr
  refine (lb_bind (lb_u1 h)).trans ?_
  exact (lb_bind (lb_u2 h1 h2)).trans rfl
theorem lo_167 {cc : ByteArray} {pc a b : Nat} (h : lb_at cc pc 167) (h1 : lb_at cc (pc + 1) a) (h2 : lb_at cc (pc + 2) b) : decode cc pc = .ok (.goto (Reader.signed 16 (a * 256 + b)), 3) := by
  refine lb_dec ?_
  unfold Decoder.instr
  refine (lb_bind (lb_u1 h)).trans ?_
  exact (lb_bind (lb_s2 h1 h2)).trans rfl
theorem lo_153 {cc : ByteArray} {pc a b : Nat} (h : lb_at cc pc 153) (h1 : lb_at cc (pc + 1) a) (h2 : lb_at cc (pc + 2) b) : decode cc pc = .ok (.ifCond .eq (Reader.signed 16 (a * 256 + b)), 3) := by
  refine lb_dec ?_
  unfold Decoder.instr
  refine (lb_bind (lb_u1 h)).trans ?_
  exact (lb_bind (lb_s2 h1 h2)).trans rfl
theorem lo_159 {cc : ByteArray} {pc a b : Nat} (h : lb_at cc pc 159) (h1 : lb_at cc (pc + 1) a) (h2 : lb_at cc (pc + 2) b) : decode cc pc = .ok (.if_icmp .eq (Reader.signed 16 (a * 256 + b)), 3) := by
  refine lb_dec ?_
  unfold Decoder.instr
  refine (lb_bind (lb_u1 h)).trans ?_
  exact (lb_bind (lb_s2 h1 h2)).trans rfl
theorem lo_163 {cc : ByteArray} {pc a b : Nat} (h : lb_at cc pc 163) (h1 : lb_at cc (pc + 1) a) (h2 : lb_at cc (pc + 2) b) : decode cc pc = .ok (.if_icmp .gt (Reader.signed 16 (a * 256 + b)), 3) := by
  refine lb_dec ?_
  unfold Decoder.instr
  refine (lb_bind (lb_u1 h)).trans ?_
  exact (lb_bind (lb_s2 h1 h2)).trans rfl
theorem lo_16 {cc : ByteArray} {pc a : Nat} (h : lb_at cc pc 16) (h1 : lb_at cc (pc + 1) a) : decode cc pc = .ok (.bipush (Reader.signed 8 a), 2) := by
  refine lb_dec ?_
  unfold Decoder.instr
  refine (lb_bind (lb_u1 h)).trans ?_
  exact (lb_bind (lb_s1 h1)).trans rfl
theorem lo_132 {cc : ByteArray} {pc a b : Nat} (h : lb_at cc pc 132) (h1 : lb_at cc (pc + 1) a) (h2 : lb_at cc (pc + 2) b) : decode cc pc = .ok (.iinc a (Reader.signed 8 b), 3) := by
  refine lb_dec ?_
  unfold Decoder.instr
  refine (lb_bind (lb_u1 h)).trans ?_
  refine (lb_bind (lb_u1 h1)).trans ?_
  exact (lb_bind (lb_s1 h2)).trans rfl
abbrev lo_one : List (Nat × Instr) := [(3, .iconst 0), (4, .iconst 1), (5, .iconst 2), (6, .iconst 3), (7, .iconst 4), (8, .iconst 5), (29, .iload_n 3), (42, .aload_n 0), (43, .aload_n 1), (44, .aload_n 2), (46, .iaload), (62, .istore_n 3), (76, .astore_n 1), (77, .astore_n 2), (89, .dup), (96, .iadd), (100, .isub), (121, .lshl), (126, .iand), (127, .land), (129, .lor), (133, .i2l), (172, .ireturn), (190, .arraylength)]
theorem lo_one_ok {cc : ByteArray} {pc : Nat} : ∀ q ∈ lo_one, lb_at cc pc q.1 → decode cc pc = .ok (q.2, 1) := List.forall_mem_cons.mpr ⟨lo_3, List.forall_mem_cons.mpr ⟨lo_4, List.forall_mem_cons.mpr ⟨lo_5, List.forall_mem_cons.mpr ⟨lo_6, List.forall_mem_cons.mpr ⟨lo_7, List.forall_mem_cons.mpr ⟨lo_8, List.forall_mem_cons.mpr ⟨lo_29, List.forall_mem_cons.mpr ⟨lo_42, List.forall_mem_cons.mpr ⟨lo_43, List.forall_mem_cons.mpr ⟨lo_44, List.forall_mem_cons.mpr ⟨lo_46, List.forall_mem_cons.mpr ⟨lo_62, List.forall_mem_cons.mpr ⟨lo_76, List.forall_mem_cons.mpr ⟨lo_77, List.forall_mem_cons.mpr ⟨lo_89, List.forall_mem_cons.mpr ⟨lo_96, List.forall_mem_cons.mpr ⟨lo_100, List.forall_mem_cons.mpr ⟨lo_121, List.forall_mem_cons.mpr ⟨lo_126, List.forall_mem_cons.mpr ⟨lo_127, List.forall_mem_cons.mpr ⟨lo_129, List.forall_mem_cons.mpr ⟨lo_133, List.forall_mem_cons.mpr ⟨lo_172, List.forall_mem_cons.mpr ⟨lo_190, fun _ h => absurd h List.not_mem_nil⟩⟩⟩⟩⟩⟩⟩⟩⟩⟩⟩⟩⟩⟩⟩⟩⟩⟩⟩⟩⟩⟩⟩⟩
def lb_c3 (v a b : Nat) (i : Instr) : Bool := (v == 187 && decide (i = .new (a * 256 + b))) || (v == 183 && decide (i = .invokespecial (a * 256 + b))) || (v == 182 && decide (i = .invokevirtual (a * 256 + b))) || (v == 20 && decide (i = .ldc2_w (a * 256 + b))) || (v == 167 && decide (i = .goto (Reader.signed 16 (a * 256 + b)))) || (v == 153 && decide (i = .ifCond .eq (Reader.signed 16 (a * 256 + b)))) || (v == 159 && decide (i = .if_icmp .eq (Reader.signed 16 (a * 256 + b)))) || (v == 163 && decide (i = .if_icmp .gt (Reader.signed 16 (a * 256 + b)))) || (v == 132 && decide (i = .iinc a (Reader.signed 8 b)))
theorem lb_c3_ok {cc : ByteArray} {pc v a b : Nat} {i : Instr} (h : lb_at cc pc v) (h1 : lb_at cc (pc + 1) a) (h2 : lb_at cc (pc + 2) b) (hc : lb_c3 v a b i = true) : decode cc pc = .ok (i, 3) := by
  unfold lb_c3 at hc
  simp only [Bool.or_eq_true, Bool.and_eq_true, beq_iff_eq, decide_eq_true_eq, or_assoc] at hc
  rcases hc with ⟨rfl, rfl⟩ | ⟨rfl, rfl⟩ | ⟨rfl, rfl⟩ | ⟨rfl, rfl⟩ | ⟨rfl, rfl⟩ | ⟨rfl, rfl⟩ | ⟨rfl, rfl⟩ | ⟨rfl, rfl⟩ | ⟨rfl, rfl⟩
  · exact lo_187 h h1 h2
  · exact lo_183 h h1 h2
  · exact lo_182 h h1 h2
  · exact lo_20 h h1 h2
  · exact lo_167 h h1 h2
  · exact lo_153 h h1 h2
  · exact lo_159 h h1 h2
  · exact lo_163 h h1 h2
  · exact lo_132 h h1 h2
def lb_c (i : Instr) (n : Nat) : List Nat → Bool
  | v :: a :: b :: _ => (n == 1 && lo_one.any (fun q => decide (q.1 = v) && decide (q.2 = i))) || (n == 2 && v == 16 && decide (i = .bipush (Reader.signed 8 a))) || (n == 3 && lb_c3 v a b i)
  | [v] => n == 1 && lo_one.any (fun q => decide (q.1 = v) && decide (q.2 = i))
  | [v, _] => n == 1 && lo_one.any (fun q => decide (q.1 = v) && decide (q.2 = i))
  | _ => false
def lb_k : List (Nat × Instr × Nat) → Nat → List Nat → Bool
  | [], _, _ => true
  | e :: t, pc, r => e.1 == pc && lb_c e.2.1 e.2.2 r && lb_k t (pc + e.2.2) (r.drop e.2.2)
theorem lb_c_ok {cc : ByteArray} {l : List Nat} (hl : cc.data.toList.map UInt8.toNat = l) {pc n : Nat} {i : Instr} {r : List Nat} (hr : l.drop pc = r) (hc : lb_c i n r = true) : decode cc pc = .ok (i, n) := by
  have hat : ∀ k v, r[k]? = some v → lb_at cc (pc + k) v := fun k v h => lb_of hl (by rw [← hr, List.getElem?_drop] at h; exact h)
  match r, hat, hc with
  | v :: a :: b :: _, hat, hc =>
    unfold lb_c at hc
    simp only [Bool.or_eq_true, Bool.and_eq_true, beq_iff_eq, decide_eq_true_eq, or_assoc, List.any_eq_true] at hc
    rcases hc with ⟨rfl, q, h, rfl, rfl⟩ | ⟨⟨rfl, rfl⟩, rfl⟩ | ⟨rfl, h⟩
    · exact lo_one_ok q h (hat 0 _ rfl)
    · exact lo_16 (hat 0 16 rfl) (hat 1 a rfl)
    · exact lb_c3_ok (hat 0 v rfl) (hat 1 a rfl) (hat 2 b rfl) h
  | [v], hat, hc =>
    unfold lb_c at hc
    simp only [Bool.and_eq_true, beq_iff_eq, decide_eq_true_eq, List.any_eq_true] at hc
    obtain ⟨rfl, q, h, rfl, rfl⟩ := hc
    exact lo_one_ok q h (hat 0 _ rfl)
  | [v, _], hat, hc =>
    unfold lb_c at hc
    simp only [Bool.and_eq_true, beq_iff_eq, decide_eq_true_eq, List.any_eq_true] at hc
    obtain ⟨rfl, q, h, rfl, rfl⟩ := hc
    exact lo_one_ok q h (hat 0 _ rfl)
  | [], _, hc => cases hc
theorem lb_k_ok {cc : ByteArray} {l : List Nat} (hl : cc.data.toList.map UInt8.toNat = l) : ∀ (t : List (Nat × Instr × Nat)) (pc : Nat) (r : List Nat), l.drop pc = r → lb_k t pc r = true → ∀ e ∈ t, decode cc e.1 = .ok (e.2.1, e.2.2)
  | [], _, _, _, _ => fun _ h => absurd h List.not_mem_nil
  | e :: t, pc, r, hr, hk => by
    unfold lb_k at hk
    simp only [Bool.and_eq_true, beq_iff_eq] at hk
    obtain ⟨⟨h1, h2⟩, h3⟩ := hk
    refine List.forall_mem_cons.mpr ⟨?_, lb_k_ok hl t (pc + e.2.2) (r.drop e.2.2) (by rw [← hr, List.drop_drop]) h3⟩
    rw [h1]
    exact lb_c_ok hl hr h2
theorem lb_get {cc : ByteArray} {t : List (Nat × Instr × Nat)} (H : ∀ e ∈ t, decode cc e.1 = .ok (e.2.1, e.2.2)) {pc n : Nat} {i : Instr} (h : (zs_from t pc).head? = some (pc, i, n)) : decode cc pc = .ok (i, n) := by
  have h9 := H _ (zs_at h)
  exact h9
def lb_N : List Nat := [187, 0, 7, 89, 183, 0, 9, 76, 187, 0, 10, 89, 183, 0, 12, 77, 3, 62, 29, 42, 190, 8, 100, 163, 3, 140, 42, 29, 46, 16, 31, 126, 170, 0, 0, 0, 0, 0, 3, 125, 0, 0, 0, 0, 0, 0, 0, 24, 0, 0, 0, 116, 0, 0, 0, 179, 0, 0, 0, 192, 0, 0, 0, 205, 0, 0, 0, 218, 0, 0, 0, 251, 0, 0, 1, 28, 0, 0, 1, 87, 0, 0, 1, 120, 0, 0, 1, 143, 0, 0, 1, 192, 0, 0, 1, 235, 0, 0, 2, 12, 0, 0, 2, 45, 0, 0, 2, 68, 0, 0, 2, 81, 0, 0, 2, 114, 0, 0, 2, 147, 0, 0, 2, 180, 0, 0, 2, 233, 0, 0, 3, 10, 0, 0, 3, 53, 0, 0, 3, 76, 0, 0, 3, 89, 0, 0, 3, 102, 43, 42, 29, 4, 96, 46, 42, 29, 5, 96, 46, 133, 16, 32, 121, 42, 29, 6, 96, 46, 133, 20, 0, 13, 127, 129, 182, 0, 15, 44, 42, 29, 4, 96, 46, 42, 29, 5, 96, 46, 133, 16, 32, 121, 42, 29, 6, 96, 46, 133, 20, 0, 13, 127, 129, 182, 0, 19, 159, 2, 207, 3, 172, 43, 182, 0, 20, 44, 182, 0, 24, 159, 2, 194, 3, 172, 43, 182, 0, 25, 44, 182, 0, 28, 159, 2, 181, 3, 172, 43, 182, 0, 29, 44, 182, 0, 32, 159, 2, 168, 3, 172, 43, 42, 29, 4, 96, 46, 42, 29, 5, 96, 46, 182, 0, 33, 44, 42, 29, 4, 96, 46, 42, 29, 5, 96, 46, 182, 0, 37, 159, 2, 135, 3, 172, 43, 42, 29, 4, 96, 46, 42, 29, 5, 96, 46, 182, 0, 38, 44, 42, 29, 4, 96, 46, 42, 29, 5, 96, 46, 182, 0, 41, 159, 2, 102, 3, 172, 43, 42, 29, 4, 96, 46, 42, 29, 5, 96, 46, 153, 0, 7, 4, 167, 0, 4, 3, 42, 29, 6, 96, 46, 182, 0, 42, 44, 42, 29, 4, 96, 46, 42, 29, 5, 96, 46, 153, 0, 7, 4, 167, 0, 4, 3, 42, 29, 6, 96, 46, 182, 0, 46, 159, 2, 43, 3, 172, 43, 42, 29, 4, 96, 46, 42, 29, 5, 96, 46, 182, 0, 47, 44, 42, 29, 4, 96, 46, 42, 29, 5, 96, 46, 182, 0, 50, 159, 2, 10, 3, 172, 43, 42, 29, 4, 96, 46, 182, 0, 51, 44, 42, 29, 4, 96, 46, 182, 0, 55, 159, 1, 243, 3, 172, 43, 42, 29, 4, 96, 46, 42, 29, 5, 96, 46, 153, 0, 7, 4, 167, 0, 4, 3, 182, 0, 56, 44, 42, 29, 4, 96, 46, 42, 29, 5, 96, 46, 153, 0, 7, 4, 167, 0, 4, 3, 182, 0, 60, 159, 1, 194, 3, 172, 43, 42, 29, 4, 96, 46, 42, 29, 5, 96, 46, 42, 29, 6, 96, 46, 182, 0, 61, 44, 42, 29, 4, 96, 46, 42, 29, 5, 96, 46, 42, 29, 6, 96, 46, 182, 0, 65, 159, 1, 151, 3, 172, 43, 42, 29, 4, 96, 46, 42, 29, 5, 96, 46, 182, 0, 66, 44, 42, 29, 4, 96, 46, 42, 29, 5, 96, 46, 182, 0, 69, 159, 1, 118, 3, 172, 43, 42, 29, 4, 96, 46, 42, 29, 5, 96, 46, 182, 0, 70, 44, 42, 29, 4, 96, 46, 42, 29, 5, 96, 46, 182, 0, 73, 159, 1, 85, 3, 172, 43, 42, 29, 4, 96, 46, 182, 0, 74, 44, 42, 29, 4, 96, 46, 182, 0, 77, 159, 1, 62, 3, 172, 43, 182, 0, 78, 44, 182, 0, 81, 159, 1, 49, 3, 172, 43, 42, 29, 4, 96, 46, 42, 29, 5, 96, 46, 182, 0, 82, 44, 42, 29, 4, 96, 46, 42, 29, 5, 96, 46, 182, 0, 85, 159, 1, 16, 3, 172, 43, 42, 29, 4, 96, 46, 42, 29, 5, 96, 46, 182, 0, 86, 44, 42, 29, 4, 96, 46, 42, 29, 5, 96, 46, 182, 0, 89, 159, 0, 239, 3, 172, 43, 42, 29, 4, 96, 46, 42, 29, 5, 96, 46, 182, 0, 90, 44, 42, 29, 4, 96, 46, 42, 29, 5, 96, 46, 182, 0, 93, 159, 0, 206, 3, 172, 43, 42, 29, 4, 96, 46, 42, 29, 5, 96, 46, 42, 29, 6, 96, 46, 42, 29, 7, 96, 46, 182, 0, 94, 44, 42, 29, 4, 96, 46, 42, 29, 5, 96, 46, 42, 29, 6, 96, 46, 42, 29, 7, 96, 46, 182, 0, 98, 159, 0, 153, 3, 172, 43, 42, 29, 4, 96, 46, 42, 29, 5, 96, 46, 182, 0, 99, 44, 42, 29, 4, 96, 46, 42, 29, 5, 96, 46, 182, 0, 102, 159, 0, 120, 3, 172, 43, 42, 29, 4, 96, 46, 42, 29, 5, 96, 46, 42, 29, 6, 96, 46, 182, 0, 103, 44, 42, 29, 4, 96, 46, 42, 29, 5, 96, 46, 42, 29, 6, 96, 46, 182, 0, 106, 159, 0, 77, 3, 172, 43, 42, 29, 4, 96, 46, 182, 0, 107, 44, 42, 29, 4, 96, 46, 182, 0, 110, 159, 0, 54, 3, 172, 43, 182, 0, 111, 44, 182, 0, 114, 159, 0, 41, 3, 172, 43, 182, 0, 115, 44, 182, 0, 118, 159, 0, 28, 3, 172, 43, 42, 29, 4, 96, 46, 182, 0, 119, 44, 42, 29, 4, 96, 46, 182, 0, 122, 159, 0, 5, 3, 172, 132, 3, 5, 167, 252, 114, 4, 172]
set_option maxRecDepth 20000 in
theorem lb_code : code.data.toList.map UInt8.toNat = lb_N := by decide +kernel
def tl_1 : List (Nat × Instr × Nat) := [(0, .new 7, 3), (3, .dup, 1), (4, .invokespecial 9, 3), (7, .astore_n 1, 1), (8, .new 10, 3), (11, .dup, 1), (12, .invokespecial 12, 3), (15, .astore_n 2, 1), (16, .iconst 0, 1), (17, .istore_n 3, 1), (18, .iload_n 3, 1), (19, .aload_n 0, 1), (20, .arraylength, 1), (21, .iconst 5, 1), (22, .isub, 1), (23, .if_icmp .gt 908, 3), (26, .aload_n 0, 1), (27, .iload_n 3, 1), (28, .iaload, 1), (29, .bipush 31, 2), (31, .iand, 1), (32, .tableswitch 893 0 24 #[116, 179, 192, 205, 218, 251, 284, 343, 376, 399, 448, 491, 524, 557, 580, 593, 626, 659, 692, 745, 778, 821, 844, 857, 870], 116), (148, .aload_n 1, 1), (149, .aload_n 0, 1), (150, .iload_n 3, 1)]
set_option maxRecDepth 20000 in
theorem dl_1 : ∀ e ∈ tl_1, decode code e.1 = .ok (e.2.1, e.2.2) := by decide +kernel
theorem dL1 {pc n : Nat} {i : Instr} (h : (zs_from tl_1 pc).head? = some (pc, i, n)) : decode code pc = .ok (i, n) := lb_get dl_1 h
def tl_2 : List (Nat × Instr × Nat) := [(151, .iconst 1, 1), (152, .iadd, 1), (153, .iaload, 1), (154, .aload_n 0, 1), (155, .iload_n 3, 1), (156, .iconst 2, 1), (157, .iadd, 1), (158, .iaload, 1), (159, .i2l, 1), (160, .bipush 32, 2), (162, .lshl, 1), (163, .aload_n 0, 1), (164, .iload_n 3, 1), (165, .iconst 3, 1), (166, .iadd, 1), (167, .iaload, 1), (168, .i2l, 1), (169, .ldc2_w 13, 3), (172, .land, 1), (173, .lor, 1), (174, .invokevirtual 15, 3), (177, .aload_n 2, 1), (178, .aload_n 0, 1), (179, .iload_n 3, 1), (180, .iconst 1, 1)]
set_option maxRecDepth 20000 in
theorem dl_2 : ∀ e ∈ tl_2, decode code e.1 = .ok (e.2.1, e.2.2) := lb_k_ok lb_code tl_2 151 _ rfl (by decide +kernel)
theorem dL2 {pc n : Nat} {i : Instr} (h : (zs_from tl_2 pc).head? = some (pc, i, n)) : decode code pc = .ok (i, n) := lb_get dl_2 h
def tl_3 : List (Nat × Instr × Nat) := [(181, .iadd, 1), (182, .iaload, 1), (183, .aload_n 0, 1), (184, .iload_n 3, 1), (185, .iconst 2, 1), (186, .iadd, 1), (187, .iaload, 1), (188, .i2l, 1), (189, .bipush 32, 2), (191, .lshl, 1), (192, .aload_n 0, 1), (193, .iload_n 3, 1), (194, .iconst 3, 1), (195, .iadd, 1), (196, .iaload, 1), (197, .i2l, 1), (198, .ldc2_w 13, 3), (201, .land, 1), (202, .lor, 1), (203, .invokevirtual 19, 3), (206, .if_icmp .eq 719, 3), (209, .iconst 0, 1), (210, .ireturn, 1), (211, .aload_n 1, 1), (212, .invokevirtual 20, 3)]
set_option maxRecDepth 20000 in
theorem dl_3 : ∀ e ∈ tl_3, decode code e.1 = .ok (e.2.1, e.2.2) := lb_k_ok lb_code tl_3 181 _ rfl (by decide +kernel)
theorem dL3 {pc n : Nat} {i : Instr} (h : (zs_from tl_3 pc).head? = some (pc, i, n)) : decode code pc = .ok (i, n) := lb_get dl_3 h
def tl_4 : List (Nat × Instr × Nat) := [(215, .aload_n 2, 1), (216, .invokevirtual 24, 3), (219, .if_icmp .eq 706, 3), (222, .iconst 0, 1), (223, .ireturn, 1), (224, .aload_n 1, 1), (225, .invokevirtual 25, 3), (228, .aload_n 2, 1), (229, .invokevirtual 28, 3), (232, .if_icmp .eq 693, 3), (235, .iconst 0, 1), (236, .ireturn, 1), (237, .aload_n 1, 1), (238, .invokevirtual 29, 3), (241, .aload_n 2, 1), (242, .invokevirtual 32, 3), (245, .if_icmp .eq 680, 3), (248, .iconst 0, 1), (249, .ireturn, 1), (250, .aload_n 1, 1), (251, .aload_n 0, 1), (252, .iload_n 3, 1), (253, .iconst 1, 1), (254, .iadd, 1), (255, .iaload, 1)]
set_option maxRecDepth 20000 in
theorem dl_4 : ∀ e ∈ tl_4, decode code e.1 = .ok (e.2.1, e.2.2) := lb_k_ok lb_code tl_4 215 _ rfl (by decide +kernel)
theorem dL4 {pc n : Nat} {i : Instr} (h : (zs_from tl_4 pc).head? = some (pc, i, n)) : decode code pc = .ok (i, n) := lb_get dl_4 h
def tl_5 : List (Nat × Instr × Nat) := [(256, .aload_n 0, 1), (257, .iload_n 3, 1), (258, .iconst 2, 1), (259, .iadd, 1), (260, .iaload, 1), (261, .invokevirtual 33, 3), (264, .aload_n 2, 1), (265, .aload_n 0, 1), (266, .iload_n 3, 1), (267, .iconst 1, 1), (268, .iadd, 1), (269, .iaload, 1), (270, .aload_n 0, 1), (271, .iload_n 3, 1), (272, .iconst 2, 1), (273, .iadd, 1), (274, .iaload, 1), (275, .invokevirtual 37, 3), (278, .if_icmp .eq 647, 3), (281, .iconst 0, 1), (282, .ireturn, 1), (283, .aload_n 1, 1), (284, .aload_n 0, 1), (285, .iload_n 3, 1), (286, .iconst 1, 1)]
set_option maxRecDepth 20000 in
theorem dl_5 : ∀ e ∈ tl_5, decode code e.1 = .ok (e.2.1, e.2.2) := lb_k_ok lb_code tl_5 256 _ rfl (by decide +kernel)
theorem dL5 {pc n : Nat} {i : Instr} (h : (zs_from tl_5 pc).head? = some (pc, i, n)) : decode code pc = .ok (i, n) := lb_get dl_5 h
def tl_6 : List (Nat × Instr × Nat) := [(287, .iadd, 1), (288, .iaload, 1), (289, .aload_n 0, 1), (290, .iload_n 3, 1), (291, .iconst 2, 1), (292, .iadd, 1), (293, .iaload, 1), (294, .invokevirtual 38, 3), (297, .aload_n 2, 1), (298, .aload_n 0, 1), (299, .iload_n 3, 1), (300, .iconst 1, 1), (301, .iadd, 1), (302, .iaload, 1), (303, .aload_n 0, 1), (304, .iload_n 3, 1), (305, .iconst 2, 1), (306, .iadd, 1), (307, .iaload, 1), (308, .invokevirtual 41, 3), (311, .if_icmp .eq 614, 3), (314, .iconst 0, 1), (315, .ireturn, 1), (316, .aload_n 1, 1), (317, .aload_n 0, 1)]
set_option maxRecDepth 20000 in
theorem dl_6 : ∀ e ∈ tl_6, decode code e.1 = .ok (e.2.1, e.2.2) := lb_k_ok lb_code tl_6 287 _ rfl (by decide +kernel)
theorem dL6 {pc n : Nat} {i : Instr} (h : (zs_from tl_6 pc).head? = some (pc, i, n)) : decode code pc = .ok (i, n) := lb_get dl_6 h
def tl_7 : List (Nat × Instr × Nat) := [(318, .iload_n 3, 1), (319, .iconst 1, 1), (320, .iadd, 1), (321, .iaload, 1), (322, .aload_n 0, 1), (323, .iload_n 3, 1), (324, .iconst 2, 1), (325, .iadd, 1), (326, .iaload, 1), (327, .ifCond .eq 7, 3), (330, .iconst 1, 1), (331, .goto 4, 3), (334, .iconst 0, 1), (335, .aload_n 0, 1), (336, .iload_n 3, 1), (337, .iconst 3, 1), (338, .iadd, 1), (339, .iaload, 1), (340, .invokevirtual 42, 3), (343, .aload_n 2, 1), (344, .aload_n 0, 1), (345, .iload_n 3, 1), (346, .iconst 1, 1), (347, .iadd, 1), (348, .iaload, 1)]
set_option maxRecDepth 20000 in
theorem dl_7 : ∀ e ∈ tl_7, decode code e.1 = .ok (e.2.1, e.2.2) := lb_k_ok lb_code tl_7 318 _ rfl (by decide +kernel)
theorem dL7 {pc n : Nat} {i : Instr} (h : (zs_from tl_7 pc).head? = some (pc, i, n)) : decode code pc = .ok (i, n) := lb_get dl_7 h
def tl_8 : List (Nat × Instr × Nat) := [(349, .aload_n 0, 1), (350, .iload_n 3, 1), (351, .iconst 2, 1), (352, .iadd, 1), (353, .iaload, 1), (354, .ifCond .eq 7, 3), (357, .iconst 1, 1), (358, .goto 4, 3), (361, .iconst 0, 1), (362, .aload_n 0, 1), (363, .iload_n 3, 1), (364, .iconst 3, 1), (365, .iadd, 1), (366, .iaload, 1), (367, .invokevirtual 46, 3), (370, .if_icmp .eq 555, 3), (373, .iconst 0, 1), (374, .ireturn, 1), (375, .aload_n 1, 1), (376, .aload_n 0, 1), (377, .iload_n 3, 1), (378, .iconst 1, 1), (379, .iadd, 1), (380, .iaload, 1), (381, .aload_n 0, 1)]
set_option maxRecDepth 20000 in
theorem dl_8 : ∀ e ∈ tl_8, decode code e.1 = .ok (e.2.1, e.2.2) := lb_k_ok lb_code tl_8 349 _ rfl (by decide +kernel)
theorem dL8 {pc n : Nat} {i : Instr} (h : (zs_from tl_8 pc).head? = some (pc, i, n)) : decode code pc = .ok (i, n) := lb_get dl_8 h
def tl_9 : List (Nat × Instr × Nat) := [(382, .iload_n 3, 1), (383, .iconst 2, 1), (384, .iadd, 1), (385, .iaload, 1), (386, .invokevirtual 47, 3), (389, .aload_n 2, 1), (390, .aload_n 0, 1), (391, .iload_n 3, 1), (392, .iconst 1, 1), (393, .iadd, 1), (394, .iaload, 1), (395, .aload_n 0, 1), (396, .iload_n 3, 1), (397, .iconst 2, 1), (398, .iadd, 1), (399, .iaload, 1), (400, .invokevirtual 50, 3), (403, .if_icmp .eq 522, 3), (406, .iconst 0, 1), (407, .ireturn, 1), (408, .aload_n 1, 1), (409, .aload_n 0, 1), (410, .iload_n 3, 1), (411, .iconst 1, 1), (412, .iadd, 1)]
set_option maxRecDepth 20000 in
theorem dl_9 : ∀ e ∈ tl_9, decode code e.1 = .ok (e.2.1, e.2.2) := lb_k_ok lb_code tl_9 382 _ rfl (by decide +kernel)
theorem dL9 {pc n : Nat} {i : Instr} (h : (zs_from tl_9 pc).head? = some (pc, i, n)) : decode code pc = .ok (i, n) := lb_get dl_9 h
def tl_10 : List (Nat × Instr × Nat) := [(413, .iaload, 1), (414, .invokevirtual 51, 3), (417, .aload_n 2, 1), (418, .aload_n 0, 1), (419, .iload_n 3, 1), (420, .iconst 1, 1), (421, .iadd, 1), (422, .iaload, 1), (423, .invokevirtual 55, 3), (426, .if_icmp .eq 499, 3), (429, .iconst 0, 1), (430, .ireturn, 1), (431, .aload_n 1, 1), (432, .aload_n 0, 1), (433, .iload_n 3, 1), (434, .iconst 1, 1), (435, .iadd, 1), (436, .iaload, 1), (437, .aload_n 0, 1), (438, .iload_n 3, 1), (439, .iconst 2, 1), (440, .iadd, 1), (441, .iaload, 1), (442, .ifCond .eq 7, 3), (445, .iconst 1, 1)]
set_option maxRecDepth 20000 in
theorem dl_10 : ∀ e ∈ tl_10, decode code e.1 = .ok (e.2.1, e.2.2) := lb_k_ok lb_code tl_10 413 _ rfl (by decide +kernel)
theorem dL10 {pc n : Nat} {i : Instr} (h : (zs_from tl_10 pc).head? = some (pc, i, n)) : decode code pc = .ok (i, n) := lb_get dl_10 h
def tl_11 : List (Nat × Instr × Nat) := [(446, .goto 4, 3), (449, .iconst 0, 1), (450, .invokevirtual 56, 3), (453, .aload_n 2, 1), (454, .aload_n 0, 1), (455, .iload_n 3, 1), (456, .iconst 1, 1), (457, .iadd, 1), (458, .iaload, 1), (459, .aload_n 0, 1), (460, .iload_n 3, 1), (461, .iconst 2, 1), (462, .iadd, 1), (463, .iaload, 1), (464, .ifCond .eq 7, 3), (467, .iconst 1, 1), (468, .goto 4, 3), (471, .iconst 0, 1), (472, .invokevirtual 60, 3), (475, .if_icmp .eq 450, 3), (478, .iconst 0, 1), (479, .ireturn, 1), (480, .aload_n 1, 1), (481, .aload_n 0, 1), (482, .iload_n 3, 1)]
set_option maxRecDepth 20000 in
theorem dl_11 : ∀ e ∈ tl_11, decode code e.1 = .ok (e.2.1, e.2.2) := lb_k_ok lb_code tl_11 446 _ rfl (by decide +kernel)
theorem dL11 {pc n : Nat} {i : Instr} (h : (zs_from tl_11 pc).head? = some (pc, i, n)) : decode code pc = .ok (i, n) := lb_get dl_11 h
def tl_12 : List (Nat × Instr × Nat) := [(483, .iconst 1, 1), (484, .iadd, 1), (485, .iaload, 1), (486, .aload_n 0, 1), (487, .iload_n 3, 1), (488, .iconst 2, 1), (489, .iadd, 1), (490, .iaload, 1), (491, .aload_n 0, 1), (492, .iload_n 3, 1), (493, .iconst 3, 1), (494, .iadd, 1), (495, .iaload, 1), (496, .invokevirtual 61, 3), (499, .aload_n 2, 1), (500, .aload_n 0, 1), (501, .iload_n 3, 1), (502, .iconst 1, 1), (503, .iadd, 1), (504, .iaload, 1), (505, .aload_n 0, 1), (506, .iload_n 3, 1), (507, .iconst 2, 1), (508, .iadd, 1), (509, .iaload, 1)]
set_option maxRecDepth 20000 in
theorem dl_12 : ∀ e ∈ tl_12, decode code e.1 = .ok (e.2.1, e.2.2) := lb_k_ok lb_code tl_12 483 _ rfl (by decide +kernel)
theorem dL12 {pc n : Nat} {i : Instr} (h : (zs_from tl_12 pc).head? = some (pc, i, n)) : decode code pc = .ok (i, n) := lb_get dl_12 h
def tl_13 : List (Nat × Instr × Nat) := [(510, .aload_n 0, 1), (511, .iload_n 3, 1), (512, .iconst 3, 1), (513, .iadd, 1), (514, .iaload, 1), (515, .invokevirtual 65, 3), (518, .if_icmp .eq 407, 3), (521, .iconst 0, 1), (522, .ireturn, 1), (523, .aload_n 1, 1), (524, .aload_n 0, 1), (525, .iload_n 3, 1), (526, .iconst 1, 1), (527, .iadd, 1), (528, .iaload, 1), (529, .aload_n 0, 1), (530, .iload_n 3, 1), (531, .iconst 2, 1), (532, .iadd, 1), (533, .iaload, 1), (534, .invokevirtual 66, 3), (537, .aload_n 2, 1), (538, .aload_n 0, 1), (539, .iload_n 3, 1), (540, .iconst 1, 1)]
set_option maxRecDepth 20000 in
theorem dl_13 : ∀ e ∈ tl_13, decode code e.1 = .ok (e.2.1, e.2.2) := lb_k_ok lb_code tl_13 510 _ rfl (by decide +kernel)
theorem dL13 {pc n : Nat} {i : Instr} (h : (zs_from tl_13 pc).head? = some (pc, i, n)) : decode code pc = .ok (i, n) := lb_get dl_13 h
def tl_14 : List (Nat × Instr × Nat) := [(541, .iadd, 1), (542, .iaload, 1), (543, .aload_n 0, 1), (544, .iload_n 3, 1), (545, .iconst 2, 1), (546, .iadd, 1), (547, .iaload, 1), (548, .invokevirtual 69, 3), (551, .if_icmp .eq 374, 3), (554, .iconst 0, 1), (555, .ireturn, 1), (556, .aload_n 1, 1), (557, .aload_n 0, 1), (558, .iload_n 3, 1), (559, .iconst 1, 1), (560, .iadd, 1), (561, .iaload, 1), (562, .aload_n 0, 1), (563, .iload_n 3, 1), (564, .iconst 2, 1), (565, .iadd, 1), (566, .iaload, 1), (567, .invokevirtual 70, 3), (570, .aload_n 2, 1), (571, .aload_n 0, 1)]
set_option maxRecDepth 20000 in
theorem dl_14 : ∀ e ∈ tl_14, decode code e.1 = .ok (e.2.1, e.2.2) := lb_k_ok lb_code tl_14 541 _ rfl (by decide +kernel)
theorem dL14 {pc n : Nat} {i : Instr} (h : (zs_from tl_14 pc).head? = some (pc, i, n)) : decode code pc = .ok (i, n) := lb_get dl_14 h
def tl_15 : List (Nat × Instr × Nat) := [(572, .iload_n 3, 1), (573, .iconst 1, 1), (574, .iadd, 1), (575, .iaload, 1), (576, .aload_n 0, 1), (577, .iload_n 3, 1), (578, .iconst 2, 1), (579, .iadd, 1), (580, .iaload, 1), (581, .invokevirtual 73, 3), (584, .if_icmp .eq 341, 3), (587, .iconst 0, 1), (588, .ireturn, 1), (589, .aload_n 1, 1), (590, .aload_n 0, 1), (591, .iload_n 3, 1), (592, .iconst 1, 1), (593, .iadd, 1), (594, .iaload, 1), (595, .invokevirtual 74, 3), (598, .aload_n 2, 1), (599, .aload_n 0, 1), (600, .iload_n 3, 1), (601, .iconst 1, 1), (602, .iadd, 1)]
set_option maxRecDepth 20000 in
theorem dl_15 : ∀ e ∈ tl_15, decode code e.1 = .ok (e.2.1, e.2.2) := lb_k_ok lb_code tl_15 572 _ rfl (by decide +kernel)
theorem dL15 {pc n : Nat} {i : Instr} (h : (zs_from tl_15 pc).head? = some (pc, i, n)) : decode code pc = .ok (i, n) := lb_get dl_15 h
def tl_16 : List (Nat × Instr × Nat) := [(603, .iaload, 1), (604, .invokevirtual 77, 3), (607, .if_icmp .eq 318, 3), (610, .iconst 0, 1), (611, .ireturn, 1), (612, .aload_n 1, 1), (613, .invokevirtual 78, 3), (616, .aload_n 2, 1), (617, .invokevirtual 81, 3), (620, .if_icmp .eq 305, 3), (623, .iconst 0, 1), (624, .ireturn, 1), (625, .aload_n 1, 1), (626, .aload_n 0, 1), (627, .iload_n 3, 1), (628, .iconst 1, 1), (629, .iadd, 1), (630, .iaload, 1), (631, .aload_n 0, 1), (632, .iload_n 3, 1), (633, .iconst 2, 1), (634, .iadd, 1), (635, .iaload, 1), (636, .invokevirtual 82, 3), (639, .aload_n 2, 1)]
set_option maxRecDepth 20000 in
theorem dl_16 : ∀ e ∈ tl_16, decode code e.1 = .ok (e.2.1, e.2.2) := lb_k_ok lb_code tl_16 603 _ rfl (by decide +kernel)
theorem dL16 {pc n : Nat} {i : Instr} (h : (zs_from tl_16 pc).head? = some (pc, i, n)) : decode code pc = .ok (i, n) := lb_get dl_16 h
def tl_17 : List (Nat × Instr × Nat) := [(640, .aload_n 0, 1), (641, .iload_n 3, 1), (642, .iconst 1, 1), (643, .iadd, 1), (644, .iaload, 1), (645, .aload_n 0, 1), (646, .iload_n 3, 1), (647, .iconst 2, 1), (648, .iadd, 1), (649, .iaload, 1), (650, .invokevirtual 85, 3), (653, .if_icmp .eq 272, 3), (656, .iconst 0, 1), (657, .ireturn, 1), (658, .aload_n 1, 1), (659, .aload_n 0, 1), (660, .iload_n 3, 1), (661, .iconst 1, 1), (662, .iadd, 1), (663, .iaload, 1), (664, .aload_n 0, 1), (665, .iload_n 3, 1), (666, .iconst 2, 1), (667, .iadd, 1), (668, .iaload, 1)]
set_option maxRecDepth 20000 in
theorem dl_17 : ∀ e ∈ tl_17, decode code e.1 = .ok (e.2.1, e.2.2) := lb_k_ok lb_code tl_17 640 _ rfl (by decide +kernel)
theorem dL17 {pc n : Nat} {i : Instr} (h : (zs_from tl_17 pc).head? = some (pc, i, n)) : decode code pc = .ok (i, n) := lb_get dl_17 h
def tl_18 : List (Nat × Instr × Nat) := [(669, .invokevirtual 86, 3), (672, .aload_n 2, 1), (673, .aload_n 0, 1), (674, .iload_n 3, 1), (675, .iconst 1, 1), (676, .iadd, 1), (677, .iaload, 1), (678, .aload_n 0, 1), (679, .iload_n 3, 1), (680, .iconst 2, 1), (681, .iadd, 1), (682, .iaload, 1), (683, .invokevirtual 89, 3), (686, .if_icmp .eq 239, 3), (689, .iconst 0, 1), (690, .ireturn, 1), (691, .aload_n 1, 1), (692, .aload_n 0, 1), (693, .iload_n 3, 1), (694, .iconst 1, 1), (695, .iadd, 1), (696, .iaload, 1), (697, .aload_n 0, 1), (698, .iload_n 3, 1), (699, .iconst 2, 1)]
set_option maxRecDepth 20000 in
theorem dl_18 : ∀ e ∈ tl_18, decode code e.1 = .ok (e.2.1, e.2.2) := lb_k_ok lb_code tl_18 669 _ rfl (by decide +kernel)
theorem dL18 {pc n : Nat} {i : Instr} (h : (zs_from tl_18 pc).head? = some (pc, i, n)) : decode code pc = .ok (i, n) := lb_get dl_18 h
def tl_19 : List (Nat × Instr × Nat) := [(700, .iadd, 1), (701, .iaload, 1), (702, .invokevirtual 90, 3), (705, .aload_n 2, 1), (706, .aload_n 0, 1), (707, .iload_n 3, 1), (708, .iconst 1, 1), (709, .iadd, 1), (710, .iaload, 1), (711, .aload_n 0, 1), (712, .iload_n 3, 1), (713, .iconst 2, 1), (714, .iadd, 1), (715, .iaload, 1), (716, .invokevirtual 93, 3), (719, .if_icmp .eq 206, 3), (722, .iconst 0, 1), (723, .ireturn, 1), (724, .aload_n 1, 1), (725, .aload_n 0, 1), (726, .iload_n 3, 1), (727, .iconst 1, 1), (728, .iadd, 1), (729, .iaload, 1), (730, .aload_n 0, 1)]
set_option maxRecDepth 20000 in
theorem dl_19 : ∀ e ∈ tl_19, decode code e.1 = .ok (e.2.1, e.2.2) := lb_k_ok lb_code tl_19 700 _ rfl (by decide +kernel)
theorem dL19 {pc n : Nat} {i : Instr} (h : (zs_from tl_19 pc).head? = some (pc, i, n)) : decode code pc = .ok (i, n) := lb_get dl_19 h
def tl_20 : List (Nat × Instr × Nat) := [(731, .iload_n 3, 1), (732, .iconst 2, 1), (733, .iadd, 1), (734, .iaload, 1), (735, .aload_n 0, 1), (736, .iload_n 3, 1), (737, .iconst 3, 1), (738, .iadd, 1), (739, .iaload, 1), (740, .aload_n 0, 1), (741, .iload_n 3, 1), (742, .iconst 4, 1), (743, .iadd, 1), (744, .iaload, 1), (745, .invokevirtual 94, 3), (748, .aload_n 2, 1), (749, .aload_n 0, 1), (750, .iload_n 3, 1), (751, .iconst 1, 1), (752, .iadd, 1), (753, .iaload, 1), (754, .aload_n 0, 1), (755, .iload_n 3, 1), (756, .iconst 2, 1), (757, .iadd, 1)]
set_option maxRecDepth 20000 in
theorem dl_20 : ∀ e ∈ tl_20, decode code e.1 = .ok (e.2.1, e.2.2) := lb_k_ok lb_code tl_20 731 _ rfl (by decide +kernel)
theorem dL20 {pc n : Nat} {i : Instr} (h : (zs_from tl_20 pc).head? = some (pc, i, n)) : decode code pc = .ok (i, n) := lb_get dl_20 h
def tl_21 : List (Nat × Instr × Nat) := [(758, .iaload, 1), (759, .aload_n 0, 1), (760, .iload_n 3, 1), (761, .iconst 3, 1), (762, .iadd, 1), (763, .iaload, 1), (764, .aload_n 0, 1), (765, .iload_n 3, 1), (766, .iconst 4, 1), (767, .iadd, 1), (768, .iaload, 1), (769, .invokevirtual 98, 3), (772, .if_icmp .eq 153, 3), (775, .iconst 0, 1), (776, .ireturn, 1), (777, .aload_n 1, 1), (778, .aload_n 0, 1), (779, .iload_n 3, 1), (780, .iconst 1, 1), (781, .iadd, 1), (782, .iaload, 1), (783, .aload_n 0, 1), (784, .iload_n 3, 1), (785, .iconst 2, 1), (786, .iadd, 1)]
set_option maxRecDepth 20000 in
theorem dl_21 : ∀ e ∈ tl_21, decode code e.1 = .ok (e.2.1, e.2.2) := lb_k_ok lb_code tl_21 758 _ rfl (by decide +kernel)
theorem dL21 {pc n : Nat} {i : Instr} (h : (zs_from tl_21 pc).head? = some (pc, i, n)) : decode code pc = .ok (i, n) := lb_get dl_21 h
def tl_22 : List (Nat × Instr × Nat) := [(787, .iaload, 1), (788, .invokevirtual 99, 3), (791, .aload_n 2, 1), (792, .aload_n 0, 1), (793, .iload_n 3, 1), (794, .iconst 1, 1), (795, .iadd, 1), (796, .iaload, 1), (797, .aload_n 0, 1), (798, .iload_n 3, 1), (799, .iconst 2, 1), (800, .iadd, 1), (801, .iaload, 1), (802, .invokevirtual 102, 3), (805, .if_icmp .eq 120, 3), (808, .iconst 0, 1), (809, .ireturn, 1), (810, .aload_n 1, 1), (811, .aload_n 0, 1), (812, .iload_n 3, 1), (813, .iconst 1, 1), (814, .iadd, 1), (815, .iaload, 1), (816, .aload_n 0, 1), (817, .iload_n 3, 1)]
set_option maxRecDepth 20000 in
theorem dl_22 : ∀ e ∈ tl_22, decode code e.1 = .ok (e.2.1, e.2.2) := lb_k_ok lb_code tl_22 787 _ rfl (by decide +kernel)
theorem dL22 {pc n : Nat} {i : Instr} (h : (zs_from tl_22 pc).head? = some (pc, i, n)) : decode code pc = .ok (i, n) := lb_get dl_22 h
def tl_23 : List (Nat × Instr × Nat) := [(818, .iconst 2, 1), (819, .iadd, 1), (820, .iaload, 1), (821, .aload_n 0, 1), (822, .iload_n 3, 1), (823, .iconst 3, 1), (824, .iadd, 1), (825, .iaload, 1), (826, .invokevirtual 103, 3), (829, .aload_n 2, 1), (830, .aload_n 0, 1), (831, .iload_n 3, 1), (832, .iconst 1, 1), (833, .iadd, 1), (834, .iaload, 1), (835, .aload_n 0, 1), (836, .iload_n 3, 1), (837, .iconst 2, 1), (838, .iadd, 1), (839, .iaload, 1), (840, .aload_n 0, 1), (841, .iload_n 3, 1), (842, .iconst 3, 1), (843, .iadd, 1), (844, .iaload, 1)]
set_option maxRecDepth 20000 in
theorem dl_23 : ∀ e ∈ tl_23, decode code e.1 = .ok (e.2.1, e.2.2) := lb_k_ok lb_code tl_23 818 _ rfl (by decide +kernel)
theorem dL23 {pc n : Nat} {i : Instr} (h : (zs_from tl_23 pc).head? = some (pc, i, n)) : decode code pc = .ok (i, n) := lb_get dl_23 h
def tl_24 : List (Nat × Instr × Nat) := [(845, .invokevirtual 106, 3), (848, .if_icmp .eq 77, 3), (851, .iconst 0, 1), (852, .ireturn, 1), (853, .aload_n 1, 1), (854, .aload_n 0, 1), (855, .iload_n 3, 1), (856, .iconst 1, 1), (857, .iadd, 1), (858, .iaload, 1), (859, .invokevirtual 107, 3), (862, .aload_n 2, 1), (863, .aload_n 0, 1), (864, .iload_n 3, 1), (865, .iconst 1, 1), (866, .iadd, 1), (867, .iaload, 1), (868, .invokevirtual 110, 3), (871, .if_icmp .eq 54, 3), (874, .iconst 0, 1), (875, .ireturn, 1), (876, .aload_n 1, 1), (877, .invokevirtual 111, 3), (880, .aload_n 2, 1), (881, .invokevirtual 114, 3)]
set_option maxRecDepth 20000 in
theorem dl_24 : ∀ e ∈ tl_24, decode code e.1 = .ok (e.2.1, e.2.2) := lb_k_ok lb_code tl_24 845 _ rfl (by decide +kernel)
theorem dL24 {pc n : Nat} {i : Instr} (h : (zs_from tl_24 pc).head? = some (pc, i, n)) : decode code pc = .ok (i, n) := lb_get dl_24 h
def tl_25 : List (Nat × Instr × Nat) := [(884, .if_icmp .eq 41, 3), (887, .iconst 0, 1), (888, .ireturn, 1), (889, .aload_n 1, 1), (890, .invokevirtual 115, 3), (893, .aload_n 2, 1), (894, .invokevirtual 118, 3), (897, .if_icmp .eq 28, 3), (900, .iconst 0, 1), (901, .ireturn, 1), (902, .aload_n 1, 1), (903, .aload_n 0, 1), (904, .iload_n 3, 1), (905, .iconst 1, 1), (906, .iadd, 1), (907, .iaload, 1), (908, .invokevirtual 119, 3), (911, .aload_n 2, 1), (912, .aload_n 0, 1), (913, .iload_n 3, 1), (914, .iconst 1, 1), (915, .iadd, 1), (916, .iaload, 1), (917, .invokevirtual 122, 3), (920, .if_icmp .eq 5, 3)]
set_option maxRecDepth 20000 in
theorem dl_25 : ∀ e ∈ tl_25, decode code e.1 = .ok (e.2.1, e.2.2) := lb_k_ok lb_code tl_25 884 _ rfl (by decide +kernel)
theorem dL25 {pc n : Nat} {i : Instr} (h : (zs_from tl_25 pc).head? = some (pc, i, n)) : decode code pc = .ok (i, n) := lb_get dl_25 h
def tl_26 : List (Nat × Instr × Nat) := [(923, .iconst 0, 1), (924, .ireturn, 1), (925, .iinc 3 5, 3), (928, .goto (-910), 3), (931, .iconst 1, 1), (932, .ireturn, 1)]
set_option maxRecDepth 20000 in
theorem dl_26 : ∀ e ∈ tl_26, decode code e.1 = .ok (e.2.1, e.2.2) := lb_k_ok lb_code tl_26 923 _ rfl (by decide +kernel)
theorem dL26 {pc n : Nat} {i : Instr} (h : (zs_from tl_26 pc).head? = some (pc, i, n)) : decode code pc = .ok (i, n) := lb_get dl_26 h
