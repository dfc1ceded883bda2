/-! rules of fields, arrays, making, answers, entry -/
def zx_pv (t : Nat) (i : Int32) (l : Int64) (r : Option Nat) : Value := if t = 1 then .long l else if t = 2 then va_rf r else .int i
theorem zx_v_pv (ad : Nat → Nat) (I : Nat → Int32) (L : Nat → Int64) (R : Nat → Option Nat) (t k : Nat) : zx_v ad I L R t k = zx_rl ad (zx_pv t (I k) (L k) (R k)) := by
  unfold zx_v zx_pv
  by_cases h1 : t = 1
  · simp [h1, zx_rl]
  · by_cases h2 : t = 2
    · simp [h2, zx_rl_rf]
    · simp [h1, h2, zx_rl]
theorem zx_pv_ok {n t : Nat} {i : Int32} {l : Int64} {r : Option Nat} (h : ∀ j, r = some j → j < n) : zx_ok n (zx_pv t i l r) := by
  unfold zx_pv
  by_cases h1 : t = 1
  · simp [h1, zx_ok]
  · by_cases h2 : t = 2
    · simp only [h2]
      cases hr : r with
      | none => trivial
      | some j => exact h j hr
    · simp [h1, h2, zx_ok]
def zx_uI (I : zx_I) (a k : Nat) (v : Int32) : zx_I := fun x y => if x = a then (if y = k then v else I x y) else I x y
def zx_uL (I : zx_L) (a k : Nat) (v : Int64) : zx_L := fun x y => if x = a then (if y = k then v else I x y) else I x y
def zx_uR (I : zx_R) (a k : Nat) (v : Option Nat) : zx_R := fun x y => if x = a then (if y = k then v else I x y) else I x y
theorem zx_uI_ne {I : zx_I} {a k b : Nat} {v : Int32} (h : b ≠ a) : zx_uI I a k v b = I b := by funext y; simp [zx_uI, h]
theorem zx_uL_ne {I : zx_L} {a k b : Nat} {v : Int64} (h : b ≠ a) : zx_uL I a k v b = I b := by funext y; simp [zx_uL, h]
theorem zx_uR_ne {I : zx_R} {a k b : Nat} {v : Option Nat} (h : b ≠ a) : zx_uR I a k v b = I b := by funext y; simp [zx_uR, h]
theorem zx_uI_at {I : zx_I} {a k : Nat} {v : Int32} : zx_uI I a k v a = upd (I a) k v := by funext y; simp [zx_uI, upd]
theorem zx_uL_at {I : zx_L} {a k : Nat} {v : Int64} : zx_uL I a k v a = vp_updL (I a) k v := by funext y; simp [zx_uL, vp_updL]
theorem zx_uR_at {I : zx_R} {a k : Nat} {v : Option Nat} : zx_uR I a k v a = va_up (I a) k v := by funext y; simp [zx_uR, va_up]
theorem zx_W_put {cA : Nat → ClassId} {ad : Nat → Nat} {S : zx_S} {I I' : zx_I} {L L' : zx_L} {R R' : zx_R} {a ci n k t : Nat} (hs : S[a]? = some (ci, n)) (hci : ci < 100) (ht : (zt_T.getD ci [])[k]? = some t) (ho : ∀ b, b ≠ a → I' b = I b ∧ L' b = L b ∧ R' b = R b) (hr : ∀ j, j ≠ k → I' a j = I a j ∧ L' a j = L a j ∧ R' a j = R a j) :
    zx_W cA ad S I' L' R' = (zx_W cA ad S I L R).set a (ad a, .inr (ci, (zx_fs ad (I a) (L a) (R a) (zt_T.getD ci []) 0).set k (zx_v ad (I' a) (L' a) (R' a) t k))) := by
  rw [zx_W_set hs ho]
  have h1 : zx_e cA ad (I' a) (L' a) (R' a) (ci, n) = .inr (ci, zx_fs ad (I' a) (L' a) (R' a) (zt_T.getD ci []) 0) := if_pos hci
  rw [h1, zx_fs_set ht (fun j u hj _ => by
    obtain ⟨e1, e2, e3⟩ := hr j hj
    unfold zx_v
    rw [e1, e2, e3])]
/-- a class's own field link is no nest mate's -/
def zfoF (oc idx ci k : Nat) : Prop := ∃ (own C : String) (T : u_T) (N : Nat) (ty : Nat → FieldType), zt_own[oc]? = some own ∧ zk_C ci C T N ty ∧ k < N ∧ Cond.fieldLink own idx C (T k).2.1 (T k).2.2.1 ∈ zx_G
def zl_own (w : Option Cond) : Bool := match w with
  | some (.fieldLink _ _ _ _ _) => true
  | _ => false
def zl_chkF (oc : Nat) (q : Nat × Nat × Nat × Nat) : Bool := zl_chk oc q && (!decide (q.2.1 = oc) || zl_own lw_tbl[q.2.2.2]?)
def zl_allF : List (List (Nat × Nat × Nat × Nat)) → Nat → Bool
  | [], _ => true
  | r :: l, i => r.all (zl_chkF i) && zl_allF l (i + 1)
set_option maxRecDepth 20000 in
theorem zl_F_okF : zl_allF zl_F 0 = true := by decide +kernel
theorem zl_allF_at : ∀ (l : List (List (Nat × Nat × Nat × Nat))) (i j : Nat), zl_allF l i = true → ∀ q ∈ l.getD j [], zl_chkF (i + j) q = true
  | [], i, j, _, q, hq => by simp at hq
  | r :: l, i, 0, h, q, hq => by
    simp only [zl_allF, Bool.and_eq_true] at h
    exact List.all_eq_true.mp h.1 q (by simpa using hq)
  | r :: l, i, j + 1, h, q, hq => by
    simp only [zl_allF, Bool.and_eq_true] at h
    rw [show i + (j + 1) = i + 1 + j by omega]
    exact zl_allF_at l (i + 1) j h.2 q (by simpa using hq)
theorem zfF_ok {oc idx ci k : Nat} (h : zfl oc idx = some (ci, k)) (hco : ci = oc) : zfoF oc idx ci k := by
  obtain ⟨p, hp⟩ := zl_fgo_mem _ _ _ _ h
  have hc := zl_allF_at zl_F 0 oc zl_F_okF _ hp
  rw [Nat.zero_add] at hc
  unfold zl_chkF at hc
  simp only [Bool.and_eq_true] at hc
  obtain ⟨hc, hc2⟩ := hc
  simp only [hco, decide_true, Bool.not_true, Bool.false_or] at hc2
  unfold zl_chk at hc
  dsimp only at hc
  cases h1 : zt_own[oc]? with
  | none => rw [h1] at hc; simp at hc
  | some own =>
    cases h2 : vwCl[ci]? with
    | none => rw [h1, h2] at hc; simp at hc
    | some q =>
      obtain ⟨C, T, N⟩ := q
      cases h3 : lw_tbl[p]? with
      | none => rw [h1, h2, h3] at hc; simp at hc
      | some w =>
        rw [h1, h2, h3] at hc
        rw [h3] at hc2
        simp only [Bool.and_eq_true, Bool.or_eq_true, decide_eq_true_eq] at hc
        obtain ⟨hk, hw⟩ := hc
        obtain ⟨ty, hty⟩ := zk_all h2
        refine ⟨own, C, T, N, ty, h1, hty, hk, ?_⟩
        rcases hw with ⟨rfl, hg⟩ | hw
        · exact zg_at h3 hg
        · unfold zl_nst at hw
          unfold zl_own at hc2
          split at hw
          · simp at hc2
          · cases hw
def zx_fin (ci k : Nat) : Bool := match vwCl[ci]? with
  | some (_, T, _) => (T k).2.2.2
  | none => true
def zx_may (M : zx_M) (ci k : Nat) : Bool := !zx_fin ci k || (decide (M.1.name = "<init>") && decide (ci = M.2.2.2.2.1))
theorem zx_S_lt {S : zx_S} {a : Nat} {q : Nat × Nat} (h : S[a]? = some q) : a < S.length := (List.getElem?_eq_some_iff.mp h).1
section
variable {M : zx_M} {d : Nat} {b : zx_B} {Q : zx_Qt} {S : zx_S} {pc : Nat} {lo : List (Option Value)} {st : List Value} {I : zx_I} {L : zx_L} {R : zx_R}
theorem zv_get {idx a ci k t n : Nat} (hd : (pc, .getfield idx, 3) ∈ M.2.2.2.2.2) (hf : zfo M.2.2.2.2.1 idx ci k) (hs : S[a]? = some (ci, n)) (ht : (zt_T.getD ci [])[k]? = some t) (kk : zx_V M d b Q S (pc + 3) lo (zx_pv t (I a k) (L a k) (R a k) :: st) I L R) : zx_V M d b Q S pc lo (.ref a :: st) I L R := by
  intro p l e s m args below meth c D cA A ad0 ad n0 H locs ls hg hC hX hS hA hl hol hos hn0 had
  have h9 := hg.1 _ hd
  obtain ⟨own, C, T, N, ty, ho, hk, hkN, hw⟩ := hf
  have hown : own = M.1.cls := Option.some.inj (ho.symm.trans hg.2.2.2.1)
  subst hown
  have he := zx_W_get (cA := cA) (ad := ad) (I := I) (L := L) (R := R) hs
  have hfs : zx_e cA ad (I a) (L a) (R a) (ci, n) = .inr (ci, zx_fs ad (I a) (L a) (R a) (zt_T.getD ci []) 0) := if_pos hk.2.2.2.2.2.1
  rw [hfs] at he
  have hv : (zx_fs ad (I a) (L a) (R a) (zt_T.getD ci []) 0)[k]? = some (zx_rl ad (zx_pv t (I a k) (L a k) (R a k))) := by rw [zx_fs_get, ht]; simp [zx_v_pv]
  have h8 := kk p l e s m args below meth c D cA A ad0 ad n0 H locs ls hg hC hX hS hA hl hol (zo_c (zx_pv_ok (fun j hj => hX.2.2.2.2 a k j hj)) (zo_t hos)) hn0 had
  have hC1 := hk.2.2.2.2.2.2.2.1 k hkN
  have hsame : ∀ x, s.fieldFound? (T k).1 (T k).2.1 (T k).2.2.1 = some x → s.fieldFound? C (T k).2.1 (T k).2.2.1 = some x := by rw [hC1]; exact fun _ h => h
  rcases hw with hw | ⟨h, hw⟩
  · exact va_get (D := D) hC.1 hC.2.1 hC.2.2.2.2.2.1 hk.2.1 hC.2.2.2.2.1 hX.2.2.1 hX.1 a he hk.1 k hkN (hC.2.2.2.2.2.1 _ hw) hsame hv h9 h8
  · exact va_getN (D := D) hC.1 hC.2.1 hC.2.2.2.2.2.1 hk.2.1 hC.2.2.2.2.1 hX.2.2.1 hX.1 a he hk.1 k hkN (va_Nw.use rfl (hX.2.2.2.1 _ hw)) hsame hv h9 h8
/-- a write into a field, of any kind -/
theorem zv_put {idx a ci k t n : Nat} {v : Value} {I' : zx_I} {L' : zx_L} {R' : zx_R} (hd : (pc, .putfield idx, 3) ∈ M.2.2.2.2.2) (hf : zfo M.2.2.2.2.1 idx ci k) (hs : S[a]? = some (ci, n)) (ht : (zt_T.getD ci [])[k]? = some t) (hm : zx_may M ci k = true) (hF : zx_fin ci k = true → zfoF M.2.2.2.2.1 idx ci k)
    (hv : v = zx_pv t (I' a k) (L' a k) (R' a k)) (hb : t = 3 → I' a k = 0 ∨ I' a k = 1)
    (ho : ∀ b, b ≠ a → I' b = I b ∧ L' b = L b ∧ R' b = R b) (hr : ∀ j, j ≠ k → I' a j = I a j ∧ L' a j = L a j ∧ R' a j = R a j) (hR : ∀ i, R' a k = some i → R a k = some i ∨ v = .ref i)
    (kk : zx_V M d b Q S (pc + 3) lo st I' L' R') : zx_V M d b Q S pc lo (v :: .ref a :: st) I L R := by
  intro p l e s m args below meth c D cA A ad0 ad n0 H locs ls hg hC hX hS hA hl hol hos hn0 had
  have h9 := hg.1 _ hd
  obtain ⟨own, C, T, N, ty, hw0, hk, hkN, hw⟩ := hf
  have hown : own = M.1.cls := Option.some.inj (hw0.symm.trans hg.2.2.2.1)
  subst hown
  have he := zx_W_get (cA := cA) (ad := ad) (I := I) (L := L) (R := R) hs
  have hfs : zx_e cA ad (I a) (L a) (R a) (ci, n) = .inr (ci, zx_fs ad (I a) (L a) (R a) (zt_T.getD ci []) 0) := if_pos hk.2.2.2.2.2.1
  rw [hfs] at he
  have htc : t = zk_code (ty k) := Option.some.inj (ht.symm.trans (hk.2.2.2.2.1 k hkN))
  have hval : zx_rl ad v = zx_v ad (I' a) (L' a) (R' a) t k := by rw [zx_v_pv, hv]
  have hnf : narrow (ty k) (zx_rl ad v) = zx_rl ad v ∧ fits (ty k) (zx_rl ad v) = true := by
    rw [hval]
    unfold zx_v
    rcases hk.2.2.2.2.2.2.2.2 k hkN with h | h | h | h
    · rw [htc, h]; exact ⟨rfl, rfl⟩
    · rw [htc, h]; exact ⟨rfl, rfl⟩
    · have h3 : t = 3 := by rw [htc, h]; rfl
      rcases hb h3 with h5 | h5
      · rw [htc, h, h5]; exact (by decide : narrow .boolean (Value.int 0) = Value.int 0 ∧ fits .boolean (Value.int 0) = true)
      · rw [htc, h, h5]; exact (by decide : narrow .boolean (Value.int 1) = Value.int 1 ∧ fits .boolean (Value.int 1) = true)
    · have h2 : t = 2 := by rw [htc, h]
      have h4 : ∃ w, ty k = .object w ∨ ∃ w, ty k = .array w := by
        cases hty : ty k with
        | object w => exact ⟨w, Or.inl rfl⟩
        | array w => exact ⟨"", Or.inr ⟨w, rfl⟩⟩
        | _ => rw [hty] at h; exact absurd h (by decide)
      rw [h2, if_neg (by decide), if_pos rfl]
      obtain ⟨w, h4 | ⟨w, h4⟩⟩ := h4 <;> rw [h4] <;> cases R' a k <;> exact ⟨rfl, rfl⟩
  have hlen : k < (zx_fs ad (I a) (L a) (R a) (zt_T.getD ci []) 0).length := by rw [zx_fs_len, hk.2.2.2.2.2.2.1]; exact hkN
  have hC1 := hk.2.2.2.2.2.2.2.1 k hkN
  have hsame : ∀ x, s.fieldFound? (T k).1 (T k).2.1 (T k).2.2.1 = some x → s.fieldFound? C (T k).2.1 (T k).2.2.1 = some x := by rw [hC1]; exact fun _ h => h
  have hwf : ∀ x y j, R' x y = some j → j < S.length := by
    intro x y j hj
    by_cases hx : x = a
    · subst hx
      by_cases hy : y = k
      · subst hy
        rcases hR j hj with h | h
        · exact hX.2.2.2.2 _ _ j h
        · have := zo_h hos
          rw [h] at this
          exact this
      · rw [(hr y hy).2.2] at hj
        exact hX.2.2.2.2 _ _ j hj
    · rw [(ho x hx).2.2] at hj
      exact hX.2.2.2.2 _ _ j hj
  have hset : (zx_W cA ad S I L R).set a (ad a, .inr (ci, (zx_fs ad (I a) (L a) (R a) (zt_T.getD ci []) 0).set k (zx_rl ad v))) = zx_W cA ad S I' L' R' := by rw [hval]; exact (zx_W_put hs hk.2.2.2.2.2.1 ht ho hr).symm
  have h8 : ∀ (H1 : Heap) (locs1 : List Loc), va_P D vwCl ((zx_W cA ad S I L R).set a (ad a, .inr (ci, (zx_fs ad (I a) (L a) (R a) (zt_T.getD ci []) 0).set k (zx_rl ad v)))) H1 → va_D A ((zx_W cA ad S I L R).set a (ad a, .inr (ci, (zx_fs ad (I a) (L a) (R a) (zt_T.getD ci []) 0).set k (zx_rl ad v)))) → va_S A s.heap H1 locs1 → W p l e (zx_rm d b.2.2.1 b.2.2.2) s m args below meth c H1 locs1 b.1 b.2.1 (MQ below (zx_Q D cA A ad0 n0 Q) args s b.2.2.1 b.2.2.2 A) (F0 m (pc + 3) ls (st.map (zx_rl ad))) := by
    intro H1 locs1 g1 g2 g3
    rw [hset] at g1 g2
    exact kk p l e s m args below meth c D cA A ad0 ad n0 H1 locs1 ls hg hC ⟨g1, g2, hX.2.2.1, hX.2.2.2.1, hwf⟩ g3 hA hl hol (zo_t (zo_t hos)) hn0 had
  have hcl : zx_fin ci k = (T k).2.2.2 := by unfold zx_fin; rw [hk.1]
  by_cases hfin : (T k).2.2.2 = true
  · have hq : M.1.name = "<init>" ∧ ci = M.2.2.2.2.1 := by
      unfold zx_may at hm
      rw [hcl, hfin] at hm
      simpa using hm
    have hCo : C = M.1.cls := by
      have h1 : vwCl[M.2.2.2.2.1]? = some (C, T, N) := by rw [← hq.2]; exact hk.1
      have hlt : M.2.2.2.2.1 < 11 := (List.getElem?_eq_some_iff.mp h1).1
      have h2 := hg.2.2.2.1
      generalize M.2.2.2.2.1 = o at h1 h2 hlt
      have h3 : zt_own[o]? = (vwCl[o]?).map (fun q => q.1) := by
        match o, hlt with
        | 0, _ => rfl
        | 1, _ => rfl
        | 2, _ => rfl
        | 3, _ => rfl
        | 4, _ => rfl
        | 5, _ => rfl
        | 6, _ => rfl
        | 7, _ => rfl
        | 8, _ => rfl
        | 9, _ => rfl
        | 10, _ => rfl
        | n + 11, h => exact absurd h (by omega)
      rw [h1] at h3
      exact Option.some.inj (h3.symm.trans h2)
    obtain ⟨own', C', T', N', ty', f1, f2, f3, f4⟩ := hF (by rw [hcl]; exact hfin)
    have e1 : own' = M.1.cls := Option.some.inj (f1.symm.trans hw0)
    have e2 : (C', T', N') = (C, T, N) := Option.some.inj (f2.1.symm.trans hk.1)
    cases e2
    subst e1
    exact va_putF (D := D) hC.1 hC.2.1 hC.2.2.2.2.2.1 hk.2.1 ty hk.2.2.1 hk.2.2.2.1 hC.2.2.2.2.1 hX.2.2.1 hX.1 hX.2.1 hS a he hk.1 k hkN (hC.2.2.2.2.2.1 _ f4) hsame hfin (by rw [hC.2.2.2.2.2.2.2]; exact hq.1) (hC1.trans hCo) (hk.2.2.1 k hkN) hnf.1 hnf.2 hlen h9 h8
  · have hfin' : (T k).2.2.2 = false := by simpa using hfin
    rcases hw with hw | ⟨h, hw⟩
    · exact va_put (D := D) hC.1 hC.2.1 hC.2.2.2.2.2.1 hk.2.1 ty hk.2.2.1 hk.2.2.2.1 hC.2.2.2.2.1 hX.2.2.1 hX.1 hX.2.1 hS a he hk.1 k hkN (hC.2.2.2.2.2.1 _ hw) hsame hfin' (hk.2.2.1 k hkN) hnf.1 hnf.2 hlen h9 h8
    · exact va_putN (D := D) hC.1 hC.2.1 hC.2.2.2.2.2.1 hk.2.1 ty hk.2.2.1 hk.2.2.2.1 hC.2.2.2.2.1 hX.2.2.1 hX.1 hX.2.1 hS a he hk.1 k hkN (va_Nw.use rfl (hX.2.2.2.1 _ hw)) hsame hfin' (hk.2.2.1 k hkN) hnf.1 hnf.2 hlen h9 h8
/-- the rows of arrays -/
theorem zx_W_arr {cA : Nat → ClassId} {ad : Nat → Nat} {S : zx_S} {I : zx_I} {L : zx_L} {R : zx_R} {a kd n : Nat} (hs : S[a]? = some (kd, n)) (hk : 100 ≤ kd) : (zx_W cA ad S I L R)[a]? = some (ad a, .inl (cA kd, n, zx_row ad (I a) (L a) (R a) kd)) := by
  rw [zx_W_get hs]
  have : ¬ kd < 100 := by omega
  simp [zx_e, this]
theorem zv_iald {a n : Nat} {i : Int32} (hd : (pc, .iaload, 1) ∈ M.2.2.2.2.2) (hs : S[a]? = some (100, n)) (hin : vp_in i n) (kk : zx_V M d b Q S (pc + 1) lo (.int (I a i.toNatClampNeg) :: st) I L R) : zx_V M d b Q S pc lo (.int i :: .ref a :: st) I L R := by
  intro p l e s m args below meth c D cA A ad0 ad n0 H locs ls hg hC hX hS hA hl hol hos hn0 had
  have h9 := hg.1 _ hd
  have h8 := kk p l e s m args below meth c D cA A ad0 ad n0 H locs ls hg hC hX hS hA hl hol (zo_c trivial (zo_t (zo_t hos))) hn0 had
  exact va_iald (D := D) hC.1 hC.2.1 hX.2.2.1 hX.1 a 0 (zx_W_arr hs (by decide)) rfl hin h9 h8
theorem zv_bald {a n : Nat} {i : Int32} (hd : (pc, .baload, 1) ∈ M.2.2.2.2.2) (hs : S[a]? = some (101, n)) (hin : vp_in i n) (kk : zx_V M d b Q S (pc + 1) lo (.int (I a i.toNatClampNeg) :: st) I L R) : zx_V M d b Q S pc lo (.int i :: .ref a :: st) I L R := by
  intro p l e s m args below meth c D cA A ad0 ad n0 H locs ls hg hC hX hS hA hl hol hos hn0 had
  have h9 := hg.1 _ hd
  have h8 := kk p l e s m args below meth c D cA A ad0 ad n0 H locs ls hg hC hX hS hA hl hol (zo_c trivial (zo_t (zo_t hos))) hn0 had
  exact va_bald (D := D) hC.1 hC.2.1 hX.2.2.1 hX.1 a 1 (zx_W_arr hs (by decide)) rfl hin h9 h8
theorem zv_lald {a n : Nat} {i : Int32} (hd : (pc, .laload, 1) ∈ M.2.2.2.2.2) (hs : S[a]? = some (102, n)) (hin : vp_in i n) (kk : zx_V M d b Q S (pc + 1) lo (.long (L a i.toNatClampNeg) :: st) I L R) : zx_V M d b Q S pc lo (.int i :: .ref a :: st) I L R := by
  intro p l e s m args below meth c D cA A ad0 ad n0 H locs ls hg hC hX hS hA hl hol hos hn0 had
  have h9 := hg.1 _ hd
  have h8 := kk p l e s m args below meth c D cA A ad0 ad n0 H locs ls hg hC hX hS hA hl hol (zo_c trivial (zo_t (zo_t hos))) hn0 had
  exact va_lald (D := D) hC.1 hC.2.1 hX.2.2.1 hX.1 a 2 (zx_W_arr hs (by decide)) rfl hin h9 h8
theorem zv_aald {a n kd : Nat} {i : Int32} (hd : (pc, .aaload, 1) ∈ M.2.2.2.2.2) (hs : S[a]? = some (kd, n)) (hkd : kd = 103 ∨ kd = 104) (hin : vp_in i n) (kk : zx_V M d b Q S (pc + 1) lo (va_rf (R a i.toNatClampNeg) :: st) I L R) : zx_V M d b Q S pc lo (.int i :: .ref a :: st) I L R := by
  intro p l e s m args below meth c D cA A ad0 ad n0 H locs ls hg hC hX hS hA hl hol hos hn0 had
  have h9 := hg.1 _ hd
  have hok : zx_ok S.length (va_rf (R a i.toNatClampNeg)) := by
    cases hr : R a i.toNatClampNeg with
    | none => trivial
    | some j => exact hX.2.2.2.2 _ _ j hr
  have h8 := kk p l e s m args below meth c D cA A ad0 ad n0 H locs ls hg hC hX hS hA hl hol (zo_c hok (zo_t (zo_t hos))) hn0 had
  rw [List.map_cons, zx_rl_rf] at h8
  rcases hkd with rfl | rfl
  · exact va_aldq (D := D) hC.1 hC.2.1 hX.2.2.1 hX.1 a 3 (zx_W_arr hs (by decide)) rfl hin h9 h8
  · exact va_aldq (D := D) hC.1 hC.2.1 hX.2.2.1 hX.1 a 4 (zx_W_arr hs (by decide)) rfl hin h9 h8
theorem zv_alen {a n kd : Nat} (hd : (pc, .arraylength, 1) ∈ M.2.2.2.2.2) (hs : S[a]? = some (kd, n)) (hkd : 100 ≤ kd ∧ kd ≤ 104) (kk : zx_V M d b Q S (pc + 1) lo (.int (Int32.ofNat n) :: st) I L R) : zx_V M d b Q S pc lo (.ref a :: st) I L R := by
  intro p l e s m args below meth c D cA A ad0 ad n0 H locs ls hg hC hX hS hA hl hol hos hn0 had
  have h9 := hg.1 _ hd
  have h8 := kk p l e s m args below meth c D cA A ad0 ad n0 H locs ls hg hC hX hS hA hl hol (zo_c trivial (zo_t hos)) hn0 had
  have ht : ∃ ty, (zx_tys cA)[kd - 100]? = some (cA kd, ty) := by
    rcases (show kd = 100 ∨ kd = 101 ∨ kd = 102 ∨ kd = 103 ∨ kd = 104 by omega) with rfl | rfl | rfl | rfl | rfl <;> exact ⟨_, rfl⟩
  obtain ⟨ty, ht⟩ := ht
  exact va_alen (D := D) hC.1 hC.2.1 hX.2.2.1 hX.1 a (kd - 100) (zx_W_arr hs hkd.1) ht rfl h9 h8
/-- writes into arrays -/
theorem zx_W_aset {cA : Nat → ClassId} {ad : Nat → Nat} {S : zx_S} {I I' : zx_I} {L L' : zx_L} {R R' : zx_R} {a kd n : Nat} (hs : S[a]? = some (kd, n)) (hk : 100 ≤ kd) (ho : ∀ b, b ≠ a → I' b = I b ∧ L' b = L b ∧ R' b = R b) : zx_W cA ad S I' L' R' = (zx_W cA ad S I L R).set a (ad a, .inl (cA kd, n, zx_row ad (I' a) (L' a) (R' a) kd)) := by
  rw [zx_W_set hs ho]
  have : ¬ kd < 100 := by omega
  simp [zx_e, this]
theorem zv_iast {a n : Nat} {i x : Int32} (hd : (pc, .iastore, 1) ∈ M.2.2.2.2.2) (hs : S[a]? = some (100, n)) (hin : vp_in i n) (kk : zx_V M d b Q S (pc + 1) lo st (zx_uI I a i.toNatClampNeg x) L R) : zx_V M d b Q S pc lo (.int x :: .int i :: .ref a :: st) I L R := by
  intro p l e s m args below meth c D cA A ad0 ad n0 H locs ls hg hC hX hS hA hl hol hos hn0 had
  have h9 := hg.1 _ hd
  have hset : zx_W cA ad S (zx_uI I a i.toNatClampNeg x) L R = (zx_W cA ad S I L R).set a (ad a, .inl (cA 100, n, .inl (upd (I a) i.toNatClampNeg x))) := by
    rw [zx_W_aset hs (by decide) (fun b hb => ⟨zx_uI_ne hb, rfl, rfl⟩)]
    rw [show zx_row ad (zx_uI I a i.toNatClampNeg x a) (L a) (R a) 100 = .inl (zx_uI I a i.toNatClampNeg x a) from rfl, zx_uI_at]
  refine va_iast (D := D) hC.1 hC.2.1 hX.2.2.1 hX.1 hX.2.1 hS a 0 (zx_W_arr hs (by decide)) rfl hin h9 (fun H1 locs1 g1 g2 g3 => ?_)
  have g1 : va_P D vwCl ((zx_W cA ad S I L R).set a (ad a, .inl (cA 100, n, .inl (upd (I a) i.toNatClampNeg x)))) H1 := g1
  have g2 : va_D A ((zx_W cA ad S I L R).set a (ad a, .inl (cA 100, n, .inl (upd (I a) i.toNatClampNeg x)))) := g2
  rw [← hset] at g1 g2
  exact kk p l e s m args below meth c D cA A ad0 ad n0 H1 locs1 ls hg hC ⟨g1, g2, hX.2.2.1, hX.2.2.2.1, hX.2.2.2.2⟩ g3 hA hl hol (zo_t (zo_t (zo_t hos))) hn0 had
theorem zv_bast {a n : Nat} {i x : Int32} (hd : (pc, .bastore, 1) ∈ M.2.2.2.2.2) (hs : S[a]? = some (101, n)) (hin : vp_in i n) (kk : zx_V M d b Q S (pc + 1) lo st (zx_uI I a i.toNatClampNeg (vp_nar .byte x)) L R) : zx_V M d b Q S pc lo (.int x :: .int i :: .ref a :: st) I L R := by
  intro p l e s m args below meth c D cA A ad0 ad n0 H locs ls hg hC hX hS hA hl hol hos hn0 had
  have h9 := hg.1 _ hd
  have hset : zx_W cA ad S (zx_uI I a i.toNatClampNeg (vp_nar .byte x)) L R = (zx_W cA ad S I L R).set a (ad a, .inl (cA 101, n, .inl (upd (I a) i.toNatClampNeg (vp_nar .byte x)))) := by
    rw [zx_W_aset hs (by decide) (fun b hb => ⟨zx_uI_ne hb, rfl, rfl⟩)]
    rw [show zx_row ad (zx_uI I a i.toNatClampNeg (vp_nar .byte x) a) (L a) (R a) 101 = .inl (zx_uI I a i.toNatClampNeg (vp_nar .byte x) a) from rfl, zx_uI_at]
  refine va_bast (D := D) hC.1 hC.2.1 hX.2.2.1 hX.1 hX.2.1 hS a 1 (zx_W_arr hs (by decide)) rfl hin h9 (fun H1 locs1 g1 g2 g3 => ?_)
  have g1 : va_P D vwCl ((zx_W cA ad S I L R).set a (ad a, .inl (cA 101, n, .inl (upd (I a) i.toNatClampNeg (vp_nar .byte x))))) H1 := g1
  have g2 : va_D A ((zx_W cA ad S I L R).set a (ad a, .inl (cA 101, n, .inl (upd (I a) i.toNatClampNeg (vp_nar .byte x))))) := g2
  rw [← hset] at g1 g2
  exact kk p l e s m args below meth c D cA A ad0 ad n0 H1 locs1 ls hg hC ⟨g1, g2, hX.2.2.1, hX.2.2.2.1, hX.2.2.2.2⟩ g3 hA hl hol (zo_t (zo_t (zo_t hos))) hn0 had
theorem zv_last {a n : Nat} {i : Int32} {x : Int64} (hd : (pc, .lastore, 1) ∈ M.2.2.2.2.2) (hs : S[a]? = some (102, n)) (hin : vp_in i n) (kk : zx_V M d b Q S (pc + 1) lo st I (zx_uL L a i.toNatClampNeg x) R) : zx_V M d b Q S pc lo (.long x :: .int i :: .ref a :: st) I L R := by
  intro p l e s m args below meth c D cA A ad0 ad n0 H locs ls hg hC hX hS hA hl hol hos hn0 had
  have h9 := hg.1 _ hd
  have hset : zx_W cA ad S I (zx_uL L a i.toNatClampNeg x) R = (zx_W cA ad S I L R).set a (ad a, .inl (cA 102, n, .inr (.inl (vp_updL (L a) i.toNatClampNeg x)))) := by
    rw [zx_W_aset hs (by decide) (fun b hb => ⟨rfl, zx_uL_ne hb, rfl⟩)]
    rw [show zx_row ad (I a) (zx_uL L a i.toNatClampNeg x a) (R a) 102 = .inr (.inl (zx_uL L a i.toNatClampNeg x a)) from rfl, zx_uL_at]
  refine va_last (D := D) hC.1 hC.2.1 hX.2.2.1 hX.1 hX.2.1 hS a 2 (zx_W_arr hs (by decide)) rfl hin h9 (fun H1 locs1 g1 g2 g3 => ?_)
  have g1 : va_P D vwCl ((zx_W cA ad S I L R).set a (ad a, .inl (cA 102, n, .inr (.inl (vp_updL (L a) i.toNatClampNeg x))))) H1 := g1
  have g2 : va_D A ((zx_W cA ad S I L R).set a (ad a, .inl (cA 102, n, .inr (.inl (vp_updL (L a) i.toNatClampNeg x))))) := g2
  rw [← hset] at g1 g2
  exact kk p l e s m args below meth c D cA A ad0 ad n0 H1 locs1 ls hg hC ⟨g1, g2, hX.2.2.1, hX.2.2.2.1, hX.2.2.2.2⟩ g3 hA hl hol (zo_t (zo_t (zo_t hos))) hn0 had
theorem zv_aast {a n kd j ci nn : Nat} {i : Int32} (hd : (pc, .aastore, 1) ∈ M.2.2.2.2.2) (hs : S[a]? = some (kd, n)) (hkd : kd = 103 ∧ ci = 2 ∨ kd = 104 ∧ ci = 8) (hj : S[j]? = some (ci, nn)) (hin : vp_in i n) (kk : zx_V M d b Q S (pc + 1) lo st I L (zx_uR R a i.toNatClampNeg (some j))) : zx_V M d b Q S pc lo (.ref j :: .int i :: .ref a :: st) I L R := by
  intro p l e s m args below meth c D cA A ad0 ad n0 H locs ls hg hC hX hS hA hl hol hos hn0 had
  have h9 := hg.1 _ hd
  have hk100 : 100 ≤ kd := by omega
  have hrow : zx_row ad (I a) (L a) (zx_uR R a i.toNatClampNeg (some j) a) kd = .inr (.inr (.inr (.inr (va_up (fun q => (R a q).map ad) i.toNatClampNeg (some (ad j)))))) := by
    rw [zx_uR_at]
    have hf : (fun q => Option.map ad (va_up (R a) i.toNatClampNeg (some j) q)) = va_up (fun q => (R a q).map ad) i.toNatClampNeg (some (ad j)) := by
      funext q
      by_cases hq : q = i.toNatClampNeg
      · simp [va_up, hq]
      · simp [va_up, hq]
    rw [← hf]
    rcases hkd with ⟨rfl, -⟩ | ⟨rfl, -⟩ <;> rfl
  have hset : zx_W cA ad S I L (zx_uR R a i.toNatClampNeg (some j)) = (zx_W cA ad S I L R).set a (ad a, .inl (cA kd, n, .inr (.inr (.inr (.inr (va_up (fun q => (R a q).map ad) i.toNatClampNeg (some (ad j)))))))) := by
    rw [zx_W_aset hs hk100 (fun b hb => ⟨rfl, rfl, zx_uR_ne hb⟩), hrow]
  have hwf : ∀ x y k, zx_uR R a i.toNatClampNeg (some j) x y = some k → k < S.length := by
    intro x y k hk
    unfold zx_uR at hk
    by_cases hx : x = a
    · rw [if_pos hx] at hk
      by_cases hy : y = i.toNatClampNeg
      · rw [if_pos hy] at hk
        cases hk
        exact (List.getElem?_eq_some_iff.mp hj).1
      · rw [if_neg hy] at hk
        exact hX.2.2.2.2 _ _ k hk
    · rw [if_neg hx] at hk
      exact hX.2.2.2.2 _ _ k hk
  have he := zx_W_get (cA := cA) (ad := ad) (I := I) (L := L) (R := R) hj
  have ha := zx_W_arr (cA := cA) (ad := ad) (I := I) (L := L) (R := R) hs hk100
  have h8 : ∀ (H1 : Heap) (locs1 : List Loc), va_P D vwCl ((zx_W cA ad S I L R).set a (ad a, .inl (cA kd, n, .inr (.inr (.inr (.inr (va_up (fun q => (R a q).map ad) i.toNatClampNeg (some (ad j))))))))) H1 → va_D A ((zx_W cA ad S I L R).set a (ad a, .inl (cA kd, n, .inr (.inr (.inr (.inr (va_up (fun q => (R a q).map ad) i.toNatClampNeg (some (ad j))))))))) → va_S A s.heap H1 locs1 → W p l e (zx_rm d b.2.2.1 b.2.2.2) s m args below meth c H1 locs1 b.1 b.2.1 (MQ below (zx_Q D cA A ad0 n0 Q) args s b.2.2.1 b.2.2.2 A) (F0 m (pc + 1) ls (st.map (zx_rl ad))) := by
    intro H1 locs1 g1 g2 g3
    rw [← hset] at g1 g2
    exact kk p l e s m args below meth c D cA A ad0 ad n0 H1 locs1 ls hg hC ⟨g1, g2, hX.2.2.1, hX.2.2.2.1, hwf⟩ g3 hA hl hol (zo_t (zo_t (zo_t hos))) hn0 had
  rcases hkd with ⟨rfl, rfl⟩ | ⟨rfl, rfl⟩
  · exact va_astq (D := D) (r := (RX2, TX2, 14)) hC.1 hC.2.1 hX.2.2.1 hX.1 hX.2.1 hS a 3 j 2 ha rfl he rfl hin h9 h8
  · exact va_astq (D := D) (r := (RX8, TX8, 4)) hC.1 hC.2.1 hX.2.2.1 hX.1 hX.2.1 hS a 4 j 8 ha rfl he rfl hin h9 h8
end
