/-! rules of fields, arrays, making, answers, entry -/
def zx_pv (t : Nat) (i : Int32) (l : Int64) (r : Option Nat) : Value := if t = 1 then .long l else if t = 2 then va_rf r else .int i
theorem zx_v_pv (ad : Nat → Nat) (I : Nat → Int32) (L : Nat → Int64) (R : Nat → Option Nat) (t k : Nat) : zx_v ad I L R t k = zx_rl ad (zx_pv t (I k) (L k) (R k)) := by
  unfold zx_v zx_pv
  by_cases h1 : t = 1
  · simp [h1, zx_rl]
  · by_cases h2 : t = 2
    · simp [h2, zx_rl_rf]
    · simp [h1, h2, zx_rl]
theorem zx_pv_ok {n t : Nat} {i : Int32} {l : Int64} {r : Option Nat} (h : ∀ j, r = some j → j < n) : zx_ok n (zx_pv t i l r) := by
  unfold zx_pv
  by_cases h1 : t = 1
  · simp [h1, zx_ok]
  · by_cases h2 : t = 2
    · simp only [h2]
      cases hr : r with
      | none => trivial
      | some j => exact h j hr
    · simp [h1, h2, zx_ok]
def zx_uI (I : zx_I) (a k : Nat) (v : Int32) : zx_I := fun x y => if x = a then (if y = k then v else I x y) else I x y
def zx_uL (I : zx_L) (a k : Nat) (v : Int64) : zx_L := fun x y => if x = a then (if y = k then v else I x y) else I x y
def zx_uR (I : zx_R) (a k : Nat) (v : Option Nat) : zx_R := fun x y => if x = a then (if y = k then v else I x y) else I x y
theorem zx_uI_ne {I : zx_I} {a k b : Nat} {v : Int32} (h : b ≠ a) : zx_uI I a k v b = I b := by funext y; simp [zx_uI, h]
theorem zx_uL_ne {I : zx_L} {a k b : Nat} {v : Int64} (h : b ≠ a) : zx_uL I a k v b = I b := by funext y; simp [zx_uL, h]
theorem zx_uR_ne {I : zx_R} {a k b : Nat} {v : Option Nat} (h : b ≠ a) : zx_uR I a k v b = I b := by funext y; simp [zx_uR, h]
theorem zx_uI_at {I : zx_I} {a k : Nat} {v : Int32} : zx_uI I a k v a = upd (I a) k v := by funext y; simp [zx_uI, upd]
theorem zx_uL_at {I : zx_L} {a k : Nat} {v : Int64} : zx_uL I a k v a = vp_updL (I a) k v := by funext y; simp [zx_uL, vp_updL]
theorem zx_uR_at {I : zx_R} {a k : Nat} {v : Option Nat} : zx_uR I a k v a = va_up (I a) k v := by funext y; simp [zx_uR, va_up]
theorem zx_W_put {cA : Nat → ClassId} {ad : Nat → Nat} {S : zx_S} {I I' : zx_I} {L L' : zx_L} {R R' : zx_R} {a ci n k t : Nat} (hs : S[a]? = some (ci, n)) (hci : ci < 100) (ht : (zt_T.getD ci [])[k]? = some t) (ho : ∀ b, b ≠ a → I' b = I b ∧ L' b = L b ∧ R' b = R b) (hr : ∀ j, j ≠ k → I' a j = I a j ∧ L' a j = L a j ∧ R' a j = R a j) :
    zx_W cA ad S I' L' R' = (zx_W cA ad S I L R).set a (ad a, .inr (ci, (zx_fs ad (I a) (L a) (R a) (zt_T.getD ci []) 0).set k (zx_v ad (I' a) (L' a) (R' a) t k))) := by
  rw [zx_W_set hs ho]
  have h1 : zx_e cA ad (I' a) (L' a) (R' a) (ci, n) = .inr (ci, zx_fs ad (I' a) (L' a) (R' a) (zt_T.getD ci []) 0) := if_pos hci
  rw [h1, zx_fs_set ht (fun j u hj _ => by
    obtain ⟨e1, e2, e3⟩ := hr j hj
    unfold zx_v
    rw [e1, e2, e3])]
def zx_fin (ci k : Nat) : Bool := match vwCl[ci]? with
  | some (_, T, _) => (T k).2.2.2
  | none => true
def zx_may (M : zx_M) (ci k : Nat) : Bool := !zx_fin ci k || (decide (M.1.name = "<init>") && decide (ci = M.2.2.2.2.1))
theorem zx_S_lt {S : zx_S} {a : Nat} {q : Nat × Nat} (h : S[a]? = some q) : a < S.length := (List.getElem?_eq_some_iff.mp h).1
section
variable {M : zx_M} {d : Nat} {b : zx_B} {Q : zx_Qt} {S : zx_S} {pc : Nat} {lo : List (Option Value)} {st : List Value} {I : zx_I} {L : zx_L} {R : zx_R}
theorem zv_get {idx a ci k t n : Nat} (hd : (pc, .getfield idx, 3) ∈ M.2.2.2.2.2) (hf : zfo M.2.2.2.2.1 idx ci k) (hs : S[a]? = some (ci, n)) (ht : (zt_T.getD ci [])[k]? = some t) (kk : zx_V M d b Q S (pc + 3) lo (zx_pv t (I a k) (L a k) (R a k) :: st) I L R) : zx_V M d b Q S pc lo (.ref a :: st) I L R := by
  intro p l e s m args below meth c D cA A ad0 ad n0 H locs ls hg hC hX hS hA hl hol hos hn0 had
  have h9 := hg.1 _ hd
  obtain ⟨own, C, T, N, ty, ho, hk, hkN, hw⟩ := hf
  have hown : own = M.1.cls := Option.some.inj (ho.symm.trans hg.2.2.2.1)
  subst hown
  have he := zx_W_get (cA := cA) (ad := ad) (I := I) (L := L) (R := R) hs
  have hfs : zx_e cA ad (I a) (L a) (R a) (ci, n) = .inr (ci, zx_fs ad (I a) (L a) (R a) (zt_T.getD ci []) 0) := if_pos hk.2.2.2.2.2.1
  rw [hfs] at he
  have hv : (zx_fs ad (I a) (L a) (R a) (zt_T.getD ci []) 0)[k]? = some (zx_rl ad (zx_pv t (I a k) (L a k) (R a k))) := by rw [zx_fs_get, ht]; simp [zx_v_pv]
  have h8 := kk p l e s m args below meth c D cA A ad0 ad n0 H locs ls hg hC hX hS hA hl hol (zo_c (zx_pv_ok (fun j hj => hX.2.2.2.2 a k j hj)) (zo_t hos)) hn0 had
  have hC1 := hk.2.2.2.2.2.2.2.1 k hkN
  have hsame : ∀ x, s.fieldFound? (T k).1 (T k).2.1 (T k).2.2.1 = some x → s.fieldFound? C (T k).2.1 (T k).2.2.1 = some x := by rw [hC1]; exact fun _ h => h
  rcases hw with hw | ⟨h, hw⟩
  · exact va_get (D := D) hC.1 hC.2.1 hC.2.2.2.2.2.1 hk.2.1 hC.2.2.2.2.1 hX.2.2.1 hX.1 a he hk.1 k hkN (hC.2.2.2.2.2.1 _ hw) hsame hv h9 h8
  · exact va_getN (D := D) hC.1 hC.2.1 hC.2.2.2.2.2.1 hk.2.1 hC.2.2.2.2.1 hX.2.2.1 hX.1 a he hk.1 k hkN (va_Nw.use rfl (hX.2.2.2.1 _ hw)) hsame hv h9 h8
/-- a write into a field, of any kind -/
theorem zv_put {idx a ci k t n : Nat} {v : Value} {I' : zx_I} {L' : zx_L} {R' : zx_R} (hd : (pc, .putfield idx, 3) ∈ M.2.2.2.2.2) (hf : zfo M.2.2.2.2.1 idx ci k) (hs : S[a]? = some (ci, n)) (ht : (zt_T.getD ci [])[k]? = some t) (hm : zx_may M ci k = true)
    (hv : v = zx_pv t (I' a k) (L' a k) (R' a k)) (hb : t = 3 → I' a k = 0 ∨ I' a k = 1)
    (ho : ∀ b, b ≠ a → I' b = I b ∧ L' b = L b ∧ R' b = R b) (hr : ∀ j, j ≠ k → I' a j = I a j ∧ L' a j = L a j ∧ R' a j = R a j) (hR : ∀ i, R' a k = some i → R a k = some i ∨ v = .ref i)
    (kk : zx_V M d b Q S (pc + 3) lo st I' L' R') : zx_V M d b Q S pc lo (v :: .ref a :: st) I L R := by
  intro p l e s m args below meth c D cA A ad0 ad n0 H locs ls hg hC hX hS hA hl hol hos hn0 had
  have h9 := hg.1 _ hd
  obtain ⟨own, C, T, N, ty, hw0, hk, hkN, hw⟩ := hf
  have hown : own = M.1.cls := Option.some.inj (hw0.symm.trans hg.2.2.2.1)
  subst hown
  have he := zx_W_get (cA := cA) (ad := ad) (I := I) (L := L) (R := R) hs
  have hfs : zx_e cA ad (I a) (L a) (R a) (ci, n) = .inr (ci, zx_fs ad (I a) (L a) (R a) (zt_T.getD ci []) 0) := if_pos hk.2.2.2.2.2.1
  rw [hfs] at he
  have htc : t = zk_code (ty k) := Option.some.inj (ht.symm.trans (hk.2.2.2.2.1 k hkN))
  have hval : zx_rl ad v = zx_v ad (I' a) (L' a) (R' a) t k := by rw [zx_v_pv, hv]
  have hnf : narrow (ty k) (zx_rl ad v) = zx_rl ad v ∧ fits (ty k) (zx_rl ad v) = true := by
    rw [hval]
    unfold zx_v
    rcases hk.2.2.2.2.2.2.2.2 k hkN with h | h | h | h
    · rw [htc, h]; exact ⟨rfl, rfl⟩
    · rw [htc, h]; exact ⟨rfl, rfl⟩
    · have h3 : t = 3 := by rw [htc, h]; rfl
      rcases hb h3 with h5 | h5 <;> (rw [htc, h, h5]; exact ⟨by decide, by decide⟩)
    · have h2 : t = 2 := by rw [htc, h]
      have h4 : ∃ w, ty k = .object w ∨ ∃ w, ty k = .array w := by
        cases hty : ty k with
        | object w => exact ⟨w, Or.inl rfl⟩
        | array w => exact ⟨"", Or.inr ⟨w, rfl⟩⟩
        | _ => rw [hty] at h; exact absurd h (by decide)
      rw [h2, if_neg (by decide), if_pos rfl]
      obtain ⟨w, h4 | ⟨w, h4⟩⟩ := h4 <;> rw [h4] <;> cases R' a k <;> exact ⟨rfl, rfl⟩
  have hlen : k < (zx_fs ad (I a) (L a) (R a) (zt_T.getD ci []) 0).length := by rw [zx_fs_len, hk.2.2.2.2.2.2.1]; exact hkN
  have hC1 := hk.2.2.2.2.2.2.2.1 k hkN
  have hsame : ∀ x, s.fieldFound? (T k).1 (T k).2.1 (T k).2.2.1 = some x → s.fieldFound? C (T k).2.1 (T k).2.2.1 = some x := by rw [hC1]; exact fun _ h => h
  have hwf : ∀ x y j, R' x y = some j → j < S.length := by
    intro x y j hj
    by_cases hx : x = a
    · subst hx
      by_cases hy : y = k
      · subst hy
        rcases hR j hj with h | h
        · exact hX.2.2.2.2 _ _ j h
        · have := zo_h hos
          rw [h] at this
          exact this
      · rw [(hr y hy).2.2] at hj
        exact hX.2.2.2.2 _ _ j hj
    · rw [(ho x hx).2.2] at hj
      exact hX.2.2.2.2 _ _ j hj
  have hset : (zx_W cA ad S I L R).set a (ad a, .inr (ci, (zx_fs ad (I a) (L a) (R a) (zt_T.getD ci []) 0).set k (zx_rl ad v))) = zx_W cA ad S I' L' R' := by rw [hval]; exact (zx_W_put hs hk.2.2.2.2.2.1 ht ho hr).symm
  have h8 : ∀ (H1 : Heap) (locs1 : List Loc), va_P D vwCl ((zx_W cA ad S I L R).set a (ad a, .inr (ci, (zx_fs ad (I a) (L a) (R a) (zt_T.getD ci []) 0).set k (zx_rl ad v)))) H1 → va_D A ((zx_W cA ad S I L R).set a (ad a, .inr (ci, (zx_fs ad (I a) (L a) (R a) (zt_T.getD ci []) 0).set k (zx_rl ad v)))) → va_S A s.heap H1 locs1 → W p l e (zx_rm d b.2.2.1 b.2.2.2) s m args below meth c H1 locs1 b.1 b.2.1 (MQ below (zx_Q D cA A ad0 n0 Q) args s b.2.2.1 b.2.2.2 A) (F0 m (pc + 3) ls (st.map (zx_rl ad))) := by
    intro H1 locs1 g1 g2 g3
    rw [hset] at g1 g2
    exact kk p l e s m args below meth c D cA A ad0 ad n0 H1 locs1 ls hg hC ⟨g1, g2, hX.2.2.1, hX.2.2.2.1, hwf⟩ g3 hA hl hol (zo_t (zo_t hos)) hn0 had
  have hcl : zx_fin ci k = (T k).2.2.2 := by unfold zx_fin; rw [hk.1]
  by_cases hfin : (T k).2.2.2 = true
  · have hq : M.1.name = "<init>" ∧ ci = M.2.2.2.2.1 := by
      unfold zx_may at hm
      rw [hcl, hfin] at hm
      simpa using hm
    have hCo : C = M.1.cls := by
      have h1 : vwCl[M.2.2.2.2.1]? = some (C, T, N) := by rw [← hq.2]; exact hk.1
      have hlt : M.2.2.2.2.1 < 11 := (List.getElem?_eq_some_iff.mp h1).1
      have h2 := hg.2.2.2.1
      generalize M.2.2.2.2.1 = o at h1 h2 hlt
      have h3 : zt_own[o]? = (vwCl[o]?).map (fun q => q.1) := by
        match o, hlt with
        | 0, _ => rfl
        | 1, _ => rfl
        | 2, _ => rfl
        | 3, _ => rfl
        | 4, _ => rfl
        | 5, _ => rfl
        | 6, _ => rfl
        | 7, _ => rfl
        | 8, _ => rfl
        | 9, _ => rfl
        | 10, _ => rfl
        | n + 11, h => exact absurd h (by omega)
      rw [h1] at h3
      exact Option.some.inj (h3.symm.trans h2)
    rcases hw with hw | ⟨h, hw⟩
    · exact va_putF (D := D) hC.1 hC.2.1 hC.2.2.2.2.2.1 hk.2.1 ty hk.2.2.1 hk.2.2.2.1 hC.2.2.2.2.1 hX.2.2.1 hX.1 hX.2.1 hS a he hk.1 k hkN (hC.2.2.2.2.2.1 _ hw) hsame hfin (by rw [hC.2.2.2.2.2.2.2]; exact hq.1) (hC1.trans hCo) (hk.2.2.1 k hkN) hnf.1 hnf.2 hlen h9 h8
    · sorry
  · have hfin' : (T k).2.2.2 = false := by simpa using hfin
    rcases hw with hw | ⟨h, hw⟩
    · exact va_put (D := D) hC.1 hC.2.1 hC.2.2.2.2.2.1 hk.2.1 ty hk.2.2.1 hk.2.2.2.1 hC.2.2.2.2.1 hX.2.2.1 hX.1 hX.2.1 hS a he hk.1 k hkN (hC.2.2.2.2.2.1 _ hw) hsame hfin' (hk.2.2.1 k hkN) hnf.1 hnf.2 hlen h9 h8
    · exact va_putN (D := D) hC.1 hC.2.1 hC.2.2.2.2.2.1 hk.2.1 ty hk.2.2.1 hk.2.2.2.1 hC.2.2.2.2.1 hX.2.2.1 hX.1 hX.2.1 hS a he hk.1 k hkN (va_Nw.use rfl (hX.2.2.2.1 _ hw)) hsame hfin' (hk.2.2.1 k hkN) hnf.1 hnf.2 hlen h9 h8
end
