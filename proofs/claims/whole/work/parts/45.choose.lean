/-! who goes in: the class and the model -/
def frel (a ct : Nat) (first : Option Nat) (x : Int32) : Prop := (first = none ∧ x = -4) ∨ ∃ f, f < ct ∧ first = some (a + 4 + f) ∧ x = nI f
def rowok (r : Nat → Int32) (ct : Nat) : Prop := (∀ k, k < ct → ∃ x, x < ct ∧ r k = nI x) ∧ ∀ k, ct ≤ k → k < 6 → ∃ x, ct ≤ x ∧ x < 6 ∧ r k = nI x
theorem nI_diff {a b : Nat} (ha : a < 2 ^ 30) (hb : b < 2 ^ 30) : (0 ≤ nI a - nI b) ↔ b ≤ a := by
  rw [Int32.le_iff_toInt_le, pk_sub_toInt ha hb]
  have : (0 : Int32).toInt = 0 := rfl
  omega
theorem ch_pf_N {a ct t : Nat} {I : zx_I} {first : Option Nat} {x5 : Int32} {i : Nat} {J : zx_I} {rule : Int32} {α : Type} {f : Int32 → Option α} (hct : ct ≤ 6) (hi : i < ct) (hrule : I 34 0 = rule) (hr : hrl I a J ct) (hc : ∀ j, j < ct → J 12 j = I (a + 4 + j) 9 ∧ rg (I (a + 4 + j) 9) 0 100) (hp : ∀ j, j < ct → rg (I (a + 4 + j) 1) 1 99) (hf : frel a ct first x5) :
    ((if x5 = (-4 : Int32) then some ((-1 : Int32)) else (if rule = (3 : Int32) then ((mf_of (nI i) (0 : Int32) J).bind fun p121 => ((mf_of x5 (0 : Int32) J).bind fun p128 => some ((p121 - p128)))) else (mo_g (mo_in (nI i) 6) (mo_g (mo_in x5 6) (some (((J 12 (nI i).toNatClampNeg) - (J 12 x5.toNatClampNeg)))))))) : Option (Int32)).bind f = f (if ch_pf I (a + 4 + i) first = 0 then 0 else -1) ∨ ∃ v, ((if x5 = (-4 : Int32) then some ((-1 : Int32)) else (if rule = (3 : Int32) then ((mf_of (nI i) (0 : Int32) J).bind fun p121 => ((mf_of x5 (0 : Int32) J).bind fun p128 => some ((p121 - p128)))) else (mo_g (mo_in (nI i) 6) (mo_g (mo_in x5 6) (some (((J 12 (nI i).toNatClampNeg) - (J 12 x5.toNatClampNeg)))))))) : Option (Int32)).bind f = f v ∧ (0 ≤ v ↔ ch_pf I (a + 4 + i) first = 0) := by
  rcases hf with ⟨h1, h2⟩ | ⟨g, hg, h1, h2⟩
  · refine Or.inr ⟨-1, by rw [if_pos h2]; rfl, ?_⟩
    rw [h1]
    exact ⟨fun q => absurd q (by decide), fun q => absurd q (by show ¬ (1 : Int32) = 0; decide)⟩
  · have g31 : g < 2 ^ 31 := by omega
    refine Or.inr ?_
    rw [h2, if_neg (nI_ne4 g31), h1]
    show ∃ v, _ ∧ (0 ≤ v ↔ fa_pref I (a + 4 + i) (a + 4 + g) = 0)
    unfold fa_pref
    rw [hrule]
    by_cases q : rule = 3
    · rw [if_pos q, if_neg (fun z => z q), show (0 : Int32) = nI 0 from rfl, mf_of_ok (by omega) (by decide), Option.bind_some, mf_of_ok (by omega) (by decide), Option.bind_some, Option.bind_some]
      refine ⟨_, rfl, ?_⟩
      rw [hrl_b hr hi (by decide), hrl_b hr hg (by decide), show nI 0 = (0 : Int32) from rfl]
      obtain ⟨x, ex, -, hx⟩ := hp i hi
      obtain ⟨y, ey, -, hy⟩ := hp g hg
      rw [show I (a + 4 + i) (0 + 1) = nI x from ex, show I (a + 4 + g) (0 + 1) = nI y from ey, nI_diff (by omega) (by omega)]
      by_cases z : y ≤ x
      · rw [if_pos (show nI x ≥ nI y from nI_le z (by omega))]
        exact ⟨fun _ => rfl, fun _ => z⟩
      · rw [if_neg (show ¬ nI x ≥ nI y from nI_ge (by omega) (by omega))]
        exact ⟨fun w => absurd w z, fun w => absurd w (by decide)⟩
    · rw [if_neg q, if_pos q, mo_g1 (mo_inN (by omega) (by decide)), mo_g1 (mo_inN (by omega) (by decide)), nI_clamp (by omega), nI_clamp g31, Option.bind_some]
      refine ⟨_, rfl, ?_⟩
      obtain ⟨ei, x, ex, -, hx⟩ := hc i hi
      obtain ⟨eg, y, ey, -, hy⟩ := hc g hg
      rw [ei, eg, ex, ey, nI_diff (by omega) (by omega)]
      by_cases z : y ≤ x
      · rw [if_pos (show nI x ≥ nI y from nI_le z (by omega))]
        exact ⟨fun _ => rfl, fun _ => z⟩
      · rw [if_neg (show ¬ nI x ≥ nI y from nI_ge (by omega) (by omega))]
        exact ⟨fun w => absurd w z, fun w => absurd w (by decide)⟩
theorem ch_spec {n a t : Nat} {I J : zx_I} {la : Option Nat} {last rule : Int32} {m p c f ct Wn fr : Nat} {K : Int32 → zx_I → Option (Int32 × zx_I)} (ha : a = 4 ∨ a = 14) (hn : 200 ≤ n) (ht : t ≤ 60) (h : eb a t I la J last m p c f ct Wn fr) (hfr : fr ≤ t) (hrule : I 34 0 = rule) (hhot : J 0 8 = I 34 1) (hcm : ∀ j, j < ct → rg (I (a + 4 + j) 9) 0 100) :
    ∀ (d i k : Nat) (first : Option Nat) (x5 : Int32) (Jc Jm : zx_I), i + d = ct → d < k → eq40 Jc I → eqJ Jm J → frel a ct first x5 → ∃ x' Jm', mf_chosen_49 n rule (nI t) last K k x5 (nI i) Jm = K x' Jm' ∧ eqJ Jm' J ∧ frel a ct (ch_loop la a (nI t) (fe_hot I) d i first Jc).1 x' := by
  have hct : ct ≤ 6 := h.2.1.2.1
  intro d
  induction d with
  | zero =>
    intro i k first x5 Jc Jm hi hk h1 h2 hf
    obtain ⟨k, rfl⟩ : ∃ k9, k = k9 + 1 := ⟨k - 1, by omega⟩
    refine ⟨x5, Jm, ?_, h2, hf⟩
    show mf_chosen_49_b _ _ _ _ _ _ _ _ _ = _
    unfold mf_chosen_49_b mf_many
    rw [h2.1 3 (by decide), h.2.2.1 16 (by omega), show ho I a 16 = I a 13 from rfl, h.2.1.1, if_pos (nI_le (by omega) (by omega))]
  | succ d ih =>
    intro i k first x5 Jc Jm hi hk h1 h2 hf
    obtain ⟨k, rfl⟩ : ∃ k9, k = k9 + 1 := ⟨k - 1, by omega⟩
    have hic : i < ct := by omega
    have h' := eb_cg ha h h1 h2
    obtain ⟨J', e1, e2, e3⟩ := cg_spec ha hn ht h' hic hfr
    have e2' : eqJ J' J := eqJ_tr h2 e2
    have hpf : ∀ x, ch_pf Jc (a + 4 + x) first = ch_pf I (a + 4 + x) first ∨ ¬ x < 6 := by
      intro x
      by_cases hx : x < 6
      · refine Or.inl ?_
        rcases hf with ⟨q, -⟩ | ⟨g, hg, q, -⟩
        · rw [q]; rfl
        · rw [q]
          show fa_pref _ _ _ = fa_pref _ _ _
          unfold fa_pref
          have n1 : a + 4 + x ≠ 40 := by omega
          have n2 : a + 4 + g ≠ 40 := by omega
          rw [h1 34 (by decide), h1 _ n1, h1 _ n2]
      · exact Or.inr hx
    have hpf' : ch_pf Jc (a + 4 + i) first = ch_pf I (a + 4 + i) first := (hpf i).resolve_right (fun q => q (by omega))
    -- the model's part
    have hrl' : hrl I a J' ct := fun q hq => by rw [e2'.1 3 (by decide)]; exact h.2.2.1 q hq
    have hp1 : ∀ j, j < ct → rg (I (a + 4 + j) 1) 1 99 := fun j hj => (h.2.1.2.2 j hj).1
    have hcm' : ∀ j, j < ct → J' 12 j = I (a + 4 + j) 9 ∧ rg (I (a + 4 + j) 9) 0 100 := fun j hj => ⟨by rw [e2'.1 12 (by decide)]; exact h.2.2.2.2.2.2.1 j hj, hcm j hj⟩
    have less : ∀ (F : Int32 → Option (Int32 × zx_I)), ∃ v, ((if x5 = (-4 : Int32) then some ((-1 : Int32)) else (if rule = (3 : Int32) then ((mf_of (nI i) (0 : Int32) J').bind fun p121 => ((mf_of x5 (0 : Int32) J').bind fun p128 => some ((p121 - p128)))) else (mo_g (mo_in (nI i) 6) (mo_g (mo_in x5 6) (some (((J' 12 (nI i).toNatClampNeg) - (J' 12 x5.toNatClampNeg)))))))) : Option (Int32)).bind F = F v ∧ (0 ≤ v ↔ ch_pf I (a + 4 + i) first = 0) := by
      intro F
      rcases ch_pf_N (t := t) (f := F) hct hic hrule hrl' hcm' hp1 hf with q | q
      · by_cases z : ch_pf I (a + 4 + i) first = 0
        · exact ⟨0, by rw [q, if_pos z], ⟨fun _ => z, fun _ => by decide⟩⟩
        · exact ⟨-1, by rw [q, if_neg z], ⟨fun w => absurd w (by decide), fun w => absurd w z⟩⟩
      · exact q
    have fin : ∃ v : Int32, (if 0 ≤ v then mf_chosen_49 n rule (nI t) last K k x5 (nI i + 1) J' else mf_chosen_49 n rule (nI t) last K k (nI i) (nI i + 1) J') = (if ch_pf I (a + 4 + i) first = 0 then mf_chosen_49 n rule (nI t) last K k x5 (nI i + 1) J' else mf_chosen_49 n rule (nI t) last K k (nI i) (nI i + 1) J') ∧ ((if x5 = (-4 : Int32) then some ((-1 : Int32)) else (if rule = (3 : Int32) then ((mf_of (nI i) (0 : Int32) J').bind fun p121 => ((mf_of x5 (0 : Int32) J').bind fun p128 => some ((p121 - p128)))) else (mo_g (mo_in (nI i) 6) (mo_g (mo_in x5 6) (some (((J' 12 (nI i).toNatClampNeg) - (J' 12 x5.toNatClampNeg)))))))) : Option (Int32)).bind (fun v105 => (if 0 ≤ v105 then mf_chosen_49 n rule (nI t) last K k x5 (nI i + 1) J' else mf_chosen_49 n rule (nI t) last K k (nI i) (nI i + 1) J')) = (if 0 ≤ v then mf_chosen_49 n rule (nI t) last K k x5 (nI i + 1) J' else mf_chosen_49 n rule (nI t) last K k (nI i) (nI i + 1) J') := by
      obtain ⟨v, q1, q2⟩ := less (fun v105 => (if 0 ≤ v105 then mf_chosen_49 n rule (nI t) last K k x5 (nI i + 1) J' else mf_chosen_49 n rule (nI t) last K k (nI i) (nI i + 1) J'))
      refine ⟨v, ?_, q1⟩
      by_cases z : ch_pf I (a + 4 + i) first = 0
      · rw [if_pos (q2.mpr z), if_pos z]
      · rw [if_neg (fun w => z (q2.mp w)), if_neg z]
    obtain ⟨v, fin1, fin2⟩ := fin
    have fin3 := fin2.trans fin1
    have hsucc : nI i + 1 = nI (i + 1) := (nI_succ i).symm
    -- whether it is hot
    have hhot' : fe_hot I = if rule = 2 then (if (J' 10 0) / (J' 3 1) < J' 0 8 then 0 else 1) else 1 := by
      unfold fe_hot
      obtain ⟨t1, t2, t3, q1, q2, q3, q4, q5, q6⟩ := cpx_T ht h.1
      rw [hrule, e2'.1 10 (by decide), e2'.1 3 (by decide), e2'.2 8 (by decide) (by decide) (by decide), hhot, h.2.2.2.1 0 (by omega), h.2.2.1 1 (by omega), show ho I a 1 = I a 2 from rfl, h.1.1.2.1, t2]
      have : ft_unitsIn I 0 = I 38 0 := by
        unfold ft_unitsIn
        rw [if_neg (by decide), t1, if_pos (show (0 : Int32) < nI m from nI_lt (a := 0) (by omega) (by omega))]
        rfl
      rw [this]
    have hnz : mo_nz (J' 3 1) = true := by
      rw [e2'.1 3 (by decide), h.2.2.1 1 (by omega), show ho I a 1 = I a 2 from rfl, h.1.1.2.1]
      obtain ⟨t1, t2, t3, q1, q2, q3, q4, q5, q6⟩ := cpx_T ht h.1
      exact mo_nzN q3 (by omega)
    have body : mf_chosen_49 n rule (nI t) last K (k + 1) x5 (nI i) Jm = if fe_can Jc la a (a + 4 + i) (nI t) = 0 then mf_chosen_49 n rule (nI t) last K k x5 (nI (i + 1)) J' else if fe_hot I = 0 ∧ J' 0 33 = 0 then mf_chosen_49 n rule (nI t) last K k x5 (nI (i + 1)) J' else if ch_pf I (a + 4 + i) first = 0 then mf_chosen_49 n rule (nI t) last K k x5 (nI (i + 1)) J' else mf_chosen_49 n rule (nI t) last K k (nI i) (nI (i + 1)) J' := by
      rw [hsucc] at fin3
      show mf_chosen_49_b _ _ _ _ _ _ _ _ _ = _
      unfold mf_chosen_49_b mf_many
      rw [h2.1 3 (by decide), h.2.2.1 16 (by omega), show ho I a 16 = I a 13 from rfl, h.2.1.1, if_neg (nI_ge (by omega) (by omega)), e1, Option.bind_some, hsucc]
      dsimp only
      by_cases c1 : fe_can Jc la a (a + 4 + i) (nI t) = 0
      · rw [if_pos c1, if_pos c1]
      · rw [if_neg c1, if_neg c1, hhot']
        by_cases c2 : rule = 2
        · rw [if_pos c2, if_pos c2]
          by_cases c3 : J' 0 33 = 0
          · rw [if_pos c3, mo_g1 hnz]
            by_cases c4 : J' 10 0 / J' 3 1 < J' 0 8
            · rw [if_pos c4, if_pos c4, if_pos ⟨rfl, c3⟩]
            · rw [if_neg c4, if_neg c4, if_neg (show ¬ ((1 : Int32) = 0 ∧ J' 0 33 = 0) from fun q => absurd q.1 (by decide))]
              exact fin3
          · rw [if_neg c3, if_neg (c := _ ∧ J' 0 33 = 0) (fun q => c3 q.2)]
            exact fin3
        · rw [if_neg c2, if_neg c2, if_neg (show ¬ ((1 : Int32) = 0 ∧ J' 0 33 = 0) from fun q => absurd q.1 (by decide))]
          exact fin3
    rw [body, ch_loop, hpf']
    by_cases c1 : fe_can Jc la a (a + 4 + i) (nI t) = 0
    · rw [if_pos c1]
      by_cases c2 : ch_pf I (a + 4 + i) first = 0
      · rw [if_pos c2]
        exact ih (i + 1) k first x5 Jc J' (by omega) (by omega) h1 e2' hf
      · rw [if_neg c2, if_pos c1]
        exact ih (i + 1) k first x5 _ J' (by omega) (by omega) (eq40_canm h1) e2' hf
    · obtain ⟨-, -, e33, -⟩ := e3 c1
      rw [if_neg c1, e33]
      by_cases c2 : ch_pf I (a + 4 + i) first = 0
      · rw [if_pos c2, if_pos c2, ite_self]
        exact ih (i + 1) k first x5 Jc J' (by omega) (by omega) h1 e2' hf
      · rw [if_neg c2, if_neg c2, if_neg c1]
        by_cases c3 : fe_hot I = 0
        · rw [if_pos c3]
          by_cases c4 : fe_canm Jc la a (a + 4 + i) (nI t) 40 3 = 0
          · rw [if_pos ⟨c3, c4⟩, if_pos c4]
            exact ih (i + 1) k first x5 _ J' (by omega) (by omega) (eq40_canm h1) e2' hf
          · rw [if_neg (fun q => c4 q.2), if_neg c4]
            exact ih (i + 1) k (some (a + 4 + i)) (nI i) _ J' (by omega) (by omega) (eq40_canm h1) e2' (Or.inr ⟨i, hic, rfl, rfl⟩)
        · rw [if_neg (fun q => c3 q.1), if_neg c3]
          exact ih (i + 1) k (some (a + 4 + i)) (nI i) _ J' (by omega) (by omega) (eq40_canm h1) e2' (Or.inr ⟨i, hic, rfl, rfl⟩)
