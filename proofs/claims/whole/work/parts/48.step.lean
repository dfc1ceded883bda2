/-! a step of an evening: the model's in pieces -/
def mo_up (x2 : Int64) (x7 : Int32) (J : zx_I) : Option zx_I := (if (lg_cmp ((x2 >>> (x7.toInt64 &&& 63)) &&& (1 : Int64)) (1 : Int64)) = 0 then (if (J 0 26) ≤ 0 then some (J) else some ((zx_uI (zx_uI (zx_uI J 0 24 3) 0 25 (J 3 10)) 0 26 ((J 0 26) - 1)))) else some (J))
def mo_ch (n : Nat) (x1 x5 x6 x7 : Int32) (v107 : zx_I) : Option (Int32 × zx_I) := (if x5 = (-4 : Int32) then ((mf_chosen n x1 x7 x5 x6 v107).bind fun p170 => some (p170.1, p170.2)) else (mo_g (mo_in x5 6) (if x7 < (v107 14 x5.toNatClampNeg) then some ((-4 : Int32), v107) else ((mf_chosen n x1 x7 x5 x6 v107).bind fun p170 => some (p170.1, p170.2)))))
def mo_gs9 (n : Nat) (x5 x6 x7 : Int32) (v147 : Int32 × zx_I) : Option (Int32 × Int32 × zx_I) := (if v147.1 = (-4 : Int32) then some (x5, x6, v147.2) else ((mf_canGo n v147.1 x7 x5 v147.2).bind fun p194 => (((if (p194.2 0 33) = 0 then (if (x7 - (p194.2 0 27)) < (p194.2 3 14) then some ((0 : Int32)) else ((mf_of v147.1 (0 : Int32) p194.2).bind fun p238 => (if p238 < (p194.2 3 13) then some ((0 : Int32)) else some ((1 : Int32))))) else some ((0 : Int32))) : Option (Int32)).bind fun v212 => ((mf_draw n (p194.2 0 31) p194.2).bind fun p256 => (mo_g (mo_in v147.1 6) ((mf_of v147.1 (3 : Int32) (zx_uI p256 13 v147.1.toNatClampNeg x7)).bind fun p280 => (mo_g (mo_in v147.1 6) (mo_g (mo_in v147.1 6) (mo_g (mo_in v147.1 6) (((if p194.1 = 0 then some ((p256 0 27)) else (if v212 = 0 then some ((p256 0 27)) else some (x7))) : Option (Int32)).bind fun v310 => some (v147.1, (x6 + 1), (zx_uI (zx_uI (zx_uI (zx_uI (zx_uI p256 13 v147.1.toNatClampNeg x7) 14 v147.1.toNatClampNeg (x7 + p280)) 15 v147.1.toNatClampNeg (p256 0 32)) 16 v147.1.toNatClampNeg (p256 0 31)) 0 27 v310))))))))))))
def mo_tp (n : Nat) (x7 : Int32) (v : zx_I) : Option zx_I := (if x7 < (v 0 28) then some (v) else (if ((v 0 28) + (v 0 29)) ≤ x7 then some (v) else (((if (mf_holds v) ≤ (v 0 30) then some ((mf_holds v)) else some ((v 0 30))) : Option (Int32)).bind fun v369 => ((mf_draw n v369 v).bind fun p383 => some (p383)))))
theorem mo_body {n : Nat} {x1 x5 x6 x7 : Int32} {x2 : Int64} {K : zx_I → Option (Int32 × zx_I)} {Z : Int32 → Int32 → Int32 → zx_I → Option (Int32 × zx_I)} {J : zx_I} : mf_goThrough_87_b n x1 x2 K Z x5 x6 x7 J = if (J 3 15) ≤ x7 then K J else ((mo_up x2 x7 J).bind fun v107 => ((mo_ch n x1 x5 x6 x7 v107).bind fun v147 => ((mo_gs9 n x5 x6 x7 v147).bind fun v184 => ((mo_tp n x7 v184.2.2).bind fun v343 => ((mf_warm n v343).bind fun p387 => Z v184.1 v184.2.1 (x7 + 1) p387))))) := rfl
theorem mo_gs9_no {n : Nat} {x5 x6 x7 : Int32} {J : zx_I} : mo_gs9 n x5 x6 x7 (-4, J) = some (x5, x6, J) := rfl
theorem mo_gs9_is {n i : Nat} {x5 x6 x7 b : Int32} {J J1 : zx_I} (hi : i < 2 ^ 31) (h : mf_canGo n (nI i) x7 x5 J = some (b, J1)) : mo_gs9 n x5 x6 x7 (nI i, J) = mo_go n i x7 x6 b J1 := by
  unfold mo_gs9
  rw [if_neg (show ¬ (nI i, J).1 = -4 from nI_ne4 hi), show mf_canGo n (nI i, J).1 x7 x5 (nI i, J).2 = some (b, J1) from h]
  rfl
/-! a bit is planned -/
theorem bit01 (x : Int64) : x &&& 1 = 0 ∨ x &&& 1 = 1 := by
  have e : (x &&& 1).toBitVec = BitVec.setWidth 64 (BitVec.ofBool (x.toBitVec.getLsbD 0)) := by
    rw [Int64.toBitVec_and]
    exact BitVec.and_one_eq_setWidth_ofBool_getLsbD
  cases h : x.toBitVec.getLsbD 0 with
  | false =>
    rw [h] at e
    exact Or.inl (Int64.toBitVec_inj.mp (e.trans (by decide)))
  | true =>
    rw [h] at e
    exact Or.inr (Int64.toBitVec_inj.mp (e.trans (by decide)))
theorem bit_cmp (x : Int64) : (lg_cmp (x &&& 1) 1 = 0) ↔ ¬ lg_cmp (x &&& 1) 0 = 0 := by
  rcases bit01 x with h | h
  · rw [h]; decide
  · rw [h]; decide
/-! the fire of both -/
def frl (I J : zx_I) (a : Nat) : Prop := J 0 26 = I 39 2 ∧ ∃ s, s ≤ 3 ∧ I 39 0 = nI s ∧ J 0 24 = nI s ∧ (1 ≤ s → ∃ l g, I (a + 2) s = nI l ∧ l ≤ 30 ∧ g < l ∧ I 39 1 = nI g ∧ J 0 25 = nI (l - g))
/-- what an evening leaves of the model's memory -/
def mkeep (J J' : zx_I) : Prop := (∀ b, b ≠ 0 → b ≠ 10 → b ≠ 11 → b ≠ 13 → b ≠ 14 → b ≠ 15 → b ≠ 16 → J' b = J b) ∧ ∀ k, k < 24 ∨ (27 < k ∧ k < 31) ∨ 33 < k → J' 0 k = J 0 k
theorem mkeep_rf {J : zx_I} : mkeep J J := ⟨fun _ _ _ _ _ _ _ _ => rfl, fun _ _ => rfl⟩
theorem mkeep_tr {J K M : zx_I} (h1 : mkeep J K) (h2 : mkeep K M) : mkeep J M := ⟨fun b a1 a2 a3 a4 a5 a6 a7 => (h2.1 b a1 a2 a3 a4 a5 a6 a7).trans (h1.1 b a1 a2 a3 a4 a5 a6 a7), fun k hk => (h2.2 k hk).trans (h1.2 k hk)⟩
theorem mkeep_eqJ {J J' : zx_I} (h : eqJ J' J) : mkeep J J' := ⟨fun b a1 _ _ _ _ _ _ => h.1 b a1, fun k hk => h.2 k (by omega) (by omega) (by omega)⟩
/-- the tap of both -/
def tpr (I J : zx_I) : Prop := (I 34 6 = 0 ∧ J 0 29 = 0) ∨ (I 34 5 = J 0 28 ∧ I 34 6 = J 0 29 ∧ I 34 7 = J 0 30)
def sb (B a t : Nat) (I : zx_I) (la : Option Nat) (J : zx_I) (last : Int32) (nx : Nat) (rule : Int32) (m p c f ct Wn fr : Nat) : Prop :=
  eb a t I la J last m p c f ct Wn fr ∧ frl I J a ∧ (I 36 7 = nI nx ∧ nx ≤ B) ∧ (I 34 0 = rule ∧ J 0 8 = I 34 1) ∧ (∀ k, k < 6 → J 17 k = I 35 k) ∧ rowok (I 35) ct ∧ (∀ j, j < ct → rg (I (a + 4 + j) 9) 0 100) ∧ tpr I J
theorem eb_39 {a t : Nat} {I I' : zx_I} {la : Option Nat} {J J' : zx_I} {last : Int32} {m p c f ct Wn fr : Nat} (ha : a = 4 ∨ a = 14) (h : eb a t I la J last m p c f ct Wn fr) (h1 : ∀ b, b ≠ 39 → I' b = I b) (h2 : ∀ b, b ≠ 0 → J' b = J b) (h3 : J' 0 27 = J 0 27) : eb a t I' la J' last m p c f ct Wn fr := by
  obtain ⟨a1, ⟨b1, b2, b3⟩, a3, a4, a5, a6, a7, ⟨c1, c2, c3⟩, ⟨d1, d2⟩, a10⟩ := h
  have ea := h1 a (by omega)
  have e36 := h1 36 (by decide)
  have e38 := h1 38 (by decide)
  have eb : ∀ i, i < 6 → I' (a + 4 + i) = I (a + 4 + i) := fun i hi => h1 _ (by omega)
  have hfx : fx I I' := fx_of (r := 39) (by omega) h1
  have hs : hsame I I' a := hsame_fx ha hfx
  refine ⟨cpx_fx ha a1 hfx (by rw [e38]; exact a1.2.2.2.2.2.1) a1.2.2.2.2.2.2.2, ⟨by rw [ea]; exact b1, b2, fun i hi => by rw [eb i (by omega)]; exact b3 i hi⟩, fun k hk => ?_, fun j hj => ?_, ?_, fun i hi => ?_, fun i hi => ?_, ⟨by rw [e36]; exact c1, c2, fun i hi => by rw [eb i hi]; exact c3 i hi⟩, ⟨by rw [e36]; exact d1, d2⟩, ?_⟩
  · rw [h2 3 (by decide), ho_cg hs b2 hk]
    exact a3 k hk
  · rw [h2 10 (by decide), e38]
    exact a4 j hj
  · rw [ea, e36, h3]
    exact a5
  · rw [h2 13 (by decide), h2 14 (by decide), h2 15 (by decide), h2 16 (by decide), eb i hi]
    exact a6 i hi
  · rw [h2 12 (by decide), eb i (by omega)]
    exact a7 i hi
  · rcases a10 with q | ⟨i, q1, q2, q3, q4, q5⟩
    · exact Or.inl q
    · exact Or.inr ⟨i, q1, q2, q3, by rw [eb i (by omega)]; exact q4, by rw [eb i (by omega)]; exact q5⟩
theorem hr_st {I : zx_I} {a s : Nat} (h : hvr I a) (h1 : 1 ≤ s) (h3 : s ≤ 3) : ∃ g l, I (a + 1) s = nI g ∧ g ≤ 10998 ∧ I (a + 2) s = nI l ∧ 1 ≤ l ∧ l ≤ 30 := by
  obtain ⟨⟨g, e1, -, g2⟩, ⟨l, e2, l1, l2⟩⟩ := h.2.1 s h1 h3
  exact ⟨g, l, e1, g2, e2, l1, l2⟩
theorem up_spec {B a t : Nat} {I J : zx_I} {L : zx_L} {la : Option Nat} {last rule : Int32} {nx : Nat} {m p c f ct Wn fr : Nat} (ha : a = 4 ∨ a = 14) (h : sb B a t I la J last nx rule m p c f ct Wn fr) : ∃ J', mo_up (L 34 3) (nI t) J = some J' ∧ sb B a t (fe_up I L (nI t)) la J' last nx rule m p c f ct Wn fr ∧ mkeep J J' := by
  obtain ⟨h1, h2, h3, h4, h5, h6, h7, h8⟩ := h
  have hb := bit_cmp (L 34 3 >>> ((nI t).toInt64 &&& 63))
  have h0 : ∀ (I' J' : zx_I), (∀ b, b ≠ 39 → I' b = I b) → (∀ b, b ≠ 0 → J' b = J b) → (∀ k, k < 24 ∨ 26 < k → J' 0 k = J 0 k) → frl I' J' a → sb B a t I' la J' last nx rule m p c f ct Wn fr ∧ mkeep J J' := by
    intro I' J' q1 q2 q3 q4
    have e36 := q1 36 (by decide)
    have e34 := q1 34 (by decide)
    have e35 := q1 35 (by decide)
    refine ⟨⟨eb_39 ha h1 q1 q2 (q3 27 (by omega)), q4, by rw [e36]; exact h3, by rw [e34, q3 8 (by omega)]; exact h4, fun k hk => by rw [q2 17 (by decide), e35]; exact h5 k hk, by rw [e35]; exact h6, fun j hj => ?_, ?_⟩, fun b z _ _ _ _ _ _ => q2 b z, fun k hk => q3 k (by omega)⟩
    · rw [q1 _ (by have := h1.2.1.2.1; omega)]
      exact h7 j hj
    · unfold tpr
      rw [e34, q3 28 (by omega), q3 29 (by omega), q3 30 (by omega)]
      exact h8
  unfold mo_up fe_up fa_plans
  by_cases c1 : lg_cmp (L 34 3 >>> ((nI t).toInt64 &&& 63) &&& 1) 0 = 0
  · rw [if_pos c1, if_pos rfl, if_neg (fun q => hb.mp q c1)]
    obtain ⟨z1, z2⟩ := h0 I J (fun _ _ => rfl) (fun _ _ => rfl) (fun _ _ => rfl) h2
    exact ⟨J, rfl, z1, z2⟩
  · rw [if_neg c1, if_pos (hb.mpr c1), if_neg (show ¬ (1 : Int32) = 0 by decide)]
    obtain ⟨e26, s, s3, es, ej, hs⟩ := h2
    unfold ff_up
    rw [e26]
    by_cases c2 : I 39 2 ≤ 0
    · rw [if_pos c2, if_pos c2]
      obtain ⟨z1, z2⟩ := h0 I J (fun _ _ => rfl) (fun _ _ => rfl) (fun _ _ => rfl) ⟨e26, s, s3, es, ej, hs⟩
      exact ⟨J, rfl, z1, z2⟩
    · rw [if_neg c2, if_neg c2]
      have hh : J 3 10 = I (a + 2) 3 := h1.2.2.1 10 (by omega)
      obtain ⟨g9, l, -, -, el, l1, l2⟩ := hr_st h1.1.2.1 (show 1 ≤ 3 by decide) (show 3 ≤ 3 by decide)
      have key : frl (zx_uI (zx_uI (zx_uI I 39 2 (I 39 2 - 1)) 39 0 3) 39 1 0) (zx_uI (zx_uI (zx_uI J 0 24 3) 0 25 (J 3 10)) 0 26 (I 39 2 - 1)) a := by
        refine ⟨by simp [zx_uI], 3, by omega, by simp [zx_uI]; rfl, by simp [zx_uI]; rfl, fun _ => ⟨l, 0, ?_, l2, l1, by simp [zx_uI]; rfl, ?_⟩⟩
        · rw [zx_uI_ne (by omega), zx_uI_ne (by omega), zx_uI_ne (by omega)]
          exact el
        · rw [hh, el]
          simp [zx_uI]
      obtain ⟨z1, z2⟩ := h0 _ _ (fun b hb => by rw [zx_uI_ne hb, zx_uI_ne hb, zx_uI_ne hb]) (fun b hb => by rw [zx_uI_ne hb, zx_uI_ne hb, zx_uI_ne hb]) (fun k hk => by
        simp only [zx_uI, if_pos]
        rw [if_neg (by omega), if_neg (by omega), if_neg (by omega)]) key
      exact ⟨_, rfl, z1, z2⟩
/-! the tub -/
theorem tub_spec {n B a t : Nat} {I J : zx_I} {la : Option Nat} {last rule : Int32} {nx : Nat} {m p c f ct Wn fr : Nat} (ha : a = 4 ∨ a = 14) (hn : 200 ≤ n) (ht : t < 60) (hB : B ≤ 60) (h : sb B a t I la J last nx rule m p c f ct Wn fr) : ∃ v last' nx' J' Wn' fr', mo_ch n rule last (nI nx) (nI t) J = some v ∧ mo_gs9 n last (nI nx) (nI t) v = some (last', nI nx', J') ∧ eb a t (fe_mid I la a (nI t)) (fe_la la (fe_who I la a (nI t))) J' last' m p c f ct Wn' fr' ∧ nx' ≤ nx + 1 ∧ fe_mid I la a (nI t) 36 7 = nI nx' ∧ fe_mid I la a (nI t) 39 = I 39 ∧ mkeep J J' ∧ ∀ k, k = 24 ∨ k = 25 ∨ k = 26 → J' 0 k = J 0 k := by
  obtain ⟨h1, h2, ⟨h3, h3'⟩, ⟨h4, h4'⟩, h5, h6, h7, h8⟩ := h
  have hct : ct ≤ 6 := h1.2.1.2.1
  have efr : I 36 5 = nI fr := h1.2.2.2.2.2.2.2.2.1.1
  have hfr79 : fr ≤ 79 := h1.2.2.2.2.2.2.2.2.1.2
  -- whether the tub is free
  have ech : mo_ch n rule last (nI nx) (nI t) J = if fr ≤ t then (mf_chosen n rule (nI t) last (nI nx) J).bind (fun p170 => some (p170.1, p170.2)) else some (-4, J) := by
    unfold mo_ch
    rcases h1.2.2.2.2.2.2.2.2.2 with ⟨q1, q2, q3⟩ | ⟨i, q1, q2, q3, q4, q5⟩
    · rw [if_pos q2, if_pos (by omega)]
    · have hi6 : i < 6 := by omega
      rw [q3, if_neg (nI_ne4 (by omega)), mo_g1 (mo_inN hi6 (by decide)), nI_clamp (by omega), (h1.2.2.2.2.2.1 i hi6).2.1, q5]
      by_cases z : fr ≤ t
      · rw [if_neg (nI_nlt z (by omega)), if_pos z]
      · rw [if_pos (nI_lt (by omega) (by omega)), if_neg z]
  unfold fe_mid fe_who fe_mem
  rw [efr]
  by_cases z : fr ≤ t
  · have zz : nI t ≥ nI fr := nI_le z (by omega)
    rw [if_pos zz, if_pos zz, ech, if_pos z]
    obtain ⟨x', J', e1, e2, e3⟩ := choose_spec ha hn (by omega) h1 z h4 h4' h7 h3 (by omega) h5 h6
    rw [e1, Option.bind_some]
    have hq := cpx_choose (tt := nI t) ha h1.1
    have h1' := eb_cg ha h1 hq.1 e2
    rcases e3 with ⟨q1, q2⟩ | ⟨g, hg, q1, q2⟩
    · rw [q1, q2]
      refine ⟨_, last, nx, J', Wn, fr, rfl, mo_gs9_no, h1', by omega, ?_, ?_, mkeep_eqJ e2, fun k hk => e2.2 k (by omega) (by omega) (by omega)⟩
      · show (fe_choose I la a (nI t)).2 36 7 = nI nx
        rw [hq.1 36 (by decide)]
        exact h3
      · exact hq.1 39 (by decide)
    · rw [q1, q2]
      obtain ⟨j, ct', -, -, -, -, -, hcan⟩ := hq.2 _ q1
      have hbt : bt (a + 4 + g) := bt_of ha (by omega)
      obtain ⟨J2, f1, f2, f3⟩ := cg_spec ha hn (by omega) h1' hg z
      have hcan' : ¬ fe_can (fe_choose I la a (nI t)).2 la a (a + 4 + g) (nI t) = 0 := by
        rw [fe_can_cg hq.1 ha hbt h1.1.2.2.2.2.2.2.2]
        exact hcan
      have hb := f3 hcan'
      obtain ⟨x, ex, hx⟩ := can_pints ha (show g < 6 by omega) (show t ≤ 60 by omega) h1'.1 (h1'.2.1.2.2 g hg) hcan'
      have hC : eq40 (fe_canm (fe_choose I la a (nI t)).2 la a (a + 4 + g) (nI t)) (fe_choose I la a (nI t)).2 := fun b hb => fe_canm_ne hb
      have h1C := eb_cg ha h1' hC f2
      have hbC : bathOf (fe_canm (fe_choose I la a (nI t)).2 la a (a + 4 + g) (nI t)) (fe_canm (fe_choose I la a (nI t)).2 la a (a + 4 + g) (nI t)) a (a + 4 + g) J2 := by
        obtain ⟨y1, y2, y3, y4⟩ := hb
        refine ⟨y1, y2, y3, ?_⟩
        have ek : fc_k (fe_canm (fe_choose I la a (nI t)).2 la a (a + 4 + g) (nI t)) (a + 4 + g) (fe_g (fe_canm (fe_choose I la a (nI t)).2 la a (a + 4 + g) (nI t)) a) = fc_k (fe_choose I la a (nI t)).2 (a + 4 + g) (fe_g (fe_choose I la a (nI t)).2 a) := by
          unfold fc_k fe_g
          rw [hC (a + 4 + g) (by omega), hC 36 (by decide), hC a (by omega)]
        rw [ek]
        exact y4
      obtain ⟨J3, st, g1, g2, g3, g4⟩ := go_spec (nx := nI nx) ha hn ht h1C z hg hbC ex hx hcan'
      refine ⟨_, nI g, nx + 1, J3, _, _, rfl, ?_, g2, Nat.le_refl _, ?_, ?_, ?_, ?_⟩
      · rw [mo_gs9_is (by omega) f1, g1, nI_1]
      · show fe_in _ _ _ 36 7 = _
        rw [(in_at hbt).2.2.2.2.2.2.2.1, hC 36 (by decide), hq.1 36 (by decide), h3, nI_1]
      · show fe_in _ _ _ 39 = _
        rw [(in_at hbt).2.2.2.2.2.2.2.2.2.2, hC 39 (by decide), hq.1 39 (by decide)]
      · refine mkeep_tr (mkeep_tr (mkeep_eqJ e2) (mkeep_eqJ f2)) ⟨fun b z0 z10 z11 z13 z14 z15 z16 => g4 b z0 z10 z11 z13 z14 z15 z16, fun k hk => g3 k (by omega)⟩
      · intro k hk
        rw [g3 k (by omega), f2.2 k (by omega) (by omega) (by omega), e2.2 k (by omega) (by omega) (by omega)]
  · have zz : ¬ nI t ≥ nI fr := nI_ge (by omega) (by omega)
    rw [if_neg zz, if_neg zz, ech, if_neg z]
    exact ⟨_, last, nx, J, Wn, fr, rfl, mo_gs9_no, h1, by omega, h3, rfl, mkeep_rf, fun _ _ => rfl⟩
/-! units change -/
theorem eb_38 {a t t' : Nat} {I I' : zx_I} {la : Option Nat} {J J' : zx_I} {last : Int32} {m p c f ct Wn fr : Nat} (ha : a = 4 ∨ a = 14) (h : eb a t I la J last m p c f ct Wn fr) (h1 : ∀ b, b ≠ 38 → b ≠ 39 → b ≠ 36 → I' b = I b) (h36 : ∀ k, k ≠ 3 → I' 36 k = I 36 k) (hc : cpx a t' I' la m p c f) (h2 : ∀ b, b ≠ 0 → b ≠ 10 → b ≠ 11 → J' b = J b) (h3 : ∀ j, j < m → J' 10 j = I' 38 j) (h4 : I a 9 = 0 ∨ I' 36 3 = nI t' - J' 0 27) : eb a t' I' la J' last m p c f ct Wn fr := by
  obtain ⟨a1, ⟨b1, b2, b3⟩, a3, a4, a5, a6, a7, ⟨c1, c2, c3⟩, ⟨d1, d2⟩, a10⟩ := h
  have ea := h1 a (by omega) (by omega) (by omega)
  have eb : ∀ i, i < 6 → I' (a + 4 + i) = I (a + 4 + i) := fun i hi => h1 _ (by omega) (by omega) (by omega)
  have hs : hsame I I' a := ⟨ea, h1 _ (by omega) (by omega) (by omega), h1 _ (by omega) (by omega) (by omega), fun i hi k _ => by rw [eb i hi]⟩
  refine ⟨hc, ⟨by rw [ea]; exact b1, b2, fun i hi => by rw [eb i (by omega)]; exact b3 i hi⟩, fun k hk => ?_, h3, ?_, fun i hi => ?_, fun i hi => ?_, ⟨by rw [h36 6 (by decide)]; exact c1, c2, fun i hi => by rw [eb i hi]; exact c3 i hi⟩, ⟨by rw [h36 5 (by decide)]; exact d1, d2⟩, ?_⟩
  · rw [h2 3 (by decide) (by decide) (by decide), ho_cg hs b2 hk]
    exact a3 k hk
  · rw [ea]
    exact h4
  · rw [h2 13 (by decide) (by decide) (by decide), h2 14 (by decide) (by decide) (by decide), h2 15 (by decide) (by decide) (by decide), h2 16 (by decide) (by decide) (by decide), eb i hi]
    exact a6 i hi
  · rw [h2 12 (by decide) (by decide) (by decide), eb i (by omega)]
    exact a7 i hi
  · rcases a10 with q | ⟨i, q1, q2, q3, q4, q5⟩
    · exact Or.inl q
    · exact Or.inr ⟨i, q1, q2, q3, by rw [eb i (by omega)]; exact q4, by rw [eb i (by omega)]; exact q5⟩
theorem tap_spec {n a t : Nat} {I J : zx_I} {la : Option Nat} {last : Int32} {m p c f ct Wn fr : Nat} (ha : a = 4 ∨ a = 14) (hn : 200 ≤ n) (ht : t < 60) (h : eb a t I la J last m p c f ct Wn fr) (htp : tpr I J) : ∃ J', mo_tp n (nI t) J = some J' ∧ eb a t (fe_tap I (nI t)) la J' last m p c f ct Wn fr ∧ (∀ b, b ≠ 10 → b ≠ 11 → J' b = J b) ∧ ∀ b, b ≠ 38 → fe_tap I (nI t) b = I b := by
  have hN := eb_N (by omega) h
  have hcx := cpx_tap (tt := nI t) ha (show t ≤ 60 by omega) h.1
  have hmp : m * p ≤ 6 * 60 := Nat.mul_le_mul hN.2.2.2.2.1 hN.2.2.2.2.2.2.1
  have no : fa_taps I (nI t) = 0 → fe_tap I (nI t) = I := fun q => by unfold fe_tap; rw [if_pos q]
  have isno : fa_taps I (nI t) = 0 → mo_tp n (nI t) J = some J → ∃ J', mo_tp n (nI t) J = some J' ∧ eb a t (fe_tap I (nI t)) la J' last m p c f ct Wn fr ∧ (∀ b, b ≠ 10 → b ≠ 11 → J' b = J b) ∧ ∀ b, b ≠ 38 → fe_tap I (nI t) b = I b := fun q1 q2 => by
    rw [no q1]
    exact ⟨J, q2, h, fun _ _ _ => rfl, fun _ _ => rfl⟩
  rcases htp with ⟨q1, q2⟩ | ⟨q1, q2, q3⟩
  · refine isno ?_ ?_
    · unfold fa_taps
      rw [q1]
      by_cases z : nI t < I 34 5
      · rw [if_pos z]
      · rw [if_neg z, if_pos]
        rw [Int32.lt_iff_toInt_lt] at z
        show I 34 5 + 0 ≤ nI t
        rw [Int32.add_zero, Int32.le_iff_toInt_le]
        omega
    · unfold mo_tp
      rw [q2]
      by_cases z : nI t < J 0 28
      · rw [if_pos z]
      · rw [if_neg z, if_pos]
        rw [Int32.lt_iff_toInt_lt] at z
        rw [Int32.add_zero, Int32.le_iff_toInt_le]
        omega
  · by_cases z1 : nI t < J 0 28
    · refine isno ?_ ?_
      · unfold fa_taps
        rw [q1, if_pos z1]
      · unfold mo_tp
        rw [if_pos z1]
    · by_cases z2 : J 0 28 + J 0 29 ≤ nI t
      · refine isno ?_ ?_
        · unfold fa_taps
          rw [q1, q2, if_neg z1, if_pos (show nI t ≥ J 0 28 + J 0 29 from z2)]
        · unfold mo_tp
          rw [if_neg z1, if_pos z2]
      · have e : fe_tap I (nI t) = ft_draw I (fe_min (I 34 7) (I 37 1 * I 37 2)) := by
          unfold fe_tap fa_taps
          rw [q1, q2, if_neg z1, if_neg (show ¬ nI t ≥ J 0 28 + J 0 29 from z2), if_neg (by decide)]
        obtain ⟨x, ex, hx⟩ := tap_N h.1.2.2.1 h.1.2.2.2.1 (by omega) h.1.2.2.2.2.2.2.1
        obtain ⟨J', d1, d2, d3⟩ := draw_both (n := n) (x := x) (by omega) (by omega) h.1 hN hx
        refine ⟨J', ?_, ?_, d2, fun b hb => by rw [e]; exact draw_ne hb⟩
        · unfold mo_tp
          rw [if_neg z1, if_neg z2]
          have eh : mf_holds J = I 37 1 * I 37 2 := by
            unfold mf_holds
            rw [hN.1, hN.2.1, h.1.2.2.1, h.1.2.2.2.1]
          have ev : ((if mf_holds J ≤ J 0 30 then some (mf_holds J) else some (J 0 30)) : Option Int32) = some (nI x) := by
            rw [← ex, eh, ← q3]
            obtain ⟨k, ek, -, hk⟩ := h.1.2.2.2.2.2.2.1
            unfold fe_min
            rw [ek, h.1.2.2.1, h.1.2.2.2.1, pk_mul]
            rcases Nat.lt_trichotomy (m * p) k with w | w | w
            · rw [if_pos (nI_le (by omega) (by omega)), if_pos (nI_lt w (by omega))]
            · rw [if_pos (nI_le (by omega) (by omega)), if_neg (nI_nlt (by omega) (by omega)), w]
            · rw [if_neg (nI_ge w (by omega)), if_neg (nI_nlt (by omega) (by omega))]
          rw [ev, Option.bind_some, d1, Option.bind_some]
        · rw [e] at hcx ⊢
          refine eb_38 ha h (fun b hb _ _ => draw_ne hb) (fun k _ => by rw [draw_ne (by decide)]) hcx (fun b _ z10 z11 => d2 b z10 z11) (fun j hj => ?_) ?_
          · rw [ex]
            exact d3 j hj
          · rw [draw_ne (by decide), d2 0 (by decide) (by decide)]
            exact h.2.2.2.2.1
/-! warmth, loss -/
theorem mw_loop {n : Nat} {x1 x2 : Int32} {K : zx_I → Option zx_I} : ∀ (k e : Nat) (Jm Jc : zx_I), k < e → k < 6 → (∀ j, j ≤ k → Jm 10 j = Jc 38 j) → ∃ J', mf_warm_62 n x1 x2 K e (nI k) Jm = K J' ∧ (∀ b, b ≠ 10 → J' b = Jm b) ∧ (∀ j, j ≤ k → J' 10 j = wm_loop k Jc 38 j) ∧ ∀ j, k < j → J' 10 j = Jm 10 j ∧ wm_loop k Jc 38 j = Jc 38 j := by
  intro k
  induction k with
  | zero =>
    intro e Jm Jc he h6 hr
    obtain ⟨e, rfl⟩ : ∃ e9, e = e9 + 1 := ⟨e - 1, by omega⟩
    refine ⟨Jm, ?_, fun _ _ => rfl, hr, fun _ _ => ⟨rfl, rfl⟩⟩
    show mf_warm_62_b _ _ _ _ _ _ _ = _
    unfold mf_warm_62_b
    rw [if_pos (by decide)]
  | succ k ih =>
    intro e Jm Jc he h6 hr
    obtain ⟨e, rfl⟩ : ∃ e9, e = e9 + 1 := ⟨e - 1, by omega⟩
    have e1 := hr (k + 1) (Nat.le_refl _)
    have e0 := hr k (by omega)
    have hpre : nI (k + 1) - 1 = nI k := nI_pred k
    have hm1 : nI (k + 1) + (-1) = nI k := pk_m1 k
    have body : mf_warm_62 n x1 x2 K (e + 1) (nI (k + 1)) Jm = mf_warm_62 n x1 x2 K e (nI k) (if Jm 10 (k + 1) ≤ Jm 10 k then Jm else zx_uI (zx_uI Jm 10 (k + 1) ((Jm 10 (k + 1) + Jm 10 k) / 2)) 10 k (Jm 10 (k + 1) + Jm 10 k - (Jm 10 (k + 1) + Jm 10 k) / 2)) := by
      show mf_warm_62_b _ _ _ _ _ _ _ = _
      unfold mf_warm_62_b
      rw [if_neg (nI_nle (by omega) (by omega)), hpre, hm1, mo_g1 (mo_inN (by omega) (by decide)), mo_g1 (mo_inN (by omega) (by decide)), nI_clamp (by omega), nI_clamp (by omega)]
      by_cases z : Jm 10 (k + 1) ≤ Jm 10 k
      · rw [if_pos z, if_pos z]
      · rw [if_neg z, if_neg z, mo_g1 (mo_inN (by omega) (by decide)), mo_g1 (mo_inN (by omega) (by decide)), mo_g1 (mo_inN (by omega) (by decide)), mo_g1 (mo_inN (by omega) (by decide))]
    rw [body, wm_loop, ← e1, ← e0]
    by_cases z : Jm 10 (k + 1) ≤ Jm 10 k
    · rw [if_pos z, if_pos z]
      obtain ⟨J', f1, f2, f3, f4⟩ := ih e Jm Jc (by omega) (by omega) (fun j hj => hr j (by omega))
      refine ⟨J', f1, f2, fun j hj => ?_, fun j hj => f4 j (by omega)⟩
      by_cases q : j ≤ k
      · exact f3 j q
      · obtain ⟨w1, w2⟩ := f4 j (by omega)
        rw [w1, w2]
        exact hr j hj
    · rw [if_neg z, if_neg z]
      have hr' : ∀ j, j ≤ k + 1 → (zx_uI (zx_uI Jm 10 (k + 1) ((Jm 10 (k + 1) + Jm 10 k) / 2)) 10 k (Jm 10 (k + 1) + Jm 10 k - (Jm 10 (k + 1) + Jm 10 k) / 2)) 10 j = (zx_uI (zx_uI Jc 38 (k + 1) ((Jm 10 (k + 1) + Jm 10 k) / 2)) 38 k (Jm 10 (k + 1) + Jm 10 k - (Jm 10 (k + 1) + Jm 10 k) / 2)) 38 j := by
        intro j hj
        simp only [zx_uI, if_pos]
        by_cases q1 : j = k
        · rw [if_pos q1, if_pos q1]
        · rw [if_neg q1, if_neg q1]
          by_cases q2 : j = k + 1
          · rw [if_pos q2, if_pos q2]
          · rw [if_neg q2, if_neg q2]
            exact hr j hj
      obtain ⟨J', f1, f2, f3, f4⟩ := ih e _ _ (by omega) (by omega) (fun j hj => hr' j (by omega))
      refine ⟨J', f1, fun b hb => by rw [f2 b hb, zx_uI_ne hb, zx_uI_ne hb], fun j hj => ?_, fun j hj => ?_⟩
      · by_cases q : j ≤ k
        · exact f3 j q
        · obtain ⟨w1, w2⟩ := f4 j (by omega)
          rw [w1, w2]
          exact hr' j hj
      · obtain ⟨w1, w2⟩ := f4 j (by omega)
        rw [w1, w2]
        simp only [zx_uI, if_pos]
        rw [if_neg (by omega), if_neg (by omega), if_neg (by omega), if_neg (by omega)]
        exact ⟨rfl, rfl⟩
theorem ml_loop {n m : Nat} {x2 : Int32} {K : zx_I → Option zx_I} (hm : m ≤ 6) : ∀ (d j e : Nat) (J : zx_I), j + d = m → d < e → ∃ J', mf_warm_133 n (nI m) x2 K e (nI j) J = K J' ∧ (∀ b, b ≠ 10 → J' b = J b) ∧ ∀ i, J' 10 i = if j ≤ i ∧ i < j + d then ls_v x2 (J 3 4) (J 10 i) else J 10 i := by
  intro d
  induction d with
  | zero =>
    intro j e J hj he
    obtain ⟨e, rfl⟩ : ∃ e9, e = e9 + 1 := ⟨e - 1, by omega⟩
    refine ⟨J, ?_, fun _ _ => rfl, fun i => by rw [if_neg (by omega)]⟩
    show mf_warm_133_b _ _ _ _ _ _ _ = _
    unfold mf_warm_133_b
    rw [if_pos (nI_le (by omega) (by omega))]
  | succ d ih =>
    intro j e J hj he
    obtain ⟨e, rfl⟩ : ∃ e9, e = e9 + 1 := ⟨e - 1, by omega⟩
    have body : mf_warm_133 n (nI m) x2 K (e + 1) (nI j) J = mf_warm_133 n (nI m) x2 K e (nI (j + 1)) (zx_uI J 10 j (ls_v x2 (J 3 4) (J 10 j))) := by
      show mf_warm_133_b _ _ _ _ _ _ _ = _
      unfold mf_warm_133_b ls_v
      rw [if_neg (nI_ge (by omega) (by omega)), mo_g1 (mo_inN (by omega) (by decide)), nI_clamp (by omega), ← nI_succ]
      by_cases z : J 10 j ≤ x2
      · rw [if_pos z, if_pos z, zx_uI_self]
      · rw [if_neg z, if_neg z, mo_g1 (mo_inN (by omega) (by decide))]
        by_cases z2 : x2 ≤ J 10 j - J 3 4
        · rw [if_pos z2, mo_g1 (mo_inN (by omega) (by decide)), Option.bind_some, mo_g1 (mo_inN (by omega) (by decide)), if_neg]
          rw [Int32.lt_iff_toInt_lt]
          rw [Int32.le_iff_toInt_le] at z2
          omega
        · rw [if_neg z2, Option.bind_some, mo_g1 (mo_inN (by omega) (by decide)), if_pos]
          rw [Int32.lt_iff_toInt_lt]
          rw [Int32.le_iff_toInt_le] at z2
          omega
    obtain ⟨J', f1, f2, f3⟩ := ih (j + 1) e (zx_uI J 10 j (ls_v x2 (J 3 4) (J 10 j))) (by omega) (by omega)
    refine ⟨J', body.trans f1, fun b hb => (f2 b hb).trans (zx_uI_ne hb), fun i => ?_⟩
    rw [f3 i, zx_uI_ne (by decide)]
    simp only [zx_uI, if_pos]
    by_cases q : i = j
    · subst q
      rw [if_neg (by omega), if_pos rfl, if_pos (by omega)]
    · rw [if_neg q]
      by_cases q2 : j + 1 ≤ i ∧ i < j + 1 + d
      · rw [if_pos q2, if_pos (by omega)]
      · rw [if_neg q2, if_neg (by omega)]
theorem ho_st {I J : zx_I} {a ct s : Nat} (h : hrl I a J ct) (h1 : 1 ≤ s) (h3 : s ≤ 3) : J 3 (5 + 2 * (s - 1)) = I (a + 1) s ∧ J 3 (5 + 2 * (s - 1) + 1) = I (a + 2) s := by
  rcases (show s = 1 ∨ s = 2 ∨ s = 3 by omega) with rfl | rfl | rfl
  · exact ⟨h 5 (by omega), h 6 (by omega)⟩
  · exact ⟨h 7 (by omega), h 8 (by omega)⟩
  · exact ⟨h 9 (by omega), h 10 (by omega)⟩
theorem st_ix {s : Nat} (h1 : 1 ≤ s) : 5 + 2 * (nI s - 1) = nI (5 + 2 * (s - 1)) := by
  rw [show (1 : Int32) = nI 1 from rfl, pk_sub h1, show (2 : Int32) = nI 2 from rfl, pk_mul, show (5 : Int32) = nI 5 from rfl, nI_add]
theorem warm_spec {n B a t nx : Nat} {I J : zx_I} {la : Option Nat} {last rule : Int32} {m p c f ct Wn fr : Nat} (ha : a = 4 ∨ a = 14) (hn : 200 ≤ n) (ht : t < 60) (h : sb B a t I la J last nx rule m p c f ct Wn fr) : ∃ J', mf_warm n J = some J' ∧ sb B a (t + 1) (fe_end I a) la J' last nx rule m p c f ct Wn fr ∧ mkeep J J' := by
  obtain ⟨h1, h2, ⟨h3, h3'⟩, h4, h5, h6, h7, h8⟩ := h
  have hcx := cpx_end ha ht h1.1
  obtain ⟨k1, k2, k3, m1, m6, p1, p60, k8, k9⟩ := eb_N (by omega) h1
  obtain ⟨t1, t2, t3, -⟩ := cpx_T (show t ≤ 60 by omega) h1.1
  obtain ⟨e26, s, s3, es, ej, hs⟩ := h2
  have hct : ct ≤ 6 := h1.2.1.2.1
  have hm1 : nI m - 1 = nI (m - 1) := by rw [show (1 : Int32) = nI 1 from rfl, pk_sub m1]
  have hin : mo_in (nI (m - 1)) 6 = true := mo_inN (by omega) (by decide)
  -- what the fire gives
  have eg : ((if (J 0 24) = 0 then some ((0 : Int32)) else (mo_g (mo_in (5 + (2 * ((J 0 24) - 1))) 65) (some ((J 3 ((5 + (2 * ((J 0 24) - 1))).toNatClampNeg)))))) : Option (Int32)) = some (ff_gives I a) := by
    unfold ff_gives
    rw [ej, es]
    by_cases z : s = 0
    · subst z
      rw [if_pos (by rfl), if_pos (by decide)]
    · rw [if_neg (nI_ne0 (by omega) (by omega)), st_ix (by omega), mo_g1 (mo_inN (by omega) (by decide)), nI_clamp (by omega), (ho_st h1.2.2.1 (by omega) s3).1, if_neg (show ¬ nI s < (1 : Int32) from nI_nlt (b := 1) (by omega) (by omega)), if_pos (show nI s ≤ (3 : Int32) from nI_le (b := 3) s3 (by decide)), nI_clamp (by omega)]
  -- the rows
  obtain ⟨J1, w1, w2, w3, w4⟩ := mw_loop (n := n) (x1 := J 3 0) (x2 := J 3 1 * J 3 2) (K := fun J_62 => (mf_warm_133 n (J 3 0) ((J 3 1) * (J 3 2)) (fun J_133 => (if (J_133 0 24) ≤ 0 then some (J_133) else (if ((J_133 0 25) - 1) = 0 then (((if ((J_133 0 24) - 1) = 0 then some ((0 : Int32)) else (mo_g (mo_in ((5 + (2 * (((J_133 0 24) - 1) - 1))) + 1) 65) (some ((J_133 3 (((5 + (2 * (((J_133 0 24) - 1) - 1))) + 1).toNatClampNeg)))))) : Option (Int32)).bind fun v233 => some ((zx_uI (zx_uI (zx_uI J_133 0 25 ((J_133 0 25) - 1)) 0 24 ((J_133 0 24) - 1)) 0 25 v233))) else some ((zx_uI J_133 0 25 ((J_133 0 25) - 1)))))) n (0 : Int32) J_62)) (m - 1) n (zx_uI J 10 (m - 1) (J 10 (m - 1) + ff_gives I a)) (zx_uI I 38 (m - 1) (I 38 (m - 1) + ff_gives I a)) (by omega) (by omega) (fun j hj => by
    simp only [zx_uI, if_pos]
    rw [h1.2.2.2.1 (m - 1) (by omega)]
    by_cases q : j = m - 1
    · rw [if_pos q, if_pos q]
    · rw [if_neg q, if_neg q]
      exact h1.2.2.2.1 j (by omega))
  obtain ⟨J2, l1, l2, l3⟩ := ml_loop (n := n) (m := m) (x2 := J 3 1 * J 3 2) (K := (fun J_133 => (if (J_133 0 24) ≤ 0 then some (J_133) else (if ((J_133 0 25) - 1) = 0 then (((if ((J_133 0 24) - 1) = 0 then some ((0 : Int32)) else (mo_g (mo_in ((5 + (2 * (((J_133 0 24) - 1) - 1))) + 1) 65) (some ((J_133 3 (((5 + (2 * (((J_133 0 24) - 1) - 1))) + 1).toNatClampNeg)))))) : Option (Int32)).bind fun v233 => some ((zx_uI (zx_uI (zx_uI J_133 0 25 ((J_133 0 25) - 1)) 0 24 ((J_133 0 24) - 1)) 0 25 v233))) else some ((zx_uI J_133 0 25 ((J_133 0 25) - 1))))))) m6 m 0 n J1 (by omega) (by omega)
  have hJ2 : ∀ b, b ≠ 10 → J2 b = J b := fun b hb => by rw [l2 b hb, w2 b hb, zx_uI_ne hb]
  have hu : ∀ j, j < m → J2 10 j = fe_end I a 38 j := by
    intro j hj
    rw [l3 j, if_pos (by omega)]
    unfold fe_end
    rw [zx_uI_ne (by decide), cool_38, lose_at (m := m) (by rw [warm_ne (by decide)]; exact t1) m6 hj, warm_ne (by decide)]
    have e1 : J1 3 4 = I a 5 := by
      rw [w2 3 (by decide), zx_uI_ne (by decide)]
      exact h1.2.2.1 4 (by omega)
    have e2 : J1 10 j = ft_warm I (ff_gives I a) 38 j := by
      rw [w3 j (by omega)]
      show _ = wm_row I (ff_gives I a) j
      unfold wm_row
      rw [t1, nI_toInt (by omega)]
      rfl
    rw [e1, e2, k2, k3, t2, t3, Int32.mul_comm]
  have e10 : mf_warm n J = (fun J_133 : zx_I => (if (J_133 0 24) ≤ 0 then some (J_133) else (if ((J_133 0 25) - 1) = 0 then (((if ((J_133 0 24) - 1) = 0 then some ((0 : Int32)) else (mo_g (mo_in ((5 + (2 * (((J_133 0 24) - 1) - 1))) + 1) 65) (some ((J_133 3 (((5 + (2 * (((J_133 0 24) - 1) - 1))) + 1).toNatClampNeg)))))) : Option (Int32)).bind fun v233 => some ((zx_uI (zx_uI (zx_uI J_133 0 25 ((J_133 0 25) - 1)) 0 24 ((J_133 0 24) - 1)) 0 25 v233))) else some ((zx_uI J_133 0 25 ((J_133 0 25) - 1)))))) J2 := by
    unfold mf_warm
    rw [eg, k1, hm1, mo_g1 hin, Option.bind_some, mo_g1 hin, nI_clamp (by omega)]
    rw [k1] at w1
    refine w1.trans ?_
    exact l1
  -- the fire gets older
  have hst : ∃ J', mf_warm n J = some J' ∧ (∀ b, b ≠ 0 → J' b = J2 b) ∧ (∀ k, k ≠ 24 → k ≠ 25 → J' 0 k = J 0 k) ∧ frl (fe_end I a) J' a := by
    rw [e10]
    dsimp only
    rw [hJ2 0 (by decide), hJ2 3 (by decide), ej]
    have e39 : fe_end I a 39 = ff_old (ft_lose (ft_warm I (ff_gives I a)) (I a 5)) a 39 := by
      unfold fe_end fe_cool
      rw [zx_uI_ne (by decide)]
    have ea2 : fe_end I a (a + 2) = I (a + 2) := by
      have := fx_row ha (fx_end (I := I) (a := a)) (b := a + 2) (by omega)
      exact this
    have x39 : ft_lose (ft_warm I (ff_gives I a)) (I a 5) 39 = I 39 := by rw [lose_ne (by decide), warm_ne (by decide)]
    have xa2 : ft_lose (ft_warm I (ff_gives I a)) (I a 5) (a + 2) = I (a + 2) := by rw [lose_ne (by omega), warm_ne (by omega)]
    by_cases z : s = 0
    · subst z
      refine ⟨J2, by rw [if_pos (by decide)], fun _ _ => rfl, fun k _ _ => by rw [hJ2 0 (by decide)], ?_⟩
      have : fe_end I a 39 = I 39 := by
        rw [e39]
        unfold ff_old
        rw [x39, es, if_pos (by decide)]
        exact x39
      refine ⟨by rw [hJ2 0 (by decide), this]; exact e26, 0, by omega, by rw [this]; exact es, by rw [hJ2 0 (by decide)]; exact ej, fun q => by omega⟩
    · obtain ⟨l, g, el, l30, gl9, eg1, ej1⟩ := hs (by omega)
      rw [if_neg (nI_nle (by omega) (by omega)), ej1]
      have o39 : fe_end I a 39 = if g + 1 < l then upd (I 39) 1 (nI (g + 1)) else upd (upd (upd (I 39) 1 (nI (g + 1))) 0 (nI (s - 1))) 1 0 := by
        rw [e39]
        unfold ff_old
        rw [x39, xa2, es, if_neg (show ¬ nI s < (1 : Int32) from nI_nlt (b := 1) (by omega) (by omega)), if_pos (show nI s ≤ (3 : Int32) from nI_le (b := 3) s3 (by decide)), nI_clamp (by omega), el, eg1, nI_1, show (1 : Int32) = nI 1 from rfl, pk_sub (show 1 ≤ s by omega)]
        by_cases q : g + 1 < l
        · rw [if_pos (nI_lt q (by omega)), if_pos q, zx_uI_at, x39]
        · rw [if_neg (nI_nlt (by omega) (by omega)), if_neg q, zx_uI_at, zx_uI_at, zx_uI_at, x39]
      have esub : nI (l - g) - 1 = nI (l - g - 1) := by rw [show (1 : Int32) = nI 1 from rfl, pk_sub (show 1 ≤ l - g by omega)]
      rw [esub]
      by_cases q : g + 1 < l
      · rw [if_neg (nI_ne0 (by omega) (by omega))]
        rw [if_pos q] at o39
        refine ⟨_, rfl, fun b hb => zx_uI_ne hb, fun k _ z2 => by simp only [zx_uI, if_pos]; rw [if_neg z2, hJ2 0 (by decide)], ?_⟩
        refine ⟨?_, s, s3, ?_, ?_, fun _ => ⟨l, g + 1, by rw [ea2]; exact el, l30, q, ?_, ?_⟩⟩
        · rw [o39]
          show J2 0 26 = I 39 2
          rw [hJ2 0 (by decide)]
          exact e26
        · rw [o39]
          simp only [upd]
          rw [if_neg (by decide)]
          exact es
        · show J2 0 24 = nI s
          rw [hJ2 0 (by decide)]
          exact ej
        · rw [o39]
          rfl
        · show nI (l - g - 1) = nI (l - (g + 1))
          rw [Nat.sub_sub]
      · rw [if_pos (show nI (l - g - 1) = 0 from by rw [show l - g - 1 = 0 by omega]; rfl)]
        rw [if_neg q] at o39
        rw [show (1 : Int32) = nI 1 from rfl, pk_sub (show 1 ≤ s by omega)]
        have fin : ∀ v : Int32, (1 ≤ s - 1 → v = I (a + 2) (s - 1)) → (∀ b, b ≠ 0 → (zx_uI (zx_uI (zx_uI J2 0 25 (nI (l - g - 1))) 0 24 (nI (s - 1))) 0 25 v) b = J2 b) ∧ (∀ k, k ≠ 24 → k ≠ 25 → (zx_uI (zx_uI (zx_uI J2 0 25 (nI (l - g - 1))) 0 24 (nI (s - 1))) 0 25 v) 0 k = J 0 k) ∧ frl (fe_end I a) (zx_uI (zx_uI (zx_uI J2 0 25 (nI (l - g - 1))) 0 24 (nI (s - 1))) 0 25 v) a := by
          intro v hv
          refine ⟨fun b hb => by rw [zx_uI_ne hb, zx_uI_ne hb, zx_uI_ne hb], fun k z1 z2 => by simp only [zx_uI, if_pos]; rw [if_neg z2, if_neg z1, if_neg z2, hJ2 0 (by decide)], ?_, s - 1, by omega, ?_, ?_, fun q1 => ?_⟩
          · rw [o39]
            simp only [zx_uI, upd]
            simp
            rw [hJ2 0 (by decide)]
            exact e26
          · rw [o39]
            simp [upd]
          · simp [zx_uI]
          · obtain ⟨g9, l', -, -, el', l1', l2'⟩ := hr_st h1.1.2.1 q1 (by omega)
            refine ⟨l', 0, by rw [ea2]; exact el', l2', l1', ?_, ?_⟩
            · rw [o39]
              simp [upd]
              rfl
            · rw [hv q1, el']
              simp [zx_uI]
        by_cases z1 : s - 1 = 0
        · obtain ⟨f1, f2, f3⟩ := fin 0 (fun q1 => by omega)
          refine ⟨_, ?_, f1, f2, f3⟩
          rw [z1, if_pos (by rfl), Option.bind_some]
        · obtain ⟨f1, f2, f3⟩ := fin (I (a + 2) (s - 1)) (fun _ => rfl)
          refine ⟨_, ?_, f1, f2, f3⟩
          have six : (5 + (2 * (nI (s - 1) - nI 1))) + nI 1 = nI (5 + 2 * (s - 1 - 1) + 1) := by
            rw [show nI 1 = (1 : Int32) from rfl, st_ix (by omega), nI_1]
          rw [if_neg (nI_ne0 (by omega) (by omega)), six, mo_g1 (mo_inN (by omega) (by decide)), nI_clamp (by omega), Option.bind_some, (ho_st h1.2.2.1 (show 1 ≤ s - 1 by omega) (by omega)).2]
  obtain ⟨J', r1, r2, r3, r4⟩ := hst
  have xe : ∀ b, b ≠ 38 → b ≠ 39 → b ≠ 36 → fe_end I a b = I b := fun b b1 b2 b3 => by
    unfold fe_end fe_cool
    rw [zx_uI_ne b3, old_ne b2, lose_ne b1, warm_ne b1]
  have x36 : ∀ k, fe_end I a 36 k = if k = 3 then I 36 3 + 1 else I 36 k := fun k => by
    unfold fe_end fe_cool
    rw [old_ne (by decide), lose_ne (by decide), warm_ne (by decide)]
    simp only [zx_uI, if_pos]
    rw [old_ne (by decide), lose_ne (by decide), warm_ne (by decide)]
  have k27 : J' 0 27 = J 0 27 := r3 27 (by decide) (by decide)
  refine ⟨J', r1, ⟨eb_38 ha h1 xe (fun k hk => by rw [x36, if_neg hk]) hcx (fun b z0 z10 _ => by rw [r2 b z0, hJ2 b z10]) (fun j hj => by rw [r2 10 (by decide)]; exact hu j hj) ?_, r4, ⟨by rw [x36, if_neg (by decide)]; exact h3, by omega⟩, ?_, fun k hk => ?_, ?_, fun j hj => ?_, ?_⟩, fun b z0 z10 _ _ _ _ _ => by rw [r2 b z0, hJ2 b z10], fun k hk => by rw [r3 k (by omega) (by omega)]⟩
  · rcases h1.2.2.2.2.1 with q | q
    · exact Or.inl q
    · refine Or.inr ?_
      rw [x36, if_pos rfl, k27, q, nI_succ, Int32.sub_eq_add_neg, Int32.sub_eq_add_neg, Int32.add_assoc, Int32.add_comm (-J 0 27) 1, ← Int32.add_assoc]
  · rw [xe 34 (by decide) (by decide) (by decide), r3 8 (by decide) (by decide)]
    exact h4
  · rw [r2 17 (by decide), hJ2 17 (by decide), xe 35 (by decide) (by decide) (by decide)]
    exact h5 k hk
  · rw [xe 35 (by decide) (by decide) (by decide)]
    exact h6
  · rw [xe _ (by omega) (by omega) (by omega)]
    exact h7 j hj
  · unfold tpr
    rw [xe 34 (by decide) (by decide) (by decide), r3 28 (by decide) (by decide), r3 29 (by decide) (by decide), r3 30 (by decide) (by decide)]
    exact h8
/-- one step of an evening, in the class and in the model -/
theorem step_spec {n a t nx : Nat} {I J : zx_I} {L : zx_L} {la : Option Nat} {last rule : Int32} {m p c f ct Wn fr : Nat} {K : zx_I → Option (Int32 × zx_I)} {Z : Int32 → Int32 → Int32 → zx_I → Option (Int32 × zx_I)} (ha : a = 4 ∨ a = 14) (hn : 200 ≤ n) (ht : t < 60) (hN : ¬ J 3 15 ≤ nI t) (h : sb t a t I la J last nx rule m p c f ct Wn fr) : ∃ last' nx' J' Wn' fr', mf_goThrough_87_b n rule (L 34 3) K Z last (nI nx) (nI t) J = Z last' (nI nx') (nI (t + 1)) J' ∧ sb (t + 1) a (t + 1) (fe_step L I la a (nI t)) (fe_next L I la a (nI t)) J' last' nx' rule m p c f ct Wn' fr' ∧ mkeep J J' := by
  obtain ⟨J1, a1, a2, a3⟩ := up_spec (L := L) ha h
  obtain ⟨v, last', nx', J2, Wn', fr', b1, b2, b3, b4, b5, b6, b7, b8⟩ := tub_spec ha hn ht (by omega) a2
  obtain ⟨h1, h2, ⟨h3, h3'⟩, h4, h5, h6, h7, h8⟩ := a2
  have hfx := fx_mid (tt := nI t) ha h1.1
  have hct : ct ≤ 6 := h1.2.1.2.1
  have e34 : fe_mid (fe_up I L (nI t)) la a (nI t) 34 = fe_up I L (nI t) 34 := fx_row ha hfx (b := 34) (by omega)
  have e35 : fe_mid (fe_up I L (nI t)) la a (nI t) 35 = fe_up I L (nI t) 35 := fx_row ha hfx (b := 35) (by omega)
  have ea2 : fe_mid (fe_up I L (nI t)) la a (nI t) (a + 2) = fe_up I L (nI t) (a + 2) := fx_row ha hfx (b := a + 2) (by omega)
  have htp : tpr (fe_mid (fe_up I L (nI t)) la a (nI t)) J2 := by
    unfold tpr
    rw [e34, b7.2 28 (by omega), b7.2 29 (by omega), b7.2 30 (by omega)]
    exact h8
  obtain ⟨J3, c1, c2, c3, c4⟩ := tap_spec ha hn ht b3 htp
  have hsb : sb (t + 1) a t (fe_tap (fe_mid (fe_up I L (nI t)) la a (nI t)) (nI t)) (fe_la la (fe_who (fe_up I L (nI t)) la a (nI t))) J3 last' nx' rule m p c f ct Wn' fr' := by
    refine ⟨c2, ?_, ⟨by rw [c4 36 (by decide)]; exact b5, by omega⟩, ?_, fun k hk => ?_, ?_, fun j hj => ?_, ?_⟩
    · obtain ⟨e26, s, s3, es, ej, hs⟩ := h2
      unfold frl
      rw [c4 39 (by decide), c4 (a + 2) (by omega), b6, ea2, c3 0 (by decide) (by decide), b8 24 (by omega), b8 25 (by omega), b8 26 (by omega)]
      exact ⟨e26, s, s3, es, ej, hs⟩
    · rw [c4 34 (by decide), e34, c3 0 (by decide) (by decide), b7.2 8 (by omega)]
      exact h4
    · rw [c4 35 (by decide), e35, c3 17 (by decide) (by decide), b7.1 17 (by decide) (by decide) (by decide) (by decide) (by decide) (by decide) (by decide)]
      exact h5 k hk
    · rw [c4 35 (by decide), e35]
      exact h6
    · rw [c4 _ (by omega), fx_bat ha hfx (show j < 6 by omega) (by decide)]
      exact h7 j hj
    · unfold tpr
      rw [c4 34 (by decide), c3 0 (by decide) (by decide)]
      exact htp
  obtain ⟨J4, d1, d2, d3⟩ := warm_spec ha hn ht hsb
  refine ⟨last', nx', J4, Wn', fr', ?_, d2, mkeep_tr (mkeep_tr a3 b7) (mkeep_tr ⟨fun b z0 z10 z11 _ _ _ _ => c3 b z10 z11, fun k _ => by rw [c3 0 (by decide) (by decide)]⟩ d3)⟩
  rw [mo_body, if_neg hN, a1, Option.bind_some, b1, Option.bind_some, b2, Option.bind_some]
  dsimp only
  rw [c1, Option.bind_some, d1, Option.bind_some, nI_1]
