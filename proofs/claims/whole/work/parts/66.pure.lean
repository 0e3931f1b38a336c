def okV {α : Type} (c : Nat) (σ : SC) (r : α) (k : Prop) (t : α × SM) : Prop := k ∧ yn t.2 0 = 0 ∧ r = t.1 ∧ RL c σ t.2
theorem told_l {σ : SC} {τ : SM} (hl : xn σ 3 = yn τ 3) {v1 : Int32} (h1 : ¬ v1 < 0) (w : Int32) : ∀ (m i : Nat) (v2 : Int32), i + m = 32 → ¬ v2 < 0 → lp_Mo_told_9 (m + 1) τ v1 v2 (nI i) = (lp_ST_told_4 (m + 1) σ w v2 (nI i), τ) ∧ kl_Mo_told_9 (m + 1) τ v1 v2 (nI i)
  | 0, i, v2, h, h2 => by
    unfold lp_Mo_told_9 lp_ST_told_4 kl_Mo_told_9
    have c := show (32 : Int32) ≤ nI i from nI_le (a := 32) (by omega) (by omega)
    rw [if_pos c, if_pos c, if_pos c]
    exact ⟨rfl, trivial⟩
  | m + 1, i, v2, h, h2 => by
    unfold lp_Mo_told_9 lp_ST_told_4 kl_Mo_told_9
    have c := show ¬ (32 : Int32) ≤ nI i from nI_ge (b := 32) (by omega) (by decide)
    rw [if_neg c, if_neg c, if_neg c, if_neg h1, if_neg h1, if_neg h2, hl, holds_tb (by omega), nI_1]
    cases ht : tb (yn τ 3) i with
    | false =>
      have c2 := (tb_shr0 (x := yn τ 3) (k := i) (by omega)).mpr ht
      rw [if_pos c2, if_pos c2, if_pos bf]
      exact told_l hl h1 w m (i + 1) v2 (by omega) h2
    | true =>
      have c2 : ¬ ((yn τ 3 >>> (nI i &&& 31)) &&& 1) = 0 := fun z => by rw [tb_shr0 (by omega), ht] at z; cases z
      rw [if_neg c2, if_neg c2, if_neg bt]
      by_cases z : v2 = 0
      · rw [if_pos z, if_pos z, if_pos z]; exact ⟨rfl, trivial⟩
      · rw [if_neg z, if_neg z, if_neg z]
        refine told_l hl h1 w m (i + 1) (v2 + (-1)) (by omega) ?_
        obtain ⟨j, hj, rfl⟩ := nI_of h2
        cases j with
        | zero => exact absurd rfl z
        | succ j => rw [pk_m1]; exact nI_pos (by omega)
theorem op_told {c : Nat} (hc : c + 1 ≤ 1000) {σ : SC} {τ : SM} (h : RL c σ τ) (x : Int32) : okV (c + 1) σ (m_ST_told σ x) (k_Mo_told τ x) (m_Mo_told τ x) := by
  have hup := h.up hc
  obtain ⟨A, hA, ho, hB, hP, hl, hH⟩ := h
  unfold m_ST_told m_Mo_told k_Mo_told
  have e33 : (32 : Int32).toNatClampNeg + 1 = 32 + 1 := by decide
  rw [e33]
  by_cases c0 : x < 0
  · unfold lp_Mo_told_9 lp_ST_told_4 kl_Mo_told_9
    have c := show ¬ (32 : Int32) ≤ 0 by decide
    rw [if_neg c, if_neg c, if_neg c, if_pos c0, if_pos c0, if_pos c0]
    exact ⟨trivial, rfl, rfl, hup.th 0⟩
  · obtain ⟨t1, t2⟩ := told_l (σ := σ) (τ := wn τ 0 0) hl c0 x 32 0 x (by omega) c0
    rw [nI_0] at t1 t2
    rw [t1]
    exact ⟨t2, rfl, rfl, hup.th 0⟩
theorem int3 : (3 : Int32).toNatClampNeg = 3 := by decide
theorem var_core {c : Nat} (hc : c + 1 ≤ 1000) {σ : SC} {τ : SM} (h : RL c σ τ) {A : AS} (hA : RR c A (xL σ) (yL τ 0)) {x : Int32} (hx : x = -1 ∨ ∃ a, a < aN A 3 ∧ x = nI a) (hB : BK σ (pgs (aP A) (aF A 3))) (hH : HI c σ τ (xL σ)) : okX (c + 1) σ (if (m_Variants_count σ) < 10 then some ((m_Variants_addVariant σ x).1, (m_Journal_keep ((m_Variants_addVariant σ x).2))) else some ((-1), σ))
    ((k_Mo_count (wn τ 0 0) 3) ∧ if (m_Mo_count (wn τ 0 0) 3) = 10 then True else (k_Mo_begin (wn τ 0 0)) ∧ (k_Mo_count (m_Mo_begin (wn τ 0 0)) 3) ∧ (vp_in (2672 + (m_Mo_count (m_Mo_begin (wn τ 0 0)) 3)) (lnML 0)) ∧ (vp_in 3 (lnML 0)) ∧ (vp_in 3 (lnML 0)) ∧ (k_Mo_done (wL (wL (m_Mo_begin (wn τ 0 0)) 0 ((2672 + (m_Mo_count (m_Mo_begin (wn τ 0 0)) 3)).toNatClampNeg) x.toInt64) 0 ((3 : Int32).toNatClampNeg) ((yL (wL (m_Mo_begin (wn τ 0 0)) 0 ((2672 + (m_Mo_count (m_Mo_begin (wn τ 0 0)) 3)).toNatClampNeg) x.toInt64) 0 (3 : Int32).toNatClampNeg) + 1))) ∧ True)
    (if (m_Mo_count (wn τ 0 0) 3) = 10 then ((-1), (wn τ 0 0)) else ((m_Mo_count (m_Mo_begin (wn τ 0 0)) 3), (m_Mo_done (wL (wL (m_Mo_begin (wn τ 0 0)) 0 ((2672 + (m_Mo_count (m_Mo_begin (wn τ 0 0)) 3)).toNatClampNeg) x.toInt64) 0 ((3 : Int32).toNatClampNeg) ((yL (wL (m_Mo_begin (wn τ 0 0)) 0 ((2672 + (m_Mo_count (m_Mo_begin (wn τ 0 0)) 3)).toNatClampNeg) x.toInt64) 0 (3 : Int32).toNatClampNeg) + 1))))) := by
  have hup := h.up hc
  obtain ⟨-, -, ho, -, -, hl, -⟩ := h
  have b := hA.1.2.2.2.1.2.2
  obtain ⟨g1, g2, g3⟩ := BG_begin τ
  have e1 : m_Mo_count (wn τ 0 0) 3 = nI (aN A 3) := ct3 (τ := wn τ 0 0) hA
  have e2 : m_Mo_count (m_Mo_begin (wn τ 0 0)) 3 = nI (aN A 3) := ct3 (τ := m_Mo_begin (wn τ 0 0)) (σ := σ) (by rw [g2]; exact hA)
  unfold m_Variants_addVariant m_Variants_count
  rw [cc3 hA, e1, e2, int3]
  generalize m_Mo_begin (wn τ 0 0) = τb at g1 g2 g3 ⊢
  by_cases c24 : aN A 3 = 10
  · have c1 : ¬ nI (aN A 3) < 10 := by rw [c24]; decide
    have c2 : nI (aN A 3) = 10 := by rw [c24]; rfl
    rw [if_neg c1, if_pos c2, if_pos c2]
    exact okX_mk ⟨count_k (k := 3) (by decide), trivial⟩ rfl rfl (hup.th 0)
  · have c1 : nI (aN A 3) < 10 := nI_lt (b := 10) (by omega) (by decide)
    have c2 : ¬ nI (aN A 3) = 10 := fun z => c24 ((nI_eq (b := 10) (by omega) (by decide)).mp z)
    have e8 : ((2672 : Int32) + nI (aN A 3)).toNatClampNeg = 2672 + aN A 3 := clA 2672 (by omega)
    have i3 : vp_in 3 (lnML 0) := inL 3 (by omega)
    rw [if_pos c1, if_neg c2, if_neg c2, e8, nI_1, nI_l (show aN A 3 + 1 < 2 ^ 31 by omega)]
    have bg := (g1.l (2672 + aN A 3) x.toInt64).l 3 (yL (wL τb 0 (2672 + aN A 3) x.toInt64) 0 3 + 1)
    have eN : yL (wL (wL τb 0 (2672 + aN A 3) x.toInt64) 0 3 (yL (wL τb 0 (2672 + aN A 3) x.toInt64) 0 3 + 1)) 0 = vp_updL (vp_updL (yL τ 0) (2672 + aN A 3) x.toInt64) 3 (lN (aN A 3 + 1)) := by
      rw [yL_wL0, yL_wL0, g2, vu (by omega), hA.1.2.2.2.1.2.1, lN_1]
    have eL : xL (m_Row_set (m_Row_set σ 12 0 (lN (aN A 3 + 1))) 13 (nI (aN A 3)) x.toInt64) = sL (sL (xL σ) 12 0 (lN (aN A 3 + 1))) 13 (aN A 3) x.toInt64 := by
      rw [rs_xL (show aN A 3 < 10 by omega)]
      have := rs_xL (σ := σ) (k := 12) (i := 0) (v := lN (aN A 3 + 1)) (by decide)
      rw [nI_0] at this
      rw [this]
    obtain ⟨k1, k2, k3, k4⟩ := kept_op hc (A' := (va_up (aN A) 3 (aN A 3 + 1), A.2)) hA ho hB hl hH ((rs_sk σ 12 0 (lN (aN A 3 + 1))).tr (rs_sk _ 13 (nI (aN A 3)) x.toInt64)) bg (by
      rw [eN, eL]
      obtain ⟨h0, h1, h2, h3, h4, h5, h6, h7⟩ := hA.up hc
      have hr : ∀ j, j ≠ 12 → j ≠ 13 → sL (sL (xL σ) 12 0 (lN (aN A 3 + 1))) 13 (aN A 3) x.toInt64 j = xL σ j := fun j hj hk => by rw [sL_row hk, sL_row hj]
      have hr1 : sL (sL (xL σ) 12 0 (lN (aN A 3 + 1))) 13 (aN A 3) x.toInt64 12 0 = lN (aN A 3 + 1) := by rw [sL_row (by decide), sL_same]
      have hr2 : sL (sL (xL σ) 12 0 (lN (aN A 3 + 1))) 13 (aN A 3) x.toInt64 12 1 = xL σ 12 1 := by rw [sL_row (by decide), sL_cell (by decide)]
      have hr3 : sL (sL (xL σ) 12 0 (lN (aN A 3 + 1))) 13 (aN A 3) x.toInt64 13 (aN A 3) = x.toInt64 := sL_same _ _ _ _
      have hr4 : ∀ j, j ≠ aN A 3 → sL (sL (xL σ) 12 0 (lN (aN A 3 + 1))) 13 (aN A 3) x.toInt64 13 j = xL σ 13 j := fun j hj => by rw [sL_cell hj, sL_row (by decide)]
      have hN : ∀ j, j ≠ 2672 + aN A 3 → j ≠ 3 → vp_updL (vp_updL (yL τ 0) (2672 + aN A 3) x.toInt64) 3 (lN (aN A 3 + 1)) j = yL τ 0 j := fun j hj hk => by rw [vu hk, vu hj]
      have hN1 : vp_updL (vp_updL (yL τ 0) (2672 + aN A 3) x.toInt64) 3 (lN (aN A 3 + 1)) 3 = lN (aN A 3 + 1) := pk_uLs
      have hN2 : vp_updL (vp_updL (yL τ 0) (2672 + aN A 3) x.toInt64) 3 (lN (aN A 3 + 1)) (2672 + aN A 3) = x.toInt64 := by rw [vu (by omega), pk_uLs]
      generalize sL (sL (xL σ) 12 0 (lN (aN A 3 + 1))) 13 (aN A 3) x.toInt64 = L' at hr hr1 hr2 hr3 hr4 ⊢
      generalize vp_updL (vp_updL (yL τ 0) (2672 + aN A 3) x.toInt64) 3 (lN (aN A 3 + 1)) = N' at hN hN1 hN2 ⊢
      have q0 : R0 (va_up (aN A) 3 (aN A 3 + 1)) (c + 1) L' N' := by
        unfold R0
        rw [hr 0 (by decide) (by decide), hr 6 (by decide) (by decide), hr 18 (by decide) (by decide), hr1, hr2, hN 0 (by omega) (by decide), hN 1 (by omega) (by decide), hN 2 (by omega) (by decide), hN1, hN 4 (by omega) (by decide), hN 5 (by omega) (by decide), hN 6 (by omega) (by decide)]
        exact ⟨h0.1, h0.2.1, h0.2.2.1, ⟨rfl, rfl, show aN A 3 + 1 ≤ 10 by omega⟩, h0.2.2.2.2.1, h0.2.2.2.2.2⟩
      have q5 : R5 (aN A 3 + 1) (L' 13) N' := by
        intro v hv
        by_cases e : v = aN A 3
        · subst e
          rw [hr3, hN2]
          refine ⟨rfl, ?_⟩
          rcases hx with e | ⟨a, ha, e⟩
          · left; rw [e]; decide
          · right; exact ⟨a, ha, by rw [e, nI_l (by omega)]⟩
        · rw [hr4 v e, hN _ (by omega) (by omega)]
          exact h5 v (by omega)
      exact ⟨q0, (by show R1 (aN A 0) (L' 1) N'; rw [hr 1 (by decide) (by decide)]; exact h1.cg h0.1.2.2.2 fun i _ _ => hN i (by omega) (by omega)), (by show R2 (aN A 0) (aN A 1) (aN A 6) _ _ _ _ _ _ (L' 2) (L' 3) (L' 4) N'; rw [hr 2 (by decide) (by decide), hr 3 (by decide) (by decide), hr 4 (by decide) (by decide)]; exact h2.cg fun i _ _ => hN i (by omega) (by omega)), (by show R3 (aN A 1) _ (L' 5) N'; rw [hr 5 (by decide) (by decide)]; exact h3.cg fun i _ _ => hN i (by omega) (by omega)), (by show R4 (aN A 0) (aN A 2) (aN A 6) _ _ _ _ _ (L' 7) (L' 8) (L' 9) (L' 10) (L' 11) N'; rw [hr 7 (by decide) (by decide), hr 8 (by decide) (by decide), hr 9 (by decide) (by decide), hr 10 (by decide) (by decide), hr 11 (by decide) (by decide)]; exact h4.cg fun i _ _ => hN i (by omega) (by omega)), q5, (by show R6 (aN A 4) (L' 14) (L' 15) (L' 16) (L' 17) N'; rw [hr 14 (by decide) (by decide), hr 15 (by decide) (by decide), hr 16 (by decide) (by decide), hr 17 (by decide) (by decide)]; exact h6.cg h0.2.2.2.2.1.2.2 fun i _ _ => hN i (by omega) (by omega)), h7⟩) rfl
    exact okX_mk ⟨count_k (k := 3) (by decide), g3, count_k (k := 3) (by decide), inA 2672 (by omega), i3, i3, k1, trivial⟩ k3 rfl k2 k4
theorem op_variant {c : Nat} (hc : c + 1 ≤ 1000) {σ : SC} {τ : SM} (h : RL c σ τ) (x : Int32) : okX (c + 1) σ (m_ST_variant σ x) (k_Mo_variant τ x) (m_Mo_variant τ x) := by
  have hup := h.up hc
  have h' := h
  obtain ⟨A, hA, ho, hB, hP, hl, hH⟩ := h
  unfold m_ST_variant m_Mo_variant k_Mo_variant m_ST_needVariantOrNone m_ST_needVariant
  by_cases c0 : x = -1
  · rw [if_pos c0, if_pos c0, if_pos c0]
    exact var_core hc h' hA (Or.inl c0) hB hH
  · rw [if_neg c0, if_neg c0, if_neg c0]
    rcases va_cases hA x with ⟨a1, a2, a3⟩ | ⟨v, hv, rfl, a1, a2, a3⟩
    · rw [a1, a2, if_pos bf, if_pos bf, if_pos bf]
      exact okX_no ⟨a3, trivial⟩ rfl (hup.th 1)
    · rw [a1, a2, if_neg bt, if_neg bt, if_neg bt]
      obtain ⟨k1, k2⟩ := var_core hc h' hA (x := nI v) (Or.inr ⟨v, hv, rfl⟩) hB hH
      exact ⟨⟨a3, k1⟩, k2⟩
