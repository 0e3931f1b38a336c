theorem R2.rk {ns np key : Nat} {al pa od cd rk rk' : Nat → Nat} {pl : Nat → List Nat} {L2 L3 L4 N : Nat → Int64} (h : R2 ns np key al pa od cd rk pl L2 L3 L4 N) (h1 : ∀ s, s < ns → rk' s = rk s) (h2 : ∀ s, s < 24 → rk' s < 24) : R2 ns np key al pa od cd rk' pl L2 L3 L4 N := by
  obtain ⟨a, b, c, d, e⟩ := h
  exact ⟨fun p hp ha => by obtain ⟨x1, x2, x3, x4, x5, x6⟩ := a p hp ha; exact ⟨x1, x2, x3, x4, by rw [h1 _ x2, h1 _ x3]; exact x5, x6⟩, b, c, h2, e⟩
theorem tw_l (v1 v2 v3 : Int32) : ∀ (m i : Nat) (τ : SM), i + m = 30 → ∃ τ', lp_Mo_copy_210 (m + 1) τ v1 v2 v3 (nI i) = lp_Mo_copy_241 242 τ' v1 v2 v3 (m_Mo_nextGate τ' v1 (-1)) ∧ (k_Mo_nextGate τ' v1 (-1) → kl_Mo_copy_241 242 τ' v1 v2 v3 (m_Mo_nextGate τ' v1 (-1)) → kl_Mo_copy_210 (m + 1) τ v1 v2 v3 (nI i)) ∧ yL τ' = yL τ ∧ yn τ' = yn τ ∧ (∀ j, i ≤ j → j < 30 → yI τ' 6 j = -1) ∧ (∀ j, ¬ (i ≤ j ∧ j < 30) → yI τ' 6 j = yI τ 6 j)
  | 0, i, τ, h => by
    unfold lp_Mo_copy_210 kl_Mo_copy_210
    have c := show (30 : Int32) ≤ nI i from nI_le (a := 30) (by omega) (by omega)
    rw [if_pos c, if_pos c]
    exact ⟨τ, rfl, fun w1 w2 => ⟨w1, w2⟩, rfl, rfl, fun j w1 w2 => by omega, fun _ _ => rfl⟩
  | m + 1, i, τ, h => by
    unfold lp_Mo_copy_210 kl_Mo_copy_210
    have c := show ¬ (30 : Int32) ≤ nI i from nI_ge (b := 30) (by omega) (by decide)
    rw [if_neg c, if_neg c, nI_clamp (by omega), nI_1]
    obtain ⟨τ', h1, h2, h3, h4, h5, h6⟩ := tw_l v1 v2 v3 m (i + 1) (wI τ 6 i (-1)) (by omega)
    refine ⟨τ', h1, fun w1 w2 => ⟨vp_in_nI (show i < 30 by omega) (by decide), h2 w1 w2⟩, h3, h4, fun j w1 w2 => ?_, fun j w => by rw [h6 j (by omega), yI_wI, if_neg (by omega)]⟩
    by_cases e : j = i
    · rw [e, h6 i (by omega), yI_wI, if_pos ⟨rfl, rfl⟩]
    · exact h5 j (by omega) w2
/-- a copy that isn't made -/
def cpF (σ : SC) (x : Int32) : Prop := (24 : Int32) ≤ m_Sheets_sheetCount σ ∨ m_Sheets_placementsLeft σ < m_Sheets_placementsOn σ x ∨ ¬ (m_Parts_partsOn σ x).1 ≤ m_Parts_partsLeft σ
/-- what a copy notes, at most -/
def cpM (σ : SC) (x : Int32) : Nat := (2 + 37 * ct_Sheets_addSheetLike_31 ((60 : Int32).toNatClampNeg + 1) (m_Row_set ((m_Sheets_addSheet (m_Parts_partsOn σ x).2).2) 1 ((m_Sheets_addSheet (m_Parts_partsOn σ x).2).1) ((m_Row_at ((m_Sheets_addSheet (m_Parts_partsOn σ x).2).2) 1 x).toInt64)) x ((m_Sheets_addSheet (m_Parts_partsOn σ x).2).1) (m_Sheets_firstOn (m_Row_set ((m_Sheets_addSheet (m_Parts_partsOn σ x).2).2) 1 ((m_Sheets_addSheet (m_Parts_partsOn σ x).2).1) ((m_Row_at ((m_Sheets_addSheet (m_Parts_partsOn σ x).2).2) 1 x).toInt64)) x) 0) + (6 * ((m_Parts_gatesOn (m_Arrays_fillI (m_Sheets_addSheetLike (m_Parts_partsOn σ x).2 x).2 6 (-1)) x).toNatClampNeg + 1))
theorem op_copy {c : Nat} (hc : c + 1 ≤ 1000) {σ : SC} {τ : SM} (h : RL c σ τ) (x : Int32) : okX (c + 1) σ (m_ST_copy σ x) (k_Mo_copy τ x) (m_Mo_copy τ x) ∧ ∀ RES, m_ST_copy σ x = some RES → cpF σ x ∨ (nsh RES.2 = nsh σ + 1 ∧ cpM σ x ≤ 1238) := by
  obtain ⟨A, hA0⟩ := h
  have hA0 : RLA c A σ τ := hA0
  have hup := (hA0.up hc).rl
  obtain ⟨hA, ho, hB, hP, hl, hH⟩ := id hA0
  have b := hA.1.1.2.2.2
  have b1 := hA.1.2.1.2.2
  have b2 := hA.1.2.2.1.2.2
  unfold m_ST_copy m_Mo_copy k_Mo_copy m_ST_needSheet m_Sheets_sheetCount
  rcases sh_cases hA x with ⟨a1, a2, a3⟩ | ⟨s, hs, rfl, a1, a2, a3⟩
  · rw [a1, a2, if_pos bf, if_pos bf, if_pos bf]
    exact ⟨okX_no ⟨a3, trivial⟩ rfl (hup.th 1), fun RES z => by cases z⟩
  · rw [a1, a2, if_neg bt, if_neg bt, if_neg bt, cc0 hA]
    have e0 : m_Mo_count (wn τ 0 0) 0 = nI (aN A 0) := ct0 (τ := wn τ 0 0) hA
    have e1 : m_Mo_count (wn τ 0 0) 1 = nI (aN A 1) := ct1 (τ := wn τ 0 0) hA
    have e2 : m_Mo_count (wn τ 0 0) 2 = nI (aN A 2) := ct2 (τ := wn τ 0 0) hA
    rw [e0, e1, e2]
    by_cases c24 : aN A 0 = 24
    · have w1 : (24 : Int32) ≤ nI (aN A 0) := by rw [c24]; decide
      have w2 : nI (aN A 0) = 24 := by rw [c24]; rfl
      rw [if_pos w2, if_pos w2]
      refine ⟨?_, fun _ _ => Or.inl (Or.inl (by unfold m_Sheets_sheetCount; rw [cc0 hA]; exact w1))⟩
      show okX (c + 1) σ (if (24 : Int32) ≤ nI (aN A 0) then some (-1, σ) else _) _ _
      rw [if_pos w1]
      exact okX_mk ⟨a3, count_k (k := 0) (by decide), trivial⟩ rfl rfl (hup.th 0)
    · have w1 : ¬ (24 : Int32) ≤ nI (aN A 0) := nI_ge (b := 24) (by omega) (by decide)
      have w2 : ¬ nI (aN A 0) = 24 := fun z => c24 ((nI_eq (b := 24) (by omega) (by decide)).mp z)
      obtain ⟨o1, o2⟩ := plOn_M (τ := wn τ 0 0) (s := s) hA.2.2.1 hA.1.2.1.2.1 (by omega)
      obtain ⟨r1, r2⟩ := ptOn_M (τ := wn τ 0 0) (σ := σ) (s := s) hA (by omega)
      have o3 := plOn_C (σ := σ) (s := s) hA.2.2.1 (by omega)
      obtain ⟨σ1, r3, r4⟩ := ptOn_C (σ := σ) (τ := τ) (s := s) hA (by omega)
      have hpl60 := pl_len hA.2.2.1 (show s < 24 by omega)
      have hfl : (fdp (aG A s)).length ≤ 30 := nodup_len (fdp_nodup _) (fun q hq => by have := fdp_bd hA (show s < 24 by omega) q hq; omega)
      have el : m_Sheets_placementsLeft σ = nI (60 - aN A 1) := by
        unfold m_Sheets_placementsLeft; rw [cc1 hA]; exact pk_sub (a := 60) b1
      have eq : m_Parts_partsLeft σ = nI (30 - aN A 2) := by
        unfold m_Parts_partsLeft; rw [cc2 hA]; exact pk_sub (a := 30) b2
      rw [if_neg w2, if_neg w2, o1, r1, nI_add, nI_add]
      have fF : 60 < aN A 1 + (aP A s).length → cpF σ (nI s) := fun z => Or.inr (Or.inl (by rw [el, o3]; exact nI_lt (by omega) (by omega)))
      have fG : ¬ aN A 2 + (fdp (aG A s)).length ≤ 30 → cpF σ (nI s) := fun z => Or.inr (Or.inr (by rw [r3, eq]; exact nI_ge (by omega) (by omega)))
      have hcM : ∀ (m : Nat) (g : Nat), cpM σ (nI s) = 2 + 37 * m + 6 * (g + 1) → m ≤ 30 → g ≤ 20 → cpM σ (nI s) ≤ 1238 := fun m g h1 h2 h3 => by omega
      show okX (c + 1) σ (if (24 : Int32) ≤ nI (aN A 0) then some (-1, σ) else if m_Sheets_placementsLeft σ < m_Sheets_placementsOn σ (nI s) then some (-1, σ) else if (m_Parts_partsOn σ (nI s)).1 ≤ m_Parts_partsLeft σ then some ((m_Sheets_addSheetLike (m_Parts_partsOn σ (nI s)).2 (nI s)).1, m_Journal_keep (m_Parts_addPartsLike (m_Sheets_addSheetLike (m_Parts_partsOn σ (nI s)).2 (nI s)).2 (nI s) (m_Sheets_addSheetLike (m_Parts_partsOn σ (nI s)).2 (nI s)).1)) else some (-1, (m_Parts_partsOn σ (nI s)).2)) _ _ ∧ ∀ RES, (if (24 : Int32) ≤ nI (aN A 0) then some (-1, σ) else if m_Sheets_placementsLeft σ < m_Sheets_placementsOn σ (nI s) then some (-1, σ) else if (m_Parts_partsOn σ (nI s)).1 ≤ m_Parts_partsLeft σ then some ((m_Sheets_addSheetLike (m_Parts_partsOn σ (nI s)).2 (nI s)).1, m_Journal_keep (m_Parts_addPartsLike (m_Sheets_addSheetLike (m_Parts_partsOn σ (nI s)).2 (nI s)).2 (nI s) (m_Sheets_addSheetLike (m_Parts_partsOn σ (nI s)).2 (nI s)).1)) else some (-1, (m_Parts_partsOn σ (nI s)).2)) = some RES → cpF σ (nI s) ∨ (nsh RES.2 = nsh σ + 1 ∧ cpM σ (nI s) ≤ 1238)
      rw [if_neg w1, el, o3, r3, eq]
      have k0 := count_k (τ := wn τ 0 0) (k := 0) (by decide)
      have k1 := count_k (τ := wn τ 0 0) (k := 1) (by decide)
      have k2 := count_k (τ := wn τ 0 0) (k := 2) (by decide)
      by_cases cp : 60 < aN A 1 + (aP A s).length
      · have v1 : (60 : Int32) < nI (aN A 1 + (aP A s).length) := nI_lt (a := 60) cp (by omega)
        have v2 : nI (60 - aN A 1) < nI (aP A s).length := nI_lt (by omega) (by omega)
        rw [if_pos v1, if_pos v1, if_pos v2]
        exact ⟨okX_mk ⟨a3, k0, k1, o2, trivial⟩ rfl rfl (hup.th 0), fun _ _ => Or.inl (fF cp)⟩
      · have v1 : ¬ (60 : Int32) < nI (aN A 1 + (aP A s).length) := nI_nlt (a := 60) (by omega) (by decide)
        have v2 : ¬ nI (60 - aN A 1) < nI (aP A s).length := nI_nlt (by omega) (by omega)
        rw [if_neg v1, if_neg v1, if_neg v2]
        show okX (c + 1) σ (if nI (fdp (aG A s)).length ≤ nI (30 - aN A 2) then some ((m_Sheets_addSheetLike σ1 (nI s)).1, m_Journal_keep (m_Parts_addPartsLike (m_Sheets_addSheetLike σ1 (nI s)).2 (nI s) (m_Sheets_addSheetLike σ1 (nI s)).1)) else some (-1, σ1)) _ _ ∧ ∀ RES, (if nI (fdp (aG A s)).length ≤ nI (30 - aN A 2) then some ((m_Sheets_addSheetLike σ1 (nI s)).1, m_Journal_keep (m_Parts_addPartsLike (m_Sheets_addSheetLike σ1 (nI s)).2 (nI s) (m_Sheets_addSheetLike σ1 (nI s)).1)) else some (-1, σ1)) = some RES → cpF σ (nI s) ∨ (nsh RES.2 = nsh σ + 1 ∧ cpM σ (nI s) ≤ 1238)
        by_cases cq : aN A 2 + (fdp (aG A s)).length ≤ 30
        · have u1 : nI (aN A 2 + (fdp (aG A s)).length) ≤ 30 := nI_le (b := 30) cq (by decide)
          have u2 : nI (fdp (aG A s)).length ≤ nI (30 - aN A 2) := nI_le (by omega) (by omega)
          rw [if_pos u1, if_pos u1, if_pos u2]
          obtain ⟨g1, g2, g3⟩ := BG_begin τ
          have e0b : m_Mo_count (m_Mo_begin (wn τ 0 0)) 0 = nI (aN A 0) := ct0 (τ := m_Mo_begin (wn τ 0 0)) (σ := σ) (by rw [g2]; exact hA)
          have k0b := count_k (τ := m_Mo_begin (wn τ 0 0)) (k := 0) (by decide)
          rw [e0b]
          generalize m_Mo_begin (wn τ 0 0) = τb at g1 g2 g3 k0b ⊢
          have e8 : ((8 : Int32) + nI (aN A 0)).toNatClampNeg = 8 + aN A 0 := clA 8 (by omega)
          have e8s : ((8 : Int32) + nI s).toNatClampNeg = 8 + s := clA 8 (by omega)
          have z0 : (0 : Int32).toNatClampNeg = 0 := by decide
          have en0 : yL (wL τb 0 (8 + aN A 0) (yL τ 0 (8 + s))) 0 0 + 1 = lN (aN A 0 + 1) := by rw [yL_wL, if_neg (by omega), g2, hA.1.1.2.1, lN_1]
          rw [e8, e8s, z0, g2, en0]
          have bg3 := (g1.l (8 + aN A 0) (yL τ 0 (8 + s))).l 0 (lN (aN A 0 + 1))
          have rdN : ∀ i, yL (wL (wL τb 0 (8 + aN A 0) (yL τ 0 (8 + s))) 0 0 (lN (aN A 0 + 1))) 0 i = if i = 0 then lN (aN A 0 + 1) else if i = 8 + aN A 0 then yL τ 0 (8 + s) else yL τ 0 i := fun i => by rw [yL_wL, yL_wL, g2]; simp
          generalize wL (wL τb 0 (8 + aN A 0) (yL τ 0 (8 + s))) 0 0 (lN (aN A 0 + 1)) = τ3 at bg3 rdN ⊢
          -- the class's new sheet
          have hx1 : xL σ1 = xL σ := r4.1
          have ha1 : m_Sheets_addSheet σ1 = (nI (aN A 0), m_Row_set σ1 0 0 (lN (aN A 0 + 1))) := by
            unfold m_Sheets_addSheet m_Sheets_sheetCount
            rw [cc0 (σ := σ1) (τ := τ) (by rw [hx1]; exact hA), nI_1, nI_l (by omega)]
          have k3 := rs_sk σ1 0 0 (lN (aN A 0 + 1))
          have L3 : xL (m_Row_set σ1 0 0 (lN (aN A 0 + 1))) = sL (xL σ) 0 0 (lN (aN A 0 + 1)) := by
            have := rs_xL (σ := σ1) (k := 0) (i := 0) (v := lN (aN A 0 + 1)) (by decide)
            rw [nI_0, hx1] at this; exact this
          -- the class's own words for it
          have hLk : m_Sheets_addSheetLike σ1 (nI s) = lp_Sheets_addSheetLike_31 ((60 : Int32).toNatClampNeg + 1) (m_Row_set (m_Row_set σ1 0 0 (lN (aN A 0 + 1))) 1 (nI (aN A 0)) (m_Row_at (m_Row_set σ1 0 0 (lN (aN A 0 + 1))) 1 (nI s)).toInt64) (nI s) (nI (aN A 0)) (m_Sheets_firstOn (m_Row_set (m_Row_set σ1 0 0 (lN (aN A 0 + 1))) 1 (nI (aN A 0)) (m_Row_at (m_Row_set σ1 0 0 (lN (aN A 0 + 1))) 1 (nI s)).toInt64) (nI s)) 0 := by
            unfold m_Sheets_addSheetLike; rw [ha1]
          have hcp : cpM σ (nI s) = 2 + 37 * ct_Sheets_addSheetLike_31 ((60 : Int32).toNatClampNeg + 1) (m_Row_set (m_Row_set σ1 0 0 (lN (aN A 0 + 1))) 1 (nI (aN A 0)) (m_Row_at (m_Row_set σ1 0 0 (lN (aN A 0 + 1))) 1 (nI s)).toInt64) (nI s) (nI (aN A 0)) (m_Sheets_firstOn (m_Row_set (m_Row_set σ1 0 0 (lN (aN A 0 + 1))) 1 (nI (aN A 0)) (m_Row_at (m_Row_set σ1 0 0 (lN (aN A 0 + 1))) 1 (nI s)).toInt64) (nI s)) 0 + 6 * ((m_Parts_gatesOn (m_Arrays_fillI (m_Sheets_addSheetLike σ1 (nI s)).2 6 (-1)) (nI s)).toNatClampNeg + 1) := by
            unfold cpM; rw [r3, ha1]
          rw [hLk] at hcp ⊢
          generalize m_Row_set σ1 0 0 (lN (aN A 0 + 1)) = Y1 at k3 L3 hcp ⊢
          have er1 : m_Row_at Y1 1 (nI s) = (xL σ 1 s).toInt32 := by rw [at_in (k := 1) (show s < 24 by omega), L3, sL_row (by decide)]
          rw [er1] at hcp ⊢
          have k4 := k3.tr (rs_sk Y1 1 (nI (aN A 0)) (xL σ 1 s).toInt32.toInt64)
          have L4 : xL (m_Row_set Y1 1 (nI (aN A 0)) (xL σ 1 s).toInt32.toInt64) = sL (sL (xL σ) 0 0 (lN (aN A 0 + 1))) 1 (aN A 0) (xL σ 1 s).toInt32.toInt64 := by rw [rs_xL (show aN A 0 < 24 by omega), L3]
          generalize m_Row_set Y1 1 (nI (aN A 0)) (xL σ 1 s).toInt32.toInt64 = Y2 at k4 L4 hcp ⊢
          have hQ1 : RQ (c + 1) (va_up (aN A) 0 (aN A 0 + 1), va_up (aF A) 4 (va_up (aF A 4) (aN A 0) (aF A 4 s)), aP A, aG A) (xL Y2) (yL τ3 0) := by
            obtain ⟨h0, h1, h2, h3, h4, h5, h6, h7⟩ := hA.up hc
            have rd : ∀ k i, xL Y2 k i = if k = 1 ∧ i = aN A 0 then (xL σ 1 s).toInt32.toInt64 else if k = 0 ∧ i = 0 then lN (aN A 0 + 1) else xL σ k i := fun k i => by rw [L4, sL_eq, sL_eq]
            have hr : ∀ j, j ≠ 0 → j ≠ 1 → xL Y2 j = xL σ j := fun j w1 w2 => by funext i; rw [rd, if_neg (fun z => w2 z.1), if_neg (fun z => w1 z.1)]
            have ra : xL Y2 0 0 = lN (aN A 0 + 1) := by rw [rd, if_neg (by omega), if_pos ⟨rfl, rfl⟩]
            have rb : xL Y2 0 1 = xL σ 0 1 := by rw [rd, if_neg (by omega), if_neg (by omega)]
            have rc : xL Y2 1 (aN A 0) = (xL σ 1 s).toInt32.toInt64 := by rw [rd, if_pos ⟨rfl, rfl⟩]
            have rd' : ∀ j, j ≠ aN A 0 → xL Y2 1 j = xL σ 1 j := fun j hj => by rw [rd, if_neg (by omega), if_neg (by omega)]
            have n0 : yL τ3 0 0 = lN (aN A 0 + 1) := by rw [rdN, if_pos rfl]
            have n8 : yL τ3 0 (8 + aN A 0) = yL τ 0 (8 + s) := by rw [rdN, if_neg (by omega), if_pos rfl]
            have hN0 : ∀ i, i ≠ 0 → i ≠ 8 + aN A 0 → yL τ3 0 i = yL τ 0 i := fun i w1 w2 => by rw [rdN, if_neg w1, if_neg w2]
            generalize xL Y2 = L' at hr ra rb rc rd' ⊢
            generalize yL τ3 0 = N' at n0 n8 hN0 ⊢
            have hN : ∀ i, i ≠ 0 → i ≠ 8 + aN A 0 → N' i = yL τ 0 i := hN0
            have ky := key30 hA
            have q0 : R0 (va_up (aN A) 0 (aN A 0 + 1)) (c + 1) L' N' := by
              unfold R0
              rw [ra, rb, hr 6 (by decide) (by decide), hr 12 (by decide) (by decide), hr 18 (by decide) (by decide), n0, hN 1 (by omega) (by omega), hN 2 (by omega) (by omega), hN 3 (by omega) (by omega), hN 4 (by omega) (by omega), hN 5 (by omega) (by omega), hN 6 (by omega) (by omega)]
              exact ⟨⟨rfl, rfl, show 0 < aN A 0 + 1 by omega, show aN A 0 + 1 ≤ 24 by omega⟩, h0.2⟩
            have q1 : R1 (aN A 0 + 1) (L' 1) N' := by
              refine ⟨fun s' hs' => ?_, fun s' v1 v2 => by rw [rd' s' (by omega)]; exact h1.2 s' (by omega) v2⟩
              by_cases e : s' = aN A 0
              · subst e; rw [rc, n8, to64_32]; exact h1.1 s hs
              · rw [rd' s' e, hN _ (by omega) (by omega)]; exact h1.1 s' (by omega)
            have q2 : R2 (aN A 0 + 1) (aN A 1) (aN A 6) (aF A 0) (aF A 1) (aF A 2) (aF A 3) (va_up (aF A 4) (aN A 0) (aF A 4 s)) (aP A) (L' 2) (L' 3) (L' 4) N' := by
              rw [hr 2 (by decide) (by decide), hr 3 (by decide) (by decide), hr 4 (by decide) (by decide)]
              refine R2.cg ?_ (fun i _ _ => hN i (by omega) (by omega))
              refine R2.mono (R2.rk h2 (fun s' hs' => va_up_ne _ _ (by omega)) (fun s' hs' => ?_)) (by omega) (by omega) (Nat.le_refl _) (by omega)
              by_cases e : s' = aN A 0
              · rw [e, va_up_self]; exact h2.2.2.2.1 s (by omega)
              · rw [va_up_ne _ _ e]; exact h2.2.2.2.1 s' hs'
            exact ⟨q0, q1, q2, (by show R3 (aN A 1) _ (L' 5) N'; rw [hr 5 (by decide) (by decide)]; exact h3.cg fun i _ _ => hN i (by omega) (by omega)), (by show R4 (aN A 0 + 1) (aN A 2) (aN A 6) _ _ _ _ _ (L' 7) (L' 8) (L' 9) (L' 10) (L' 11) N'; rw [hr 7 (by decide) (by decide), hr 8 (by decide) (by decide), hr 9 (by decide) (by decide), hr 10 (by decide) (by decide), hr 11 (by decide) (by decide)]; exact (h4.mono (by omega) (by omega) (by omega) (by omega)).cg fun i _ _ => hN i (by omega) (by omega)), (by show R5 (aN A 3) (L' 13) N'; rw [hr 13 (by decide) (by decide)]; exact h5.cg h0.2.2.2.1.2.2 fun i _ _ => hN i (by omega) (by omega)), (by show R6 (aN A 4) (L' 14) (L' 15) (L' 16) (L' 17) N'; rw [hr 14 (by decide) (by decide), hr 15 (by decide) (by decide), hr 16 (by decide) (by decide), hr 17 (by decide) (by decide)]; exact h6.cg h0.2.2.2.2.1.2.2 fun i _ _ => hN i (by omega) (by omega))⟩
          -- the placements
          have e61 : (60 : Int32).toNatClampNeg + 1 = 61 := by decide
          have eF : m_Sheets_firstOn Y2 (nI s) = hdI (aP A s) := pl_chn (xL Y2) rfl hQ1.2.2.1 (by omega)
          have hnx := next_eq (τ := τ3) hQ1.2.2.1 hQ1.1.2.1.2.1 (s := s) (by omega) (pre := []) (r := aP A s) rfl
          have hnx1 : m_Mo_next τ3 (nI s) (-1) = hdI (aP A s) := hnx.1
          have hnx2 : k_Mo_next τ3 (nI s) (-1) := hnx.2
          have hk6 := hA.1.2.2.2.2.2.2.2.1
          obtain ⟨σ4, τ4, A4, i1, i2, i3, i4, i5, i6, i7, i8, i9⟩ := cpl_l (c := c + 1) (sheet := s) (made := aN A 0) (by omega) (aP A s) [] Y2 τ3 (va_up (aN A) 0 (aN A 0 + 1), va_up (aF A) 4 (va_up (aF A 4) (aN A 0) (aF A 4 s)), aP A, aG A) 61 62 0 hQ1 (show s < aN A 0 + 1 by omega) (show aN A 0 < aN A 0 + 1 by omega) (by
            show va_up (aF A 4) (aN A 0) (aF A 4 s) s = va_up (aF A 4) (aN A 0) (aF A 4 s) (aN A 0)
            rw [va_up_self, va_up_ne _ _ (by omega)]) rfl (show aN A 1 + (aP A s).length ≤ 60 by omega) (show aN A 6 + (aP A s).length ≤ 200 * (c + 1) by omega) (by omega) (by omega) (by omega)
          rw [nI_0] at i1 i9
          rw [e61, eF, i1, i9] at hcp
          rw [e61, eF, i1, hnx1, i3]
          have sj4 := (sj_lk r4).tr (sj_sk (k4.tr i2))
          have c2 : aN A4 2 = aN A 2 := i7.1 2 (by decide) (by decide)
          have c0 : aN A4 0 = aN A 0 + 1 := i7.1 0 (by decide) (by decide)
          have cG : aG A4 = aG A := i7.2.2.2.2
          have hpg : pgs (aP A4) (aF A4 3) = pgs (aP A) (aF A 3) := by
            refine pgs_congr (ns := aN A 0) hA.1.1.2.2.1 (fun s' hs' => i7.2.1 s' (by omega)) (fun s' hs' q hq => ?_)
            obtain ⟨p1, p2, p3, p4, p5, p6, p7⟩ := pl_al hA.2.2.1 (show s' < 24 by omega) hq
            exact ⟨i7.2.2.1 3 q p6, p7⟩
          -- the gates
          obtain ⟨τ5, j1, j2, j3, j4, j5, -⟩ := tw_l (nI s) (nI (aN A 0)) (-1) 30 0 τ4 (by omega)
          rw [nI_0] at j1 j2
          rw [j1]
          have hgm : aG A (aN A 0) = [] := by
            obtain ⟨-, -, -, hmem, -⟩ := hA.2.2.2.2.1.2.2.2.1 (aN A 0) (by omega)
            cases hg : aG A (aN A 0) with
            | nil => rfl
            | cons k t =>
              have h1 := (hmem k).mp (by rw [hg]; simp)
              have h2 := gs_lt hA.2.2.2.2.1 (k := k) (by omega)
              have := (hA.2.2.2.2.1.2.1 k h2).2.2.1
              omega
          have hgs := hA.2.2.2.2.1.2.2.2.1 s (by omega)
          have hng := nextG_eq (τ := τ5) (key := aN A4 6) (by rw [j3]; exact i6.2.2.2.2.1) (by rw [j3]; exact i6.1.2.2.1.2.1) (s := s) (by omega) (pre := []) (r := aG A s) (by rw [cG]; rfl)
          have hng1 : m_Mo_nextGate τ5 (nI s) (-1) = hdI (aG A s) := hng.1
          have hng2 : k_Mo_nextGate τ5 (nI s) (-1) := hng.2
          rw [hng1] at j2 ⊢
          show okX (c + 1) σ (some (nI (aN A 0), m_Journal_keep (m_Parts_addPartsLike σ4 (nI s) (nI (aN A 0))))) _ _ ∧ ∀ RES, some (nI (aN A 0), m_Journal_keep (m_Parts_addPartsLike σ4 (nI s) (nI (aN A 0)))) = some RES → cpF σ (nI s) ∨ (nsh RES.2 = nsh σ + 1 ∧ cpM σ (nI s) ≤ 1238)
          have hcp : cpM σ (nI s) = 2 + 37 * (aP A s).length + 6 * ((m_Parts_gatesOn (m_Arrays_fillI σ4 6 (-1)) (nI s)).toNatClampNeg + 1) := hcp
          unfold m_Parts_addPartsLike
          have hf := fill_eq σ4 6 (-1)
          generalize m_Arrays_fillI σ4 6 (-1) = F at hf hcp ⊢
          obtain ⟨f1, f2, f3, f4⟩ := hf
          have hLK : LK σ4 F := ⟨f2.1, f2.2.1, f2.2.2.1, f4, f3⟩
          have hgo : m_Parts_gatesOn F (nI s) = nI (aG A s).length := by
            unfold m_Parts_gatesOn
            have h11 := (i6.2.2.2.2.1.2.2.2.1 s (by omega)).1
            rw [at_in (k := 11) (show s < 24 by omega), f2.1, h11, lN_i, cG]
          rw [hgo, nI_clamp (by omega)] at hcp
          rw [hgo, nI_clamp (by omega)]
          have hrest := cpg_l (c := c + 1) (sheet := s) (made := aN A 0) (nq0 := aN A 2) (by omega) (aG A s) [] F τ5 A4 (fun _ => 0) ((aG A s).length + 1) 242 (by rw [f2.1, j3]; exact i6) (by rw [hpg]; exact hA.2.2.2.2.2.2.2) (by omega) (by omega) (by rw [cG]; rfl) (by
            refine ⟨by rw [c2]; rfl, by rw [cG, hgm], fun q hq => ⟨fun z => by simp [fdp] at z, fun _ => ⟨f1 q hq, j5 q (Nat.zero_le _) hq⟩⟩, fun q hq => by simp [fdp] at hq, fun q q' hq => by simp [fdp] at hq⟩) (by rw [cG]; exact cq) (by
            rw [cG]
            intro k hk
            exact gs_lt hA.2.2.2.2.1 (by have := (hgs.2.2.2.1 k).mp hk; omega)) (by
            have e6 : aN A4 6 = aN A 6 + (aP A s).length := i8
            omega) (by omega) (by omega)
          rw [cG] at hrest
          obtain ⟨σ5, τ6, A5, q1, q2, q3, q4, q5, q6, q7⟩ := hrest
          have ez : (nI ([] : List Nat).length) = 0 := rfl
          rw [ez] at q1
          rw [q1, q3]
          have bg4 : BG τ τ5 := (i5 τ bg3).tr0 (by rw [j3]) (by rw [j3]) (fun k _ => by rw [j4])
          have hpg5 : pgs (aP A5) (aF A5 3) = pgs (aP A) (aF A 3) := by rw [q7.2.1, q7.2.2 3 (by decide), hpg]
          obtain ⟨kk1, kk2, kk3, kk4⟩ := kept_j hc (A' := A5) hA ho hB hl hH (sj4.tr ((sj_lk hLK).tr q2)) (q5 τ bg4) (q6.rr (by rw [hpg5]; exact hA.2.2.2.2.2.2.2)) hpg5 (by rw [q7.1 0 (by decide) (by decide), c0])
          refine ⟨?_, fun RES z => Or.inr ?_⟩
          · exact okX_mk ⟨a3, k0, k1, o2, k2, r2, g3, k0b, inA 8 (by omega), inA 8 (by omega), in0, in0, hnx2, i4 (j2 hng2 (q4 kk1))⟩ kk3 rfl kk2 (by rw [kk4]; omega)
          · cases z
            have hlen2 : (aP A s).length ≤ 30 := by
              have := nodup_len (pl_nodup hA.2.2.1 (show s < 24 by omega)) (fun q hq => (pl_al hA.2.2.1 (show s < 24 by omega) hq).2.2.2.2.2.1)
              omega
            exact ⟨kk4, hcM _ _ hcp hlen2 (by omega)⟩
        · have u1 : ¬ nI (aN A 2 + (fdp (aG A s)).length) ≤ 30 := nI_ge (a := 30) (by omega) (by omega)
          have u2 : ¬ nI (fdp (aG A s)).length ≤ nI (30 - aN A 2) := nI_ge (by omega) (by omega)
          rw [if_neg u1, if_neg u1, if_neg u2]
          exact ⟨okX_mk ⟨a3, k0, k1, o2, k2, r2, trivial⟩ rfl rfl (((hA0.th 0).lk r4).up hc).rl (by show nsL (xL σ) ≤ nsL (xL σ1) + 1; rw [r4.1]; exact Nat.le_succ _), fun _ _ => Or.inl (fG cq)⟩
