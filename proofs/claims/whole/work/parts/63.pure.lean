/-- begun: what the reference holds in before, and what it hasn't touched -/
def BG (τ τ1 : SM) : Prop := (∀ k, k < 3842 → yL τ1 1 k = yL τ 0 k) ∧ yL τ1 2 = yL τ 2 ∧ (∀ k, 1 ≤ k → k < 4 → yn τ1 k = yn τ k) ∧ yn τ1 0 = 0
theorem BG_begin (τ : SM) : BG τ (m_Mo_begin (wn τ 0 0)) ∧ yL (m_Mo_begin (wn τ 0 0)) 0 = yL τ 0 ∧ k_Mo_begin (wn τ 0 0) := by
  obtain ⟨h1, h2⟩ := begin_eq (wn τ 0 0)
  refine ⟨?_, ?_, h2⟩
  · rw [h1]
    refine ⟨fun k hk => ?_, ?_, fun k h1 h2 => ?_, rfl⟩
    · rw [yL_wR, cpN_in hk]; rfl
    · rw [yL_wRn _ _ (by decide)]; rfl
    · show yn (wn τ 0 0) k = _
      rw [yn_wn, if_neg (by omega)]
  · rw [h1, yL_wRn _ _ (by decide)]; rfl
theorem BG.l {τ τ1 : SM} (h : BG τ τ1) (i : Nat) (v : Int64) : BG τ (wL τ1 0 i v) :=
  ⟨fun k hk => by rw [yL_wLn _ _ _ _ (by decide)]; exact h.1 k hk, by rw [yL_wLn _ _ _ _ (by decide)]; exact h.2.1, h.2.2⟩
theorem yL_wL0 (τ : SM) (i : Nat) (v : Int64) : yL (wL τ 0 i v) 0 = vp_updL (yL τ 0) i v := by funext j; rw [yL_wL]; unfold vp_updL; by_cases e : j = i <;> simp [e]
theorem kept_op {c : Nat} (hc : c + 1 ≤ 1000) {σ σ1 : SC} {τ τ1 : SM} {A A' : AS} (hA : RR c A (xL σ) (yL τ 0)) (ho : xo σ = []) (hB : BK σ (pgs (aP A) (aF A 3))) (hl : xn σ 3 = yn τ 3) (hH : HI c σ τ (xL σ))
    (hs : sk σ σ1) (hb : BG τ τ1) (hA' : RR (c + 1) A' (xL σ1) (yL τ1 0)) (hp : pgs (aP A') (aF A' 3) = pgs (aP A) (aF A 3)) (hn : aN A 0 ≤ aN A' 0 ∧ aN A' 0 ≤ aN A 0 + 1 := by exact ⟨Nat.le_refl _, Nat.le_succ _⟩) : k_Mo_done τ1 ∧ RL (c + 1) (m_Journal_keep σ1) (m_Mo_done τ1) ∧ yn (m_Mo_done τ1) 0 = 0 ∧ nsh σ ≤ nsh (m_Journal_keep σ1) + 1 := by
  have hU : U σ1 = xL σ := by rw [hs.1]; unfold U; rw [ho]; rfl
  obtain ⟨n, i, f, g1, g2, g3, g4, g5, g6, g7, g8⟩ := id hH
  obtain ⟨d1, d2, d3, d4, d5, d6⟩ := act_done hc hA hH hU (fun k _ => by rw [hs.2.2.1]) hs.2.2.2 hb.1 hb.2.1 (fun k h1 h2 => hb.2.2.1 k h1 (by omega)) (by rw [hA'.ns]; exact hn.2)
  obtain ⟨k1, k2, k3⟩ := keep_L σ1
  obtain ⟨-, -, q3, -⟩ := keep_n (σ := σ1) g1 g2 (by rw [hs.2.2.1, g4]) (by rw [hs.2.2.1, g5])
  refine ⟨d2, ⟨A', ?_, k3, ?_, (fun z => by rw [d6] at z; cases z), ?_, ?_⟩, by rw [d4]; exact hb.2.2.2, by show nsL (xL σ) ≤ nsL (xL (m_Journal_keep σ1)) + 1; rw [k1, hA.ns, hA'.ns]; omega⟩
  · rw [k1, d3]; exact hA'
  · rw [hp]
    unfold BK at hB ⊢
    rw [k2, q3 2 (by decide), hs.2.1, hs.2.2.1]
    exact hB
  · rw [q3 3 (by decide), hs.2.2.1, d5, hb.2.2.1 3 (by decide) (by decide)]; exact hl
  · rw [k1]; exact d1
section CS
variable {c : Nat} {A : AS} {σ : SC} {τ : SM}
theorem ct0 (h : RR c A (xL σ) (yL τ 0)) : m_Mo_count τ 0 = nI (aN A 0) := count_eq (k := 0) (by decide) h.1.1.2.1
theorem ct1 (h : RR c A (xL σ) (yL τ 0)) : m_Mo_count τ 1 = nI (aN A 1) := count_eq (k := 1) (by decide) h.1.2.1.2.1
theorem ct2 (h : RR c A (xL σ) (yL τ 0)) : m_Mo_count τ 2 = nI (aN A 2) := count_eq (k := 2) (by decide) h.1.2.2.1.2.1
theorem ct3 (h : RR c A (xL σ) (yL τ 0)) : m_Mo_count τ 3 = nI (aN A 3) := count_eq (k := 3) (by decide) h.1.2.2.2.1.2.1
theorem ct4 (h : RR c A (xL σ) (yL τ 0)) : m_Mo_count τ 4 = nI (aN A 4) := count_eq (k := 4) (by decide) h.1.2.2.2.2.1.2.1
theorem cc0 (h : RR c A (xL σ) (yL τ 0)) : m_Row_at σ 0 0 = nI (aN A 0) := by
  have := at_in (σ := σ) (k := 0) (i := 0) (by decide)
  rw [h.1.1.1, lN_i] at this; exact this
theorem cc1 (h : RR c A (xL σ) (yL τ 0)) : m_Row_at σ 0 1 = nI (aN A 1) := by
  have := at_in (σ := σ) (k := 0) (i := 1) (by decide)
  rw [h.1.2.1.1, lN_i] at this; exact this
theorem cc2 (h : RR c A (xL σ) (yL τ 0)) : m_Row_at σ 6 0 = nI (aN A 2) := by
  have := at_in (σ := σ) (k := 6) (i := 0) (by decide)
  rw [h.1.2.2.1.1, lN_i] at this; exact this
theorem cc3 (h : RR c A (xL σ) (yL τ 0)) : m_Row_at σ 12 0 = nI (aN A 3) := by
  have := at_in (σ := σ) (k := 12) (i := 0) (by decide)
  rw [h.1.2.2.2.1.1, lN_i] at this; exact this
theorem cc4 (h : RR c A (xL σ) (yL τ 0)) : m_Row_at σ 12 1 = nI (aN A 4) := by
  have := at_in (σ := σ) (k := 12) (i := 1) (by decide)
  rw [h.1.2.2.2.2.1.1, lN_i] at this; exact this
/-- an index below a count, on both sides -/
theorem ix_cases (x : Int32) {n : Nat} (hn : n < 2 ^ 31) : (x < 0) ∨ (¬ x < 0 ∧ nI n ≤ x) ∨ ∃ j, j < n ∧ x = nI j ∧ ¬ x < 0 ∧ ¬ nI n ≤ x := by
  by_cases h : x < 0
  · exact Or.inl h
  · obtain ⟨j, hj, rfl⟩ := nI_of h
    by_cases h2 : j < n
    · exact Or.inr (Or.inr ⟨j, h2, rfl, h, nI_ge h2 hn⟩)
    · exact Or.inr (Or.inl ⟨h, nI_le (by omega) hj⟩)
theorem sh_cases (h : RR c A (xL σ) (yL τ 0)) (x : Int32) : (m_Sheets_isSheet σ x = false ∧ m_Mo_isSheet τ x = false ∧ k_Mo_isSheet τ x) ∨ ∃ s, s < aN A 0 ∧ x = nI s ∧ m_Sheets_isSheet σ x = true ∧ m_Mo_isSheet τ x = true ∧ k_Mo_isSheet τ x := by
  have b := h.1.1.2.2.2
  unfold m_Sheets_isSheet m_Sheets_sheetCount m_Mo_isSheet k_Mo_isSheet
  rw [cc0 h, ct0 h]
  rcases ix_cases x (n := aN A 0) (by omega) with z | ⟨z, y⟩ | ⟨j, hj, e, z, y⟩
  · left; rw [if_pos z, if_pos z]; exact ⟨rfl, rfl, trivial⟩
  · left; rw [if_neg z, if_neg z, if_pos y, if_pos y]; exact ⟨rfl, rfl, count_k (k := 0) (by decide), trivial⟩
  · right; rw [if_neg z, if_neg z, if_neg y, if_neg y]; exact ⟨j, hj, e, rfl, rfl, count_k (k := 0) (by decide), trivial⟩
theorem qt_cases (h : RR c A (xL σ) (yL τ 0)) (x : Int32) : (m_Parts_isPart σ x = false ∧ m_Mo_isPart τ x = false ∧ k_Mo_isPart τ x) ∨ ∃ s, s < aN A 2 ∧ x = nI s ∧ m_Parts_isPart σ x = true ∧ m_Mo_isPart τ x = true ∧ k_Mo_isPart τ x := by
  have b := h.1.2.2.1.2.2
  unfold m_Parts_isPart m_Mo_isPart k_Mo_isPart
  rw [cc2 h, ct2 h]
  rcases ix_cases x (n := aN A 2) (by omega) with z | ⟨z, y⟩ | ⟨j, hj, e, z, y⟩
  · left; rw [if_pos z, if_pos z]; exact ⟨rfl, rfl, trivial⟩
  · left; rw [if_neg z, if_neg z, if_pos y, if_pos y]; exact ⟨rfl, rfl, count_k (k := 2) (by decide), trivial⟩
  · right; rw [if_neg z, if_neg z, if_neg y, if_neg y]; exact ⟨j, hj, e, rfl, rfl, count_k (k := 2) (by decide), trivial⟩
theorem va_cases (h : RR c A (xL σ) (yL τ 0)) (x : Int32) : (m_Variants_isVariant σ x = false ∧ m_Mo_isVariant τ x = false ∧ k_Mo_isVariant τ x) ∨ ∃ s, s < aN A 3 ∧ x = nI s ∧ m_Variants_isVariant σ x = true ∧ m_Mo_isVariant τ x = true ∧ k_Mo_isVariant τ x := by
  have b := h.1.2.2.2.1.2.2
  unfold m_Variants_isVariant m_Variants_count m_Mo_isVariant k_Mo_isVariant
  rw [cc3 h, ct3 h]
  rcases ix_cases x (n := aN A 3) (by omega) with z | ⟨z, y⟩ | ⟨j, hj, e, z, y⟩
  · left; rw [if_pos z, if_pos z]; exact ⟨rfl, rfl, trivial⟩
  · left; rw [if_neg z, if_neg z, if_pos y, if_pos y]; exact ⟨rfl, rfl, count_k (k := 3) (by decide), trivial⟩
  · right; rw [if_neg z, if_neg z, if_neg y, if_neg y]; exact ⟨j, hj, e, rfl, rfl, count_k (k := 3) (by decide), trivial⟩
theorem nm_cases (σ : SC) (x : Int32) : (m_ST_needName σ x = none ∧ m_Mo_isName x = false ∧ k_Mo_isName x) ∨ ∃ s, s < 32 ∧ x = nI s ∧ m_ST_needName σ x = some () ∧ m_Mo_isName x = true ∧ k_Mo_isName x := by
  unfold m_ST_needName m_Mo_isName k_Mo_isName
  rcases ix_cases x (n := 32) (by decide) with z | ⟨z, y⟩ | ⟨j, hj, e, z, y⟩
  · left; rw [if_pos z, if_pos z, if_pos z]; exact ⟨rfl, rfl, trivial⟩
  · left
    have y2 : ¬ x < 32 := fun w => Int32.not_lt.mpr (show (32 : Int32) ≤ x from y) w
    rw [if_neg z, if_neg z, if_neg z, if_neg y2, if_pos (show (32 : Int32) ≤ x from y), if_pos (show (32 : Int32) ≤ x from y)]; exact ⟨rfl, rfl, trivial⟩
  · right
    have y2 : x < 32 := Int32.not_le.mp (show ¬ (32 : Int32) ≤ x from y)
    rw [if_neg z, if_neg z, if_neg z, if_pos y2, if_neg (show ¬ (32 : Int32) ≤ x from y), if_neg (show ¬ (32 : Int32) ≤ x from y)]; exact ⟨j, hj, e, rfl, rfl, trivial⟩
theorem pc_cases (h : RR c A (xL σ) (yL τ 0)) (x : Int32) : (m_Sheets_isPlacement σ x = false ∧ m_Mo_isPlacement τ x = false ∧ k_Mo_isPlacement τ x) ∨ ∃ p, p < 60 ∧ aF A 0 p ≠ 0 ∧ x = nI p ∧ m_Sheets_isPlacement σ x = true ∧ m_Mo_isPlacement τ x = true ∧ k_Mo_isPlacement τ x := by
  have hR := h.2.2.1
  have b := h.1.2.1.2.2
  have big : ∀ (x : Int32), ¬ vp_in x 60 → m_Sheets_isPlacement σ x = false := fun x hx => by
    unfold m_Sheets_isPlacement m_Sheets_parentOf
    rw [at_bad (k := 3) hx, if_pos rfl]
  unfold m_Mo_isPlacement k_Mo_isPlacement
  rw [ct1 h]
  rcases ix_cases x (n := aN A 1) (by omega) with z | ⟨z, y⟩ | ⟨j, hj, e, z, y⟩
  · left; rw [if_pos z, if_pos z]; exact ⟨big x (fun w => w (Or.inl z)), rfl, trivial⟩
  · left; rw [if_neg z, if_neg z, if_pos y, if_pos y]
    refine ⟨?_, rfl, count_k (k := 1) (by decide), trivial⟩
    obtain ⟨j, hj, rfl⟩ := nI_of z
    have hj2 : aN A 1 ≤ j := (nI_leI (by omega) hj).mp y
    by_cases w : j < 60
    · refine isPl_de hR w (Classical.byContradiction fun a => ?_)
      have := (hR.1 j w a).1
      omega
    · exact big _ (fun q => q (Or.inr (by rw [nI_clamp hj]; omega)))
  · subst e
    rw [if_neg z, if_neg z, if_neg y, if_neg y]
    have e152 : ((152 : Int32) + nI j).toNatClampNeg = 152 + j := clA 152 (by omega)
    rw [e152]
    by_cases a : aF A 0 j = 0
    · left
      have hd := (hR.2.1 j (by omega) a).2.2 hj
      have c2 : lg_cmp (yL τ 0 (152 + j)) 0 < 0 := cmp_lt.mpr (by rw [hd]; exact m1_lt0)
      rw [if_pos c2, if_pos c2]
      exact ⟨isPl_de hR (by omega) a, rfl, count_k (k := 1) (by decide), inA 152 (by omega), trivial⟩
    · right
      obtain ⟨g1, g2, g3, g4, -⟩ := alM hR (by omega) a
      have c2 : ¬ lg_cmp (yL τ 0 (152 + j)) 0 < 0 := fun w => by rw [cmp_lt, g1] at w; exact lN_nlt0 (by omega) w
      rw [if_neg c2, if_neg c2]
      exact ⟨j, by omega, a, rfl, isPl_al hR a, rfl, count_k (k := 1) (by decide), inA 152 (by omega), trivial⟩
theorem hasName_eq {s n : Nat} (hs : s < 24) (hn : n < 32) : m_Mo_hasName τ (lN s) (nI n) = tbl (yL τ 0 (8 + s)) n ∧ k_Mo_hasName τ (lN s) (nI n) := by
  unfold m_Mo_hasName k_Mo_hasName
  rw [lN_i]
  have e8 : ((8 : Int32) + nI s).toNatClampNeg = 8 + s := clA 8 (by omega)
  rw [e8]
  by_cases c : tbl (yL τ 0 (8 + s)) n = true
  · have c2 : lg_cmp ((yL τ 0 (8 + s) >>> ((nI n).toInt64 &&& 63)) &&& 1) 1 = 0 := cmp0.mpr ((tbl_shr hn).mpr c)
    rw [if_pos c2, if_pos c2, c]
    exact ⟨rfl, inA 8 (by omega), trivial⟩
  · have c2 : ¬ lg_cmp ((yL τ 0 (8 + s) >>> ((nI n).toInt64 &&& 63)) &&& 1) 1 = 0 := fun z => c ((tbl_shr hn).mp (cmp0.mp z))
    rw [if_neg c2, if_neg c2]
    exact ⟨by simpa using c, inA 8 (by omega), trivial⟩
theorem tells_eq {s n : Nat} (hs : s < 24) (hn : n < 32) : m_Sheets_tells σ (nI s) (nI n) = tb (xL σ 1 s).toInt32 n := by
  unfold m_Sheets_tells
  rw [at_in (k := 1) (show s < 24 from hs), holds_tb hn]
theorem tells_both (h : RR c A (xL σ) (yL τ 0)) {s n : Nat} (hs : s < aN A 0) (hn : n < 32) : m_Sheets_tells σ (nI s) (nI n) = tbl (yL τ 0 (8 + s)) n := by
  have b := h.1.1.2.2.2
  rw [tells_eq (by omega) hn, h.2.1.1 s hs, tbl_32 _ hn]
end CS
