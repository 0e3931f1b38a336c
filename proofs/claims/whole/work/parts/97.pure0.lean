/-- a telling notes few changes -/
theorem vlM_le {c : Nat} {σ : SC} {τ : SM} (h : RL c σ τ) {t x0 x1 x2 : Int32} {v : Int64} {RES : Bool × SC} (hR : m_ST_tell σ t x0 x1 x2 v = some RES) : vlM σ t x0 x1 x2 ≤ 40 := by
  obtain ⟨A, hA, ho, hB, hr⟩ := h
  have hW := pgs_PW hA.2.2.1 hA.1.1.2.2.1
  have hp : m_ST_needPage σ x1 = some () := by
    unfold m_ST_tell at hR
    split at hR
    · cases hR
    · split at hR
      · cases hR
      · rename_i u hu; exact hu
  unfold m_ST_needPage at hp
  by_cases c1 : x1 < 0
  · rw [if_pos c1] at hp; cases hp
  · rw [if_neg c1] at hp
    by_cases c2 : x1 < m_Book_count σ
    · obtain ⟨j, hj, rfl⟩ := nI_of c1
      have e1 : m_Book_count σ = nI (pgs (aP A) (aF A 3)).length := hB.1
      rw [e1] at c2
      have hl := hW.1
      have hjl : j < (pgs (aP A) (aF A 3)).length := by
        rcases Nat.lt_or_ge j (pgs (aP A) (aF A 3)).length with z | z
        · exact z
        · exact absurd c2 (nI_nlt z (by omega))
      obtain ⟨⟨s, a, b, d⟩, hj2⟩ : ∃ z, (pgs (aP A) (aF A 3))[j]? = some z := ⟨_, List.getElem?_eq_getElem hjl⟩
      obtain ⟨hd, -⟩ := hW.2 j s a b d hj2
      unfold vlM
      generalize m_Row_at σ 12 1 = q1
      generalize (q1 + 1).toInt64 = q2
      generalize (m_Variants_subjectOf t x0 x2).toInt64 = q3
      have k1 := (rs_sk σ 12 1 q2).tr (rs_sk (m_Row_set σ 12 1 q2) 14 q1 q3)
      generalize m_Row_set (m_Row_set σ 12 1 q2) 14 q1 q3 = Y at k1 ⊢
      generalize (m_Book_depthAt Y (nI j)).toInt64 = q4
      have k2 := k1.tr (rs_sk Y 16 q1 q4)
      generalize m_Row_set Y 16 q1 q4 = Z at k2 ⊢
      have e2 : m_Book_depthAt Z (nI j) = nI d := (bk_above (hB.sk k2) hW.1 hj2).2.2.1
      rw [e2]
      cases d with
      | zero => decide
      | succ l =>
        rw [show nI (l + 1) - 1 = nI l from nI_pred l, nI_clamp (by omega)]
        omega
    · rw [if_neg c2] at hp; cases hp
theorem vlM_value {c : Nat} {σ : SC} {τ : SM} (h : RL c σ τ) {x0 x1 x2 : Int32} {v : Int64} {RES : Bool × SC} (hR : m_ST_value σ x0 x1 x2 v = some RES) : vlM σ 0 x0 x1 x2 ≤ 40 := by
  unfold m_ST_value at hR
  split at hR
  · cases hR
  · rename_i u hu; exact vlM_le h hu
theorem vlM_fit {c : Nat} {σ : SC} {τ : SM} (h : RL c σ τ) {x0 x1 x2 : Int32} {v : Bool} {RES : Bool × SC} (hR : m_ST_fit σ x0 x1 x2 v = some RES) : vlM σ 1 x0 x1 x2 ≤ 40 := by
  unfold m_ST_fit at hR
  split at hR
  · split at hR
    · cases hR
    · rename_i u hu; exact vlM_le h hu
  · split at hR
    · cases hR
    · rename_i u hu; exact vlM_le h hu
/-! the start -/
theorem s0L (k : Nat) {j : Nat} (h : j < lnR (k + 1)) : xL si0 (k + 1) j = sv (k + 1) := if_pos h
def A0 : AS := (fun k => match k with | 0 => 1 | _ => 0, fun _ _ => 0, fun _ => [], fun _ => [])
theorem ta_0 : yL ta0 0 0 = 1 := rfl
theorem ta_n {i : Nat} (h : i ≠ 0) : yL ta0 0 i = 0 := by
  show vp_updL (fun _ => 0) 0 1 i = 0
  unfold vp_updL
  rw [if_neg h]
theorem RR0 : RR 0 A0 (xL si0) (yL ta0 0) := by
  have e : ∀ i, i ≠ 0 → yL ta0 0 i = 0 := fun i h => ta_n h
  refine ⟨⟨⟨rfl, rfl, by decide, by decide⟩, ⟨rfl, e 1 (by decide), by decide⟩, ⟨rfl, e 2 (by decide), by decide⟩, ⟨rfl, e 3 (by decide), by decide⟩, ⟨rfl, e 4 (by decide), by decide⟩, ⟨(e 5 (by decide)).symm, Or.inl (e 5 (by decide))⟩, e 6 (by decide), by decide, by decide⟩, ⟨fun s hs => ?_, fun s _ hs => s0L 0 (show s < 24 from hs)⟩, ?_, ?_, ?_, ?_, ?_, ?_⟩
  · have hs : s < 1 := hs
    rw [e (8 + s) (by omega), show xL si0 1 s = 0 from s0L 0 (show s < 24 by omega)]
  · refine ⟨fun p hp ha => absurd rfl ha, fun p hp _ => ⟨s0L 2 (show p < 60 from hp), s0L 3 (show p < 84 by omega), fun h => absurd h (Nat.not_lt_zero _)⟩, fun s hs => ⟨s0L 3 (show 60 + s < 84 by omega), fun p => ⟨fun h => (by cases h), fun h => absurd rfl h.2.1⟩, List.Pairwise.nil⟩, fun s hs => by show 0 < 24; decide, fun p _ => rfl, by decide, by decide, by decide⟩
  · exact fun p n hp hn => ⟨fun h => absurd rfl h, fun _ => s0L 4 (show 32 * p + n < 1920 by omega)⟩
  · refine ⟨fun q hq => absurd hq (Nat.not_lt_zero _), fun k hk => absurd hk (by show ¬ k < 8 * 0; omega), fun k _ => ⟨rfl, fun hk => s0L 8 (show k < 240 from hk)⟩, fun s hs => ⟨s0L 10 (show s < 24 from hs), by show 0 ≤ 20; decide, fun i k h => (by cases h), fun k => ⟨fun h => (by cases h), fun h => (by cases h)⟩, List.Pairwise.nil⟩, by decide, by decide, by decide⟩
  · exact fun v hv => absurd hv (Nat.not_lt_zero _)
  · exact fun v hv => absurd hv (Nat.not_lt_zero _)
  · show (pgs (fun _ => []) (fun _ => 0)).length ≤ 300
    decide +kernel
theorem RL0 : RL 0 (m_Book_lay si0) ta0 := by
  obtain ⟨hb, h1, h2, h3, h4⟩ := lay_eq (σ := si0) RR0.2.2.1
  refine ⟨A0, by rw [h1]; exact RR0, by rw [h2]; rfl, hb, fun h => (by cases h), by rw [h4 3 (by decide)]; rfl, 0, 0, 0, by decide, by decide, by decide, by rw [h4 0 (by decide)]; rfl, by rw [h4 1 (by decide)]; rfl, rfl, rfl, trivial⟩
theorem nsh0 : nsh (m_Book_lay si0) = 1 := by
  obtain ⟨A, hA⟩ := RL0
  obtain ⟨hb, h1, h2, h3, h4⟩ := lay_eq (σ := si0) RR0.2.2.1
  unfold nsh
  rw [h1]
  decide +kernel
