/-! ===== the pages ===== -/
def hdI : List Nat → Int32
  | [] => -1
  | p :: _ => nI p
theorem chn_hd {F : Nat → Int64} : ∀ {c : Nat} {l : List Nat}, chn F c l → (F c).toInt32 = hdI l
  | _, [], h => by rw [show F _ = -1 from h]; exact m1_32
  | _, p :: t, h => by rw [h.1, lN_i]; rfl
theorem chn_mid {F : Nat → Int64} : ∀ (x : List Nat) {c p : Nat} {r : List Nat}, chn F c (x ++ p :: r) → chn F p r
  | [], _, _, _, h => h.2.2
  | _ :: x, _, _, _, h => chn_mid x h.2.2
theorem chn_lt {F : Nat → Int64} : ∀ {l : List Nat} {c : Nat}, chn F c l → ∀ p ∈ l, p < 60
  | _ :: _, _, h, p, hp => by
    rcases List.mem_cons.mp hp with e | e
    · subst e; exact h.2.1
    · exact chn_lt h.2.2 p e
/-- the order of the last one seen -/
def kyo (od : Nat → Nat) (pre : List Nat) : Int64 := match pre.getLast? with
  | none => -1
  | some p => lN (od p)
theorem kyo_nil (od : Nat → Nat) : kyo od [] = -1 := rfl
theorem kyo_snoc (od : Nat → Nat) (pre : List Nat) (p : Nat) : kyo od (pre ++ [p]) = lN (od p) := by
  unfold kyo; rw [List.getLast?_append]; rfl
/-- a key against an order: pre lies before, r behind -/
theorem kyo_pre {od : Nat → Nat} {pre r : List Nat} (hs : (pre ++ r).Pairwise (fun a b => od a < od b)) (hb : ∀ p ∈ pre ++ r, od p < 2 ^ 30) {p : Nat} (hp : p ∈ pre) : lN (od p) ≤ kyo od pre := by
  rcases List.eq_nil_or_concat pre with e | ⟨q, x, e⟩
  · subst e; cases hp
  · rw [List.concat_eq_append] at e
    subst e
    rw [kyo_snoc]
    have h1 := hb p (List.mem_append_left _ hp)
    have h2 := hb x (List.mem_append_left _ (by simp))
    rw [lN_le (by omega) (by omega)]
    rcases List.mem_append.mp hp with z | z
    · have := (List.pairwise_append.mp (List.pairwise_append.mp hs).1).2.2 p z x (by simp)
      omega
    · rw [List.mem_singleton.mp z]; exact Nat.le_refl _
theorem kyo_r {od : Nat → Nat} {pre r : List Nat} (hs : (pre ++ r).Pairwise (fun a b => od a < od b)) (hb : ∀ p ∈ pre ++ r, od p < 2 ^ 30) {p : Nat} (hp : p ∈ r) : kyo od pre < lN (od p) := by
  have h1 := hb p (List.mem_append_right _ hp)
  rcases List.eq_nil_or_concat pre with e | ⟨q, x, e⟩
  · subst e; rw [kyo_nil]; exact lN_m1lt (by omega)
  · rw [List.concat_eq_append] at e
    subst e
    have h2 := hb x (List.mem_append_left _ (by simp))
    rw [kyo_snoc, lN_lt (by omega) (by omega)]
    exact (List.pairwise_append.mp hs).2.2 x (by simp) p hp
theorem kyo_m1 (od : Nat → Nat) (pre : List Nat) (hb : ∀ p ∈ pre, od p < 2 ^ 30) : (-1 : Int64) ≤ kyo od pre := by
  rcases List.eq_nil_or_concat pre with e | ⟨q, x, e⟩
  · subst e; exact Int64.le_refl _
  · rw [List.concat_eq_append] at e
    subst e
    rw [kyo_snoc]
    have := hb x (by simp)
    exact Int64.le_of_lt (lN_m1lt (by omega))
section NX
variable {ns np key : Nat} {al pa od cd rk : Nat → Nat} {pl : Nat → List Nat} {L2 L3 L4 : Nat → Int64} {τ : SM}
theorem next_loop (hR : R2 ns np key al pa od cd rk pl L2 L3 L4 (yL τ 0)) (h1 : yL τ 0 1 = lN np) {s : Nat} (hs : s < 24) {pre r : List Nat} (hpl : pl s = pre ++ r) : ∀ (m i : Nat) (b : Int32), i + m = np →
    ((b = -1 ∧ ∀ q ∈ r, i ≤ q) ∨ ∃ q ∈ r, b = nI q ∧ q < i ∧ ∀ q' ∈ r, q' < i → od q ≤ od q') →
    lp_Mo_next_6 (m + 1) τ (nI s) (kyo od pre) b (nI i) = hdI r ∧ kl_Mo_next_6 (m + 1) τ (nI s) (kyo od pre) b (nI i) := by
  have hnp := hR.2.2.2.2.2.2.1
  have hct : m_Mo_count τ 1 = nI np := count_eq (k := 1) (by omega) h1
  obtain ⟨-, hmem, hsort⟩ := hR.2.2.1 s hs
  rw [hpl] at hmem hsort
  have hbd : ∀ p ∈ pre ++ r, od p < 2 ^ 30 := fun p hp => by
    obtain ⟨z1, z2, z3⟩ := (hmem p).mp hp
    exact (alM hR z1 z2).2.2.2.1
  intro m
  induction m with
  | zero =>
    intro i b h hb
    have c : nI np ≤ nI i := nI_le (by omega) (by omega)
    unfold lp_Mo_next_6 kl_Mo_next_6
    rw [hct, if_pos c, if_pos c]
    refine ⟨?_, count_k (k := 1) (by decide), trivial⟩
    rcases hb with ⟨e, hq⟩ | ⟨q, hq, e, hlt, hmin⟩
    · subst e
      cases r with
      | nil => rfl
      | cons q r =>
        have z := (hmem q).mp (by simp)
        have := (alM hR z.1 z.2.1).2.2.2.2.2.2
        have := hq q (by simp)
        omega
    · subst e
      cases r with
      | nil => cases hq
      | cons q0 r =>
        rcases List.mem_cons.mp hq with e | e
        · subst e; rfl
        · have z := (hmem q0).mp (by simp)
          have z1 := (alM hR z.1 z.2.1).2.2.2.2.2.2
          have z2 := hmin q0 (by simp) (by omega)
          have z3 := (List.pairwise_cons.mp (List.pairwise_append.mp hsort).2.1).1 q e
          omega
  | succ m ih =>
    intro i b h hb
    have c : ¬ nI np ≤ nI i := nI_ge (by omega) (by omega)
    have e152 : ((152 : Int32) + nI i).toNatClampNeg = 152 + i := clA 152 (by omega)
    have e32 : ((32 : Int32) + nI i).toNatClampNeg = 32 + i := clA 32 (by omega)
    have skip : i ∉ r → ((b = -1 ∧ ∀ q ∈ r, i + 1 ≤ q) ∨ ∃ q ∈ r, b = nI q ∧ q < i + 1 ∧ ∀ q' ∈ r, q' < i + 1 → od q ≤ od q') := by
      intro ni
      rcases hb with ⟨e, hq⟩ | ⟨q, hq, e, hlt, hmin⟩
      · refine Or.inl ⟨e, fun q hq2 => ?_⟩
        have := hq q hq2
        have : q ≠ i := fun z => ni (z ▸ hq2)
        omega
      · refine Or.inr ⟨q, hq, e, by omega, fun q' h2 h3 => ?_⟩
        have : q' ≠ i := fun z => ni (z ▸ h2)
        exact hmin q' h2 (by omega)
    unfold lp_Mo_next_6 kl_Mo_next_6
    rw [hct, if_neg c, if_neg c, e152, e32, nI_1]
    by_cases ha : al i = 0
    · have hd := (hR.2.1 i (by omega) ha).2.2 (by omega)
      have c2 : lg_cmp (yL τ 0 (152 + i)) (kyo od pre) ≤ 0 := cmp_le.mpr (by rw [hd]; exact kyo_m1 od pre fun p hp => hbd p (List.mem_append_left _ hp))
      rw [if_pos c2, if_pos c2]
      obtain ⟨i1, i2⟩ := ih (i + 1) b (by omega) (skip fun z => ((hmem i).mp (List.mem_append_right _ z)).2.1 ha)
      exact ⟨i1, count_k (k := 1) (by decide), inA 152 (by omega), i2⟩
    · obtain ⟨g1, g2, g3, g4, g5, g6, -⟩ := alM hR (by omega) ha
      by_cases c2 : lg_cmp (yL τ 0 (152 + i)) (kyo od pre) ≤ 0
      · rw [if_pos c2, if_pos c2]
        obtain ⟨i1, i2⟩ := ih (i + 1) b (by omega) (skip fun z => by
          have h2 := kyo_r hsort hbd z
          rw [cmp_le, g1] at c2
          exact absurd h2 (Int64.not_lt.mpr c2))
        exact ⟨i1, count_k (k := 1) (by decide), inA 152 (by omega), i2⟩
      · rw [if_neg c2, if_neg c2, g2, nI_l (show s < 2 ^ 31 by omega)]
        by_cases hs2 : pa i = s
        · have c3 : lg_cmp (lN (pa i)) (lN s) = 0 := cmp0.mpr (by rw [hs2])
          rw [if_pos c3, if_pos c3]
          have hir : i ∈ r := by
            rcases List.mem_append.mp ((hmem i).mpr ⟨by omega, ha, hs2⟩) with z | z
            · have h2 := kyo_pre hsort hbd z
              rw [cmp_le, g1] at c2
              exact absurd h2 c2
            · exact z
          rcases hb with ⟨e, hq⟩ | ⟨q, hq, e, hlt, hmin⟩
          · subst e
            rw [if_pos rfl, if_pos rfl]
            obtain ⟨i1, i2⟩ := ih (i + 1) (nI i) (by omega) (Or.inr ⟨i, hir, rfl, by omega, fun q' h2 h3 => by
              have := hq q' h2
              have : q' = i := by omega
              rw [this]; exact Nat.le_refl _⟩)
            exact ⟨i1, count_k (k := 1) (by decide), inA 152 (by omega), inA 32 (by omega), i2⟩
          · subst e
            have zq := (hmem q).mp (List.mem_append_right _ hq)
            have yq := alM hR zq.1 zq.2.1
            have e152q : ((152 : Int32) + nI q).toNatClampNeg = 152 + q := clA 152 (by omega)
            have nb : ¬ nI q = -1 := nI_m1 (by omega)
            rw [if_neg nb, if_neg nb, e152q, yq.1, g1]
            by_cases c4 : od q ≤ od i
            · have c5 : 0 ≤ lg_cmp (lN (od i)) (lN (od q)) := cmp_ge.mpr ((lN_le (by omega) (by omega)).mpr c4)
              rw [if_pos c5, if_pos c5]
              obtain ⟨i1, i2⟩ := ih (i + 1) (nI q) (by omega) (Or.inr ⟨q, hq, rfl, by omega, fun q' h2 h3 => by
                by_cases z : q' = i
                · rw [z]; exact c4
                · exact hmin q' h2 (by omega)⟩)
              exact ⟨i1, count_k (k := 1) (by decide), inA 152 (by omega), inA 32 (by omega), inA 152 (by omega), inA 152 (by omega), i2⟩
            · have c5 : ¬ 0 ≤ lg_cmp (lN (od i)) (lN (od q)) := fun z => c4 ((lN_le (by omega) (by omega)).mp (cmp_ge.mp z))
              rw [if_neg c5, if_neg c5]
              obtain ⟨i1, i2⟩ := ih (i + 1) (nI i) (by omega) (Or.inr ⟨i, hir, rfl, by omega, fun q' h2 h3 => by
                by_cases z : q' = i
                · rw [z]; exact Nat.le_refl _
                · have := hmin q' h2 (by omega)
                  omega⟩)
              exact ⟨i1, count_k (k := 1) (by decide), inA 152 (by omega), inA 32 (by omega), inA 152 (by omega), inA 152 (by omega), i2⟩
        · have c3 : ¬ lg_cmp (lN (pa i)) (lN s) = 0 := fun z => hs2 ((lN_eq (by omega) (by omega)).mp (cmp0.mp z))
          rw [if_neg c3, if_neg c3]
          obtain ⟨i1, i2⟩ := ih (i + 1) b (by omega) (skip fun z => hs2 ((hmem i).mp (List.mem_append_right _ z)).2.2)
          exact ⟨i1, count_k (k := 1) (by decide), inA 152 (by omega), inA 32 (by omega), i2⟩
theorem next_eq (hR : R2 ns np key al pa od cd rk pl L2 L3 L4 (yL τ 0)) (h1 : yL τ 0 1 = lN np) {s : Nat} (hs : s < 24) {pre r : List Nat} (hpl : pl s = pre ++ r) : m_Mo_next τ (nI s) (kyo od pre) = hdI r ∧ k_Mo_next τ (nI s) (kyo od pre) := by
  have hnp := hR.2.2.2.2.2.2.1
  have hct : m_Mo_count τ 1 = nI np := count_eq (k := 1) (by omega) h1
  unfold m_Mo_next k_Mo_next
  rw [hct, nI_clamp (by omega)]
  exact next_loop hR h1 hs hpl np 0 (-1) (by omega) (Or.inl ⟨rfl, fun q _ => Nat.zero_le q⟩)
end NX
