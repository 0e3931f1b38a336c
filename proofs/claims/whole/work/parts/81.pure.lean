theorem g24_cl {q g : Nat} (hq : q < 30) (hg : g < 8) : (((2432 : Int32) + (8 * nI q)) + nI g).toNatClampNeg = 2432 + (8 * q + g) := by
  show (nI 2432 + (nI 8 * nI q) + nI g).toNatClampNeg = _
  rw [pk_mul, nI_add, nI_add, nI_clamp (by omega)]; omega
theorem g24_in {q g : Nat} (hq : q < 30) (hg : g < 8) : vp_in (((2432 : Int32) + (8 * nI q)) + nI g) (lnML 0) := by
  show vp_in (nI 2432 + (nI 8 * nI q) + nI g) (lnML 0)
  rw [pk_mul, nI_add, nI_add]; exact inL _ (by omega)
def FN (τ τ' : SM) : Prop := yL τ' = yL τ ∧ yI τ' = yI τ ∧ yf τ' = yf τ ∧ ∀ k, k ≠ 5 → yn τ' k = yn τ k
theorem FN_rfl (τ : SM) : FN τ τ := ⟨rfl, rfl, rfl, fun _ _ => rfl⟩
theorem FN.tr {a b c : SM} (h : FN a b) (g : FN b c) : FN a c := ⟨g.1.trans h.1, g.2.1.trans h.2.1, g.2.2.1.trans h.2.2.1, fun k hk => (g.2.2.2 k hk).trans (h.2.2.2 k hk)⟩
theorem FN_set (τ : SM) (v : Int32) (w : Int64) : FN τ (wp (wn τ 5 v) w) := ⟨rfl, rfl, rfl, fun k hk => by show yn (wn τ 5 v) k = _; rw [yn_wn, if_neg hk]⟩
theorem PR.fn {τ τ' : SM} {ps : List Pg} (h : PR τ ps) (f : FN τ τ') : PR τ' ps := ⟨by rw [f.2.2.2 4 (by decide)]; exact h.1, by rw [f.2.1]; exact h.2⟩
section FI
variable {c : Nat} {A : AS} {σ : SC} {τ : SM} {ps : List Pg}
/-- what first() has found among the gates below g -/
def FS (A : AS) (ps : List Pg) (q u g : Nat) (τ : SM) : Prop := (yn τ 5 = -1 ∧ ∀ g', g' < g → ¬ po ps (aF A 7 (8 * q + g')) u < ps.length) ∨
  ∃ i P, yn τ 5 = nI i ∧ yp τ = lN P ∧ i < ps.length ∧ P < 2 ^ 30 ∧ (∃ g', g' < g ∧ po ps (aF A 7 (8 * q + g')) u = i ∧ aF A 8 (8 * q + g') = P) ∧ ∀ g', g' < g → po ps (aF A 7 (8 * q + g')) u < ps.length → i < po ps (aF A 7 (8 * q + g')) u ∨ (i = po ps (aF A 7 (8 * q + g')) u ∧ P ≤ aF A 8 (8 * q + g'))
theorem first_l {L : LL} {N : Nat → Int64} (h : RR c A L N) (hl : ps.length ≤ 301) (hs24 : ∀ (i s : Nat) (a b : Int32) (d : Nat), ps[i]? = some (s, a, b, d) → s < 24) {q u : Nat} (hq : q < aN A 2) (hu : u < 2 ^ 30) : ∀ (m g n : Nat) (τ : SM), yL τ 0 = N → PR τ ps → g + m = aF A 6 q → m < n → FS A ps q u g τ →
    ∃ τ', lp_Mo_first_12 n τ (nI q) (nI u) (nI g) = τ' ∧ kl_Mo_first_12 n τ (nI q) (nI u) (nI g) ∧ FN τ τ' ∧ FS A ps q u (aF A 6 q) τ' := by
  have hR := h.2.2.2.2.1
  have b2 := h.1.2.2.1.2.2
  have hns := h.1.1.2.2.2
  obtain ⟨y1, y2, y3, y4, y5, y6, y7⟩ := hR.1 q hq
  have e1 : ((2162 : Int32) + nI q).toNatClampNeg = 2162 + q := clA 2162 (by omega)
  intro m
  induction m with
  | zero =>
    intro g n τ hN hP hg hn hF
    obtain ⟨n, rfl⟩ : ∃ k, n = k + 1 := ⟨n - 1, by omega⟩
    unfold lp_Mo_first_12 kl_Mo_first_12
    have c1 : 0 ≤ lg_cmp (lN g) (lN (aF A 6 q)) := cmp_ge.mpr ((lN_le (by omega) (by omega)).mpr (by omega))
    rw [e1, hN, y7, nI_l (show g < 2 ^ 31 by omega), if_pos c1, if_pos c1]
    have : g = aF A 6 q := by omega
    subst this
    exact ⟨τ, rfl, ⟨inA 2162 (by omega), trivial⟩, FN_rfl τ, hF⟩
  | succ m ih =>
    intro g n τ hN hP hg hn hF
    obtain ⟨n, rfl⟩ : ∃ k, n = k + 1 := ⟨n - 1, by omega⟩
    unfold lp_Mo_first_12 kl_Mo_first_12
    have c1 : ¬ 0 ≤ lg_cmp (lN g) (lN (aF A 6 q)) := fun w => by have := (lN_le (by omega) (by omega)).mp (cmp_ge.mp w); omega
    obtain ⟨x1, x2, x3, x4⟩ := hR.2.1 (8 * q + g) (by omega)
    obtain ⟨p1, p2⟩ := pageM (τ := τ) (g := aF A 7 (8 * q + g)) (j := u) hP hl hs24 (by omega) (by omega)
    have k1 := inA 2162 (i := q) (by omega)
    have k2 := g8_in (q := q) (g := g) (by omega) (by omega)
    have k3 := g24_in (q := q) (g := g) (by omega) (by omega)
    rw [e1, hN, y7, nI_l (show g < 2 ^ 31 by omega), if_neg c1, if_neg c1, g8_cl (by omega) (by omega), show 2192 + 8 * q + g = 2192 + (8 * q + g) by omega, x1, p1, g24_cl (by omega) (by omega), nI_1]
    have keep : FS A ps q u (g + 1) τ → ∃ τ', lp_Mo_first_12 n τ (nI q) (nI u) (nI (g + 1)) = τ' ∧ kl_Mo_first_12 n τ (nI q) (nI u) (nI (g + 1)) ∧ FN τ τ' ∧ FS A ps q u (aF A 6 q) τ' := fun hF' => ih (g + 1) n τ hN hP (by omega) (by omega) hF'
    have set : po ps (aF A 7 (8 * q + g)) u < ps.length → FS A ps q u (g + 1) (wp (wn τ 5 (nI (po ps (aF A 7 (8 * q + g)) u))) (lN (aF A 8 (8 * q + g)))) → ∃ τ', lp_Mo_first_12 n (wp (wn τ 5 (nI (po ps (aF A 7 (8 * q + g)) u))) (lN (aF A 8 (8 * q + g)))) (nI q) (nI u) (nI (g + 1)) = τ' ∧ kl_Mo_first_12 n (wp (wn τ 5 (nI (po ps (aF A 7 (8 * q + g)) u))) (lN (aF A 8 (8 * q + g)))) (nI q) (nI u) (nI (g + 1)) ∧ FN τ τ' ∧ FS A ps q u (aF A 6 q) τ' := fun _ hF' => by
      obtain ⟨τ', i1, i2, i3, i4⟩ := ih (g + 1) n (wp (wn τ 5 (nI (po ps (aF A 7 (8 * q + g)) u))) (lN (aF A 8 (8 * q + g)))) hN (hP.fn (FN_set τ _ _)) (by omega) (by omega) hF'
      exact ⟨τ', i1, i2, (FN_set τ _ _).tr i3, i4⟩
    rw [pgo_po]
    by_cases cp : po ps (aF A 7 (8 * q + g)) u < ps.length
    · have hgs : aF A 7 (8 * q + g) ≠ 0 := fun z0 => by
        have := (po_at cp).1
        rw [z0] at this cp
        exact shp_0 cp this
      obtain ⟨x5, x6, x7⟩ := x4 hgs
      have hky := hR.2.2.2.2.2.2
      rw [if_pos cp, x5]
      have npo : ¬ nI (po ps (aF A 7 (8 * q + g)) u) = -1 := nI_m1 (by omega)
      have yn5 : ∀ v w, yn (wp (wn τ 5 v) w) 5 = v := fun v w => by show yn (wn τ 5 v) 5 = v; rw [yn_wn, if_pos rfl]
      have hself : ∀ (Q : Nat → Prop), (∀ g', g' < g → Q g') → Q g → ∀ g', g' < g + 1 → Q g' := fun Q h1 h2 g' hg' => by
        by_cases e : g' = g
        · rw [e]; exact h2
        · exact h1 g' (by omega)
      rcases hF with ⟨f1, f2⟩ | ⟨i, P, f1, f2, f3, f4, f5, f6⟩
      · rw [f1, if_pos rfl, if_pos rfl, if_neg npo, if_neg npo]
        obtain ⟨τ', i1, i2, i3⟩ := set cp (Or.inr ⟨_, _, yn5 _ _, rfl, cp, by omega, ⟨g, by omega, rfl, rfl⟩, hself _ (fun g' hg' w => absurd w (f2 g' hg')) (fun _ => Or.inr ⟨rfl, Nat.le_refl _⟩)⟩)
        exact ⟨τ', i1, ⟨k1, k2, p2, k3, i2⟩, i3⟩
      · have ni : ¬ nI i = -1 := nI_m1 (by omega)
        rw [f1, if_neg ni, if_neg ni]
        by_cases ca : po ps (aF A 7 (8 * q + g)) u < i
        · have ca' := nI_lt ca (show i < 2 ^ 31 by omega)
          rw [if_pos ca', if_pos ca', if_neg npo, if_neg npo]
          obtain ⟨τ', i1, i2, i3⟩ := set cp (Or.inr ⟨_, _, yn5 _ _, rfl, cp, by omega, ⟨g, by omega, rfl, rfl⟩, hself _ (fun g' hg' w => by have := f6 g' hg' w; omega) (fun _ => Or.inr ⟨rfl, Nat.le_refl _⟩)⟩)
          exact ⟨τ', i1, ⟨k1, k2, p2, k3, i2⟩, i3⟩
        · have ca' : ¬ nI (po ps (aF A 7 (8 * q + g)) u) < nI i := nI_nlt (by omega) (by omega)
          rw [if_neg ca', if_neg ca']
          by_cases ce : po ps (aF A 7 (8 * q + g)) u = i
          · have ce' : nI (po ps (aF A 7 (8 * q + g)) u) = nI i := by rw [ce]
            rw [if_pos ce', if_pos ce', f2]
            by_cases cq : P ≤ aF A 8 (8 * q + g)
            · have cq' : 0 ≤ lg_cmp (lN (aF A 8 (8 * q + g))) (lN P) := cmp_ge.mpr ((lN_le (by omega) (by omega)).mpr cq)
              rw [if_pos cq', if_pos cq', if_neg npo, if_neg npo]
              obtain ⟨τ', i1, i2, i3⟩ := keep (Or.inr ⟨i, P, f1, f2, f3, f4, by obtain ⟨g', z1, z2⟩ := f5; exact ⟨g', by omega, z2⟩, hself _ f6 (fun _ => Or.inr ⟨ce.symm, cq⟩)⟩)
              exact ⟨τ', i1, ⟨k1, k2, p2, k3, i2⟩, i3⟩
            · have cq' : ¬ 0 ≤ lg_cmp (lN (aF A 8 (8 * q + g))) (lN P) := fun w => cq ((lN_le (by omega) (by omega)).mp (cmp_ge.mp w))
              rw [if_neg cq', if_neg cq', if_neg npo, if_neg npo]
              obtain ⟨τ', i1, i2, i3⟩ := set cp (Or.inr ⟨_, _, yn5 _ _, rfl, cp, by omega, ⟨g, by omega, rfl, rfl⟩, hself _ (fun g' hg' w => by have := f6 g' hg' w; omega) (fun _ => Or.inr ⟨rfl, Nat.le_refl _⟩)⟩)
              exact ⟨τ', i1, ⟨k1, k2, p2, k3, i2⟩, i3⟩
          · have ce' : ¬ nI (po ps (aF A 7 (8 * q + g)) u) = nI i := fun w => ce ((nI_eq (by omega) (by omega)).mp w)
            rw [if_neg ce', if_neg ce', if_neg npo, if_neg npo]
            obtain ⟨τ', i1, i2, i3⟩ := keep (Or.inr ⟨i, P, f1, f2, f3, f4, by obtain ⟨g', z1, z2⟩ := f5; exact ⟨g', by omega, z2⟩, hself _ f6 (fun _ => Or.inl (by omega))⟩)
            exact ⟨τ', i1, ⟨k1, k2, p2, k3, i2⟩, i3⟩
    · rw [if_neg cp]
      have hself : ∀ (Q : Nat → Prop), (∀ g', g' < g → Q g') → Q g → ∀ g', g' < g + 1 → Q g' := fun Q h1 h2 g' hg' => by
        by_cases e : g' = g
        · rw [e]; exact h2
        · exact h1 g' (by omega)
      have hF' : FS A ps q u (g + 1) τ := by
        rcases hF with ⟨f1, f2⟩ | ⟨i, P, f1, f2, f3, f4, f5, f6⟩
        · exact Or.inl ⟨f1, hself _ f2 cp⟩
        · exact Or.inr ⟨i, P, f1, f2, f3, f4, by obtain ⟨g', z1, z2⟩ := f5; exact ⟨g', by omega, z2⟩, hself _ f6 (fun w => absurd w cp)⟩
      have m11 : (-1 : Int32) = -1 := rfl
      obtain ⟨τ', i1, i2, i3⟩ := keep hF'
      rcases hF with ⟨f1, f2⟩ | ⟨i, P, f1, f2, f3, f4, f5, f6⟩
      · rw [f1, if_pos m11, if_pos m11, if_pos m11, if_pos m11]
        exact ⟨τ', i1, ⟨k1, k2, p2, k3, i2⟩, i3⟩
      · have ni : ¬ nI i = -1 := nI_m1 (by omega)
        have lt1 : (-1 : Int32) < nI i := by
          rw [Int32.lt_iff_toInt_lt, nI_toInt (by omega)]
          have : (-1 : Int32).toInt = -1 := by decide
          omega
        rw [f1, if_neg ni, if_neg ni, if_pos lt1, if_pos lt1, if_pos m11, if_pos m11]
        exact ⟨τ', i1, ⟨k1, k2, p2, k3, i2⟩, i3⟩
theorem units_ex {q u : Nat} (hu : u < units A ps q) : ∃ g, g < aF A 6 q ∧ u < uc ps (aF A 7 (8 * q + g)) := by
  have key : ∀ (k g a : Nat), a ≤ u → u < uMx (fun g => uc ps (aF A 7 (8 * q + g))) k g a → ∃ g', g ≤ g' ∧ g' < g + k ∧ u < uc ps (aF A 7 (8 * q + g')) := by
    intro k
    induction k with
    | zero => intro g a ha hb; exact absurd hb (by show ¬ u < a; omega)
    | succ k ik =>
      intro g a ha hb
      by_cases y : u < uc ps (aF A 7 (8 * q + g))
      · exact ⟨g, Nat.le_refl _, by omega, y⟩
      · obtain ⟨g', q1, q2, q3⟩ := ik (g + 1) (max a (uc ps (aF A 7 (8 * q + g)))) (by omega) hb
        exact ⟨g', by omega, by omega, q3⟩
  obtain ⟨g', q1, q2, q3⟩ := key (aF A 6 q) 0 0 (by omega) hu
  exact ⟨g', by omega, q3⟩
theorem ex_units {q u g : Nat} (hg : g < aF A 6 q) (hu : u < uc ps (aF A 7 (8 * q + g))) : u < units A ps q := by
  have key : ∀ (k g0 a : Nat), (u < a ∨ ∃ g', g0 ≤ g' ∧ g' < g0 + k ∧ u < uc ps (aF A 7 (8 * q + g'))) → u < uMx (fun g => uc ps (aF A 7 (8 * q + g))) k g0 a := by
    intro k
    induction k with
    | zero =>
      intro g0 a ha
      rcases ha with z | ⟨g', w1, w2, -⟩
      · exact z
      · omega
    | succ k ik =>
      intro g0 a ha
      show u < uMx _ k (g0 + 1) (max a (uc ps (aF A 7 (8 * q + g0))))
      apply ik
      rcases ha with z | ⟨g', w1, w2, w3⟩
      · left; omega
      · by_cases e : g' = g0
        · subst e; left; omega
        · right; exact ⟨g', by omega, by omega, w3⟩
  exact key _ 0 0 (Or.inr ⟨g, Nat.zero_le _, by omega, hu⟩)
theorem first_eq {L : LL} {N : Nat → Int64} (h : RR c A L N) (hl : ps.length ≤ 301) (hs24 : ∀ (i s : Nat) (a b : Int32) (d : Nat), ps[i]? = some (s, a, b, d) → s < 24) {q u : Nat} (hq : q < aN A 2) (hu : u < units A ps q) (hN : yL τ 0 = N) (hP : PR τ ps) :
    ∃ τ' i P, m_Mo_first τ (nI q) (nI u) = τ' ∧ k_Mo_first τ (nI q) (nI u) ∧ FN τ τ' ∧ yn τ' 5 = nI i ∧ yp τ' = lN P ∧ P < 2 ^ 30 ∧ FP A ps q u i P := by
  have hul := units_le A ps q
  have hg8 := (h.2.2.2.2.1.1 q hq).2.2.1
  unfold m_Mo_first k_Mo_first
  obtain ⟨τ', i1, i2, i3, i4⟩ := first_l h hl hs24 hq (show u < 2 ^ 30 by omega) (aF A 6 q) 0 10 (wp (wn τ 5 (-1)) 0) hN (hP.fn (FN_set τ _ _)) (by omega) (by omega) (Or.inl ⟨by show yn (wn τ 5 (-1)) 5 = -1; rw [yn_wn, if_pos rfl], fun g' hg' => by omega⟩)
  rw [nI_0] at i1 i2
  obtain ⟨g, hg1, hg2⟩ := units_ex hu
  have hpo := po_uc hg2
  rcases i4 with ⟨-, f2⟩ | ⟨i, P, f1, f2, f3, f4, f5, f6⟩
  · exact absurd hpo (f2 g hg1)
  · refine ⟨τ', i, P, i1, i2, (FN_set τ _ _).tr i3, f1, f2, f4, f5, f3, ?_⟩
    rintro ⟨g', w1, w2⟩
    have := f6 g' w1 (by omega)
    omega
theorem FP_lt {q u i P : Nat} (h : FP A ps q u i P) {i0 P0 : Nat} (hi0 : i0 < ps.length) : Fb (aF A 6) (aF A 7) (aF A 8) ps q u i0 P0 ↔ i < i0 ∨ (i = i0 ∧ P < P0) := by
  obtain ⟨⟨g, h1, h2, h3⟩, h4, h5⟩ := h
  constructor
  · rintro ⟨g', w1, w2⟩
    refine Classical.byContradiction fun z => h5 ⟨g', w1, ?_⟩
    omega
  · intro z
    exact ⟨g, h1, by omega⟩
theorem FP_eq {q u i P i' P' : Nat} (h : FP A ps q u i P) (h' : FP A ps q u i' P') : i = i' ∧ P = P' := by
  have a1 := fun z => h'.2.2 ((FP_lt h h'.2.1 (P0 := P')).mpr z)
  have a2 := fun z => h.2.2 ((FP_lt h' h.2.1 (P0 := P)).mpr z)
  rcases Nat.lt_trichotomy i i' with z | z | z
  · exact absurd (Or.inl z) a1
  · refine ⟨z, ?_⟩
    rcases Nat.lt_trichotomy P P' with w | w | w
    · exact absurd (Or.inr ⟨z, w⟩) a1
    · exact w
    · exact absurd (Or.inr ⟨z.symm, w⟩) a2
  · exact absurd (Or.inl z) a2
end FI
section NM
variable {c : Nat} {A : AS} {σ : SC} {ps : List Pg}
theorem RLA.fn {τ τ' : SM} (h : RLA c A σ τ) (f : FN τ τ') : RLA c A σ τ' := h.tn (by rw [f.1]) (by rw [f.1]) (fun k _ hk => f.2.2.2 k (by omega)) (fun z => (h.2.2.2.1 (by rw [← f.2.2.1]; exact z)).fn f)
theorem name112 {L : LL} {N : Nat → Int64} (h : RR c A L N) (hl : ps.length ≤ 301) (hs24 : ∀ (i s : Nat) (a b : Int32) (d : Nat), ps[i]? = some (s, a, b, d) → s < 24) {p : Nat} (hp : p < aN A 2) {i0 P0 mh ml : Nat} (hi0 : i0 < ps.length) (hP0 : P0 < 2 ^ 30) (hmh : mk (aF A 6) (aF A 7) (aF A 8) ps p i0 P0 mh) (hml : mk (aF A 6) (aF A 7) (aF A 8) ps p i0 0 ml)
    (K : SM → Int32 → Int32 → Int32 → Int64 → Int32 → Int32 → Int32 × SM) (KP : SM → Int32 → Int32 → Int32 → Int64 → Int32 → Int32 → Prop) (v1 v2 : Int32) : ∀ (m u n v : Nat) (τ : SM), yL τ 0 = N → PR τ ps → RLA c A σ τ → u + m = units A ps p → m < n → v + m < 2 ^ 30 →
    ∃ τ', FN τ τ' ∧ PR τ' ps ∧ lp_Mo_name_112 K n τ v1 v2 (nI i0) (lN P0) (nI v) (nI p) (nI (units A ps p)) (nI u) = K τ' v1 v2 (nI i0) (lN P0) (nI (v + (min (units A ps p) mh - max u (if N 5 = 0 then 0 else ml)))) (nI (p + 1)) ∧
      (KP τ' v1 v2 (nI i0) (lN P0) (nI (v + (min (units A ps p) mh - max u (if N 5 = 0 then 0 else ml)))) (nI (p + 1)) → kl_Mo_name_112 KP n τ v1 v2 (nI i0) (lN P0) (nI v) (nI p) (nI (units A ps p)) (nI u)) := by
  have hul := units_le A ps p
  intro m
  induction m with
  | zero =>
    intro u n v τ hN hP hA hu hn hv
    obtain ⟨n, rfl⟩ : ∃ k, n = k + 1 := ⟨n - 1, by omega⟩
    unfold lp_Mo_name_112 kl_Mo_name_112
    have c1 : nI (units A ps p) ≤ nI u := nI_le (by omega) (by omega)
    rw [if_pos c1, if_pos c1, nI_1]
    have e : v + (min (units A ps p) mh - max u (if N 5 = 0 then 0 else ml)) = v := by omega
    rw [e]
    exact ⟨τ, FN_rfl τ, hP, rfl, fun w => w⟩
  | succ m ih =>
    intro u n v τ hN hP hA hu hn hv
    obtain ⟨n, rfl⟩ : ∃ k, n = k + 1 := ⟨n - 1, by omega⟩
    unfold lp_Mo_name_112 kl_Mo_name_112
    have c1 : ¬ nI (units A ps p) ≤ nI u := nI_ge (by omega) (by omega)
    obtain ⟨τ1, i, P, f1, f2, f3, f4, f5, f6, f7⟩ := first_eq (τ := τ) h hl hs24 hp (show u < units A ps p by omega) hN hP
    have hil := f7.2.1
    rw [if_neg c1, if_neg c1, f1, f4, f5, nI_1 u]
    have hz : nI v + 0 = nI v := Int32.add_zero _
    have hN1 : yL τ1 0 = N := by rw [f3.1]; exact hN
    have hh := mk_iff hi0 hmh u
    have hlo := mk_iff hi0 hml u
    rw [FP_lt f7 hi0] at hh hlo
    rw [hN1, int5, hz, nI_1 v]
    obtain ⟨τa, a1, a2, a3, a4⟩ := ih (u + 1) n v τ1 hN1 (hP.fn f3) (hA.fn f3) (by omega) (by omega) (by omega)
    obtain ⟨τb, b1, b2, b3, b4⟩ := ih (u + 1) n (v + 1) τ1 hN1 (hP.fn f3) (hA.fn f3) (by omega) (by omega) (by omega)
    have i5 : vp_in 5 (lnML 0) := inL 5 (by omega)
    by_cases ce : i = i0
    · have ce' : nI i = nI i0 := by rw [ce]
      rw [if_pos ce', if_pos ce']
      by_cases cp : P0 ≤ P
      · have cp' : 0 ≤ lg_cmp (lN P) (lN P0) := cmp_ge.mpr ((lN_le (by omega) (by omega)).mpr cp)
        rw [if_pos cp', if_pos cp']
        have e : v + (min (units A ps p) mh - max u (if N 5 = 0 then 0 else ml)) = v + (min (units A ps p) mh - max (u + 1) (if N 5 = 0 then 0 else ml)) := by split <;> omega
        rw [e]
        exact ⟨τa, f3.tr a1, a2, a3, fun w => ⟨f2, a4 w⟩⟩
      · have cp' : ¬ 0 ≤ lg_cmp (lN P) (lN P0) := fun w => cp ((lN_le (by omega) (by omega)).mp (cmp_ge.mp w))
        rw [if_neg cp', if_neg cp']
        have e : v + (min (units A ps p) mh - max u (if N 5 = 0 then 0 else ml)) = v + 1 + (min (units A ps p) mh - max (u + 1) (if N 5 = 0 then 0 else ml)) := by split <;> omega
        rw [e]
        exact ⟨τb, f3.tr b1, b2, b3, fun w => ⟨f2, b4 w⟩⟩
    · have ce' : ¬ nI i = nI i0 := fun w => ce ((nI_eq (by omega) (by omega)).mp w)
      rw [if_neg ce', if_neg ce']
      by_cases cl : i0 ≤ i
      · have cl' := nI_le cl (show i < 2 ^ 31 by omega)
        rw [if_pos cl', if_pos cl']
        have e : v + (min (units A ps p) mh - max u (if N 5 = 0 then 0 else ml)) = v + (min (units A ps p) mh - max (u + 1) (if N 5 = 0 then 0 else ml)) := by split <;> omega
        rw [e]
        exact ⟨τa, f3.tr a1, a2, a3, fun w => ⟨f2, a4 w⟩⟩
      · have cl' : ¬ nI i0 ≤ nI i := nI_ge (by omega) (by omega)
        rw [if_neg cl', if_neg cl']
        by_cases c5 : N 5 = 0
        · have c5' := cmp0.mpr c5
          rw [if_pos c5', if_pos c5']
          have e : v + (min (units A ps p) mh - max u (if N 5 = 0 then 0 else ml)) = v + 1 + (min (units A ps p) mh - max (u + 1) (if N 5 = 0 then 0 else ml)) := by rw [if_pos c5]; omega
          rw [e]
          exact ⟨τb, f3.tr b1, b2, b3, fun w => ⟨f2, i5, b4 w⟩⟩
        · have c5' : ¬ lg_cmp (N 5) 0 = 0 := fun w => c5 (cmp0.mp w)
          rw [if_neg c5', if_neg c5']
          have e : v + (min (units A ps p) mh - max u (if N 5 = 0 then 0 else ml)) = v + (min (units A ps p) mh - max (u + 1) (if N 5 = 0 then 0 else ml)) := by rw [if_neg c5]; omega
          rw [e]
          exact ⟨τa, f3.tr a1, a2, a3, fun w => ⟨f2, i5, a4 w⟩⟩
end NM
