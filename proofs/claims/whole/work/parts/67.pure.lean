section GT
variable {ns nq key : Nat} {lt gc gs gp : Nat → Nat} {gl : Nat → List Nat} {L7 L8 L9 L10 L11 N L7' L8' L9' L10' L11' N' : Nat → Int64}
theorem R4_addPart (h : R4 ns nq key lt gc gs gp gl L7 L8 L9 L10 L11 N) (hq : nq < 30) {a b : Nat} (ha : a < 26) (hb0 : 0 < b) (hb : b ≤ 8) (h7 : L7' nq = lN a) (h7' : ∀ j, j ≠ nq → L7' j = L7 j) (h8 : L8' nq = lN b) (h8' : ∀ j, j ≠ nq → L8' j = L8 j)
    (n1 : N' (2132 + nq) = lN a) (n2 : N' (2162 + nq) = lN b) (n3 : ∀ g, g < 8 → N' (2192 + 8 * nq + g) = 0) (n4 : ∀ i, 2132 ≤ i → i < 2672 → i ≠ 2132 + nq → i ≠ 2162 + nq → ¬ (2192 + 8 * nq ≤ i ∧ i < 2192 + 8 * nq + 8) → N' i = N i) :
    R4 ns (nq + 1) key (va_up lt nq a) (va_up gc nq b) gs gp gl L7' L8' L9 L10 L11 N' := by
  obtain ⟨x1, x2, x3, x4, x5, x6, x7⟩ := h
  refine ⟨fun q hq2 => ?_, fun k hk => ?_, fun k hk => x3 k (by omega), x4, by omega, x6, x7⟩
  · by_cases e : q = nq
    · subst e
      rw [va_up_self, va_up_self]
      exact ⟨ha, hb0, hb, h7, n1, h8, n2⟩
    · rw [va_up_ne _ _ e, va_up_ne _ _ e, h7' q e, h8' q e, n4 _ (by omega) (by omega) (by omega) (by omega) (by omega), n4 _ (by omega) (by omega) (by omega) (by omega) (by omega)]
      exact x1 q (by omega)
  · by_cases e : k < 8 * nq
    · obtain ⟨y1, y2, y3, y4⟩ := x2 k e
      refine ⟨by rw [n4 _ (by omega) (by omega) (by omega) (by omega) (by omega)]; exact y1, y2, y3, fun z => ?_⟩
      obtain ⟨w1, w2, w3⟩ := y4 z
      refine ⟨by rw [n4 _ (by omega) (by omega) (by omega) (by omega) (by omega)]; exact w1, w2, ?_⟩
      rw [va_up_ne _ _ (by omega)]; exact w3
    · obtain ⟨y1, y2⟩ := x3 k (by omega)
      refine ⟨?_, ?_, by omega, fun z => absurd y1 z⟩
      · have := n3 (k - 8 * nq) (by omega)
        rw [show 2192 + 8 * nq + (k - 8 * nq) = 2192 + k by omega] at this
        rw [this, y1]; decide
      · rw [y2 (by omega), y1]; decide
theorem R4_gate (h : R4 ns nq key lt gc gs gp gl L7 L8 L9 L10 L11 N) {s q g : Nat} (hs : s < ns) (hq : q < nq) (hg : g < gc q) (hk0 : gs (8 * q + g) = 0) (hlen : (gl s).length < 20) (hky : key + 1 < 2 ^ 30)
    (l9 : L9' (8 * q + g) = lN s) (l9' : ∀ j, j ≠ 8 * q + g → L9' j = L9 j) (l10 : L10' (20 * s + (gl s).length) = lN (8 * q + g)) (l10' : ∀ j, j ≠ 20 * s + (gl s).length → L10' j = L10 j) (l11 : L11' s = lN ((gl s).length + 1)) (l11' : ∀ j, j ≠ s → L11' j = L11 j)
    (n1 : N' (2192 + (8 * q + g)) = lN (s + 1)) (n2 : N' (2432 + (8 * q + g)) = lN key) (n3 : ∀ i, 2132 ≤ i → i < 2672 → i ≠ 2192 + (8 * q + g) → i ≠ 2432 + (8 * q + g) → N' i = N i) :
    R4 ns nq (key + 1) lt gc (va_up gs (8 * q + g) (s + 1)) (va_up gp (8 * q + g) key) (va_up gl s (gl s ++ [8 * q + g])) L7 L8 L9' L10' L11' N' := by
  obtain ⟨x1, x2, x3, x4, x5, x6, x7⟩ := h
  have hg8 := (x1 q hq).2.2.1
  have hnot : ∀ s', s' < 24 → 8 * q + g ∉ gl s' := fun s' hs' z => by
    have := ((x4 s' hs').2.2.2.1 _).mp z
    omega
  have hgp : ∀ s', s' < 24 → ∀ k ∈ gl s', gp k < key ∧ k ≠ 8 * q + g := fun s' hs' k hk => by
    have hgs := ((x4 s' hs').2.2.2.1 _).mp hk
    have hk8 : k < 8 * nq := Nat.lt_of_not_le fun z => by have := (x3 k z).1; omega
    exact ⟨((x2 k hk8).2.2.2 (by omega)).2.1, fun e => hnot s' hs' (e ▸ hk)⟩
  have hsort : ∀ s', s' < 24 → (gl s').Pairwise (fun a b => va_up gp (8 * q + g) key a < va_up gp (8 * q + g) key b) := fun s' hs' =>
    (x4 s' hs').2.2.2.2.imp_of_mem fun {a b} ha hb hab => by rw [va_up_ne _ _ (hgp s' hs' a ha).2, va_up_ne _ _ (hgp s' hs' b hb).2]; exact hab
  refine ⟨fun q2 hq2 => ?_, fun k hk => ?_, fun k hk => ?_, fun s' hs' => ?_, x5, x6, hky⟩
  · rw [n3 _ (by omega) (by omega) (by omega) (by omega), n3 _ (by omega) (by omega) (by omega) (by omega)]
    exact x1 q2 hq2
  · by_cases e : k = 8 * q + g
    · subst e
      rw [va_up_self, va_up_self]
      refine ⟨n1, ?_, by omega, fun _ => ⟨n2, by omega, ?_⟩⟩
      · rw [l9, ← lN_1, Int64.add_sub_cancel]
      · rw [show (8 * q + g) / 8 = q by omega, show (8 * q + g) % 8 = g by omega]; exact hg
    · rw [va_up_ne _ _ e, va_up_ne _ _ e, l9' k e, n3 (2192 + k) (by omega) (by omega) (by omega) (by omega), n3 (2432 + k) (by omega) (by omega) (by omega) (by omega)]
      obtain ⟨y1, y2, y3, y4⟩ := x2 k hk
      exact ⟨y1, y2, y3, fun z => by obtain ⟨w1, w2, w3⟩ := y4 z; exact ⟨w1, by omega, w3⟩⟩
  · rw [va_up_ne _ _ (by omega), l9' k (by omega)]; exact x3 k hk
  · by_cases e : s' = s
    · subst e
      obtain ⟨y1, y2, y3, y4, y5⟩ := x4 s' hs'
      rw [va_up_self]
      refine ⟨by rw [l11, List.length_append]; rfl, by rw [List.length_append]; exact hlen, fun i k hi => ?_, fun k => ?_, ?_⟩
      · rcases Nat.lt_trichotomy i (gl s').length with z | z | z
        · rw [List.getElem?_append_left z] at hi
          rw [l10' _ (by omega)]; exact y3 i k hi
        · subst z
          rw [List.getElem?_append_right (Nat.le_refl _)] at hi
          simp at hi
          subst hi; exact l10
        · rw [List.getElem?_eq_none (by simp; omega)] at hi
          cases hi
      · rw [List.mem_append, List.mem_singleton]
        by_cases ek : k = 8 * q + g
        · subst ek; rw [va_up_self]; exact ⟨fun _ => rfl, fun _ => Or.inr rfl⟩
        · rw [va_up_ne _ _ ek, y4 k]
          exact ⟨fun z => z.elim id fun w => absurd w ek, Or.inl⟩
      · rw [List.pairwise_append]
        refine ⟨hsort s' hs', List.pairwise_singleton _ _, fun a ha b hb => ?_⟩
        rw [List.mem_singleton.mp hb, va_up_self, va_up_ne _ _ (hgp s' hs' a ha).2]
        exact (hgp s' hs' a ha).1
    · obtain ⟨y1, y2, y3, y4, y5⟩ := x4 s' hs'
      rw [va_up_ne _ _ e, l11' s' e]
      refine ⟨y1, y2, fun i k hi => ?_, fun k => ?_, hsort s' hs'⟩
      · have hil : i < (gl s').length := by
          rcases Nat.lt_or_ge i (gl s').length with z | z
          · exact z
          · rw [List.getElem?_eq_none z] at hi; cases hi
        rw [l10' _ (by omega)]; exact y3 i k hi
      · by_cases ek : k = 8 * q + g
        · subst ek; rw [va_up_self, y4]; omega
        · rw [va_up_ne _ _ ek]; exact y4 k
end GT
theorem int2 : (2 : Int32).toNatClampNeg = 2 := by decide
theorem int6 : (6 : Int32).toNatClampNeg = 6 := by decide
theorem g8_cl {q g : Nat} (hq : q < 30) (hg : g < 8) : (((2192 : Int32) + (8 * nI q)) + nI g).toNatClampNeg = 2192 + 8 * q + g := by
  show (nI 2192 + (nI 8 * nI q) + nI g).toNatClampNeg = _
  rw [pk_mul, nI_add, nI_add, nI_clamp (by omega)]
theorem g8_in {q g : Nat} (hq : q < 30) (hg : g < 8) : vp_in (((2192 : Int32) + (8 * nI q)) + nI g) (lnML 0) := by
  show vp_in (nI 2192 + (nI 8 * nI q) + nI g) (lnML 0)
  rw [pk_mul, nI_add, nI_add]; exact inL _ (by omega)
theorem BG.tr0 {τ τ1 τ2 : SM} (h : BG τ τ1) (e1 : yL τ2 1 = yL τ1 1) (e2 : yL τ2 2 = yL τ1 2) (e3 : ∀ k, k < 4 → yn τ2 k = yn τ1 k) : BG τ τ2 :=
  ⟨fun k hk => by rw [e1]; exact h.1 k hk, by rw [e2]; exact h.2.1, fun k h1 h2 => by rw [e3 k h2]; exact h.2.2.1 k h1 h2, by rw [e3 0 (by decide)]; exact h.2.2.2⟩
theorem addPart_l {q : Nat} (hq : q < 30) (v1 v3 : Int64) : ∀ (m g : Nat) (τ : SM), g + m = 8 → (lp_Mo_addPart_34 (m + 1) τ v1 v3 (nI q) (nI g)).1 = nI q ∧ (∀ τ0, BG τ0 τ → BG τ0 (lp_Mo_addPart_34 (m + 1) τ v1 v3 (nI q) (nI g)).2) ∧
    (∀ i, yL (lp_Mo_addPart_34 (m + 1) τ v1 v3 (nI q) (nI g)).2 0 i = if i = 2 then yL τ 0 2 + 1 else if 2192 + 8 * q + g ≤ i ∧ i < 2192 + 8 * q + 8 then 0 else yL τ 0 i) ∧ kl_Mo_addPart_34 (m + 1) τ v1 v3 (nI q) (nI g)
  | 0, g, τ, h => by
    unfold lp_Mo_addPart_34 kl_Mo_addPart_34
    have c := show (8 : Int32) ≤ nI g from nI_le (a := 8) (by omega) (by omega)
    rw [if_pos c, if_pos c, int2]
    refine ⟨rfl, fun τ0 hb => hb.l _ _, fun i => ?_, inL 2 (by omega), inL 2 (by omega), trivial⟩
    rw [yL_wL]
    by_cases e : i = 2
    · rw [if_pos ⟨rfl, e⟩, if_pos e]
    · rw [if_neg (fun z => e z.2), if_neg e, if_neg (by omega)]
  | m + 1, g, τ, h => by
    unfold lp_Mo_addPart_34 kl_Mo_addPart_34
    have c := show ¬ (8 : Int32) ≤ nI g from nI_ge (b := 8) (by omega) (by decide)
    rw [if_neg c, if_neg c, g8_cl hq (by omega), nI_1]
    obtain ⟨h1, h2, h3, h4⟩ := addPart_l hq v1 v3 m (g + 1) (wL τ 0 (2192 + 8 * q + g) 0) (by omega)
    refine ⟨h1, fun τ0 hb => h2 τ0 (hb.l _ _), fun i => ?_, g8_in hq (by omega), h4⟩
    rw [h3 i]
    by_cases e : i = 2
    · rw [if_pos e, if_pos e, yL_wL, if_neg (by omega)]
    · rw [if_neg e, if_neg e, yL_wL]
      by_cases e2 : i = 2192 + 8 * q + g
      · subst e2; rw [if_neg (by omega), if_pos ⟨rfl, rfl⟩, if_pos (by omega)]
      · rw [if_neg (show ¬ (0 = 0 ∧ i = 2192 + 8 * q + g) from fun z => e2 z.2)]
        by_cases z : 2192 + 8 * q + g ≤ i ∧ i < 2192 + 8 * q + 8
        · rw [if_pos z, if_pos (by omega)]
        · rw [if_neg z, if_neg (by omega)]
theorem addPart_M {τ : SM} {q : Nat} (hq : q < 30) (h2 : yL τ 0 2 = lN q) (a b : Int64) : (m_Mo_addPart τ a b).1 = nI q ∧ (∀ τ0, BG τ0 τ → BG τ0 (m_Mo_addPart τ a b).2) ∧
    yL (m_Mo_addPart τ a b).2 0 2 = lN (q + 1) ∧ (∀ g, g < 8 → yL (m_Mo_addPart τ a b).2 0 (2192 + 8 * q + g) = 0) ∧ yL (m_Mo_addPart τ a b).2 0 (2132 + q) = a ∧ yL (m_Mo_addPart τ a b).2 0 (2162 + q) = b ∧
    (∀ i, i ≠ 2 → i ≠ 2132 + q → i ≠ 2162 + q → ¬ (2192 + 8 * q ≤ i ∧ i < 2192 + 8 * q + 8) → yL (m_Mo_addPart τ a b).2 0 i = yL τ 0 i) ∧ k_Mo_addPart τ a b := by
  have hct : m_Mo_count τ 2 = nI q := count_eq (k := 2) (by omega) h2
  unfold m_Mo_addPart k_Mo_addPart
  have e1 : ((2132 : Int32) + nI q).toNatClampNeg = 2132 + q := clA 2132 (by omega)
  have e2 : ((2162 : Int32) + nI q).toNatClampNeg = 2162 + q := clA 2162 (by omega)
  have e3 : (8 : Int32).toNatClampNeg + 1 = 8 + 1 := by decide
  rw [hct, e1, e2, e3]
  obtain ⟨l1, l2, l3, l4⟩ := addPart_l hq a b 8 0 (wL (wL τ 0 (2132 + q) a) 0 (2162 + q) b) (by omega)
  rw [nI_0] at l1 l2 l3 l4
  generalize lp_Mo_addPart_34 (8 + 1) (wL (wL τ 0 (2132 + q) a) 0 (2162 + q) b) a b (nI q) 0 = Z at l1 l2 l3 ⊢
  have rd : ∀ i, yL (wL (wL τ 0 (2132 + q) a) 0 (2162 + q) b) 0 i = if i = 2162 + q then b else if i = 2132 + q then a else yL τ 0 i := fun i => by
    rw [yL_wL, yL_wL]; simp
  refine ⟨l1, fun τ0 hb => l2 τ0 ((hb.l _ _).l _ _), ?_, fun g hg => ?_, ?_, ?_, fun i w1 w2 w3 w4 => ?_, count_k (k := 2) (by decide), inA 2132 (by omega), inA 2162 (by omega), l4⟩
  · rw [l3, if_pos rfl, rd, if_neg (by omega), if_neg (by omega), h2, lN_1]
  · rw [l3, if_neg (by omega), if_pos (by omega)]
  · rw [l3, if_neg (by omega), if_neg (by omega), rd, if_neg (by omega), if_pos rfl]
  · rw [l3, if_neg (by omega), if_neg (by omega), rd, if_pos rfl]
  · rw [l3, if_neg w1, if_neg (by omega), rd, if_neg w3, if_neg w2]
/-- the class's new part -/
theorem addPart_C {σ : SC} {q : Nat} (hq : q < 30) (h2 : xL σ 6 0 = lN q) {a b : Nat} (ha : a < 2 ^ 31) (hb : b < 2 ^ 31) : (m_Parts_addPart σ (nI a) (nI b)).1 = nI q ∧ sk σ (m_Parts_addPart σ (nI a) (nI b)).2 ∧ xL (m_Parts_addPart σ (nI a) (nI b)).2 = sL (sL (sL (xL σ) 6 0 (lN (q + 1))) 7 q (lN a)) 8 q (lN b) := by
  have e := at_in (σ := σ) (k := 6) (i := 0) (by decide)
  rw [h2, lN_i, nI_0] at e
  unfold m_Parts_addPart
  rw [e, nI_1, nI_l (show q + 1 < 2 ^ 31 by omega), nI_l ha, nI_l hb]
  refine ⟨rfl, ((rs_sk _ _ _ _).tr (rs_sk _ _ _ _)).tr (rs_sk _ _ _ _), ?_⟩
  show xL (m_Row_set (m_Row_set (m_Row_set σ 6 0 (lN (q + 1))) 7 (nI q) (lN a)) 8 (nI q) (lN b)) = _
  rw [rs_xL (show q < 30 from hq), rs_xL (show q < 30 from hq)]
  have := rs_xL (σ := σ) (k := 6) (i := 0) (v := lN (q + 1)) (by decide)
  rw [nI_0] at this
  rw [this]
theorem op_part {c : Nat} (hc : c + 1 ≤ 1000) {σ : SC} {τ : SM} (h : RL c σ τ) (x y : Int32) : okX (c + 1) σ (m_ST_part σ x y) (k_Mo_part τ x y) (m_Mo_part τ x y) := by
  have hup := h.up hc
  obtain ⟨A, hA, ho, hB, hP, hl, hH⟩ := h
  have b := hA.1.2.2.1.2.2
  unfold m_ST_part m_Mo_part k_Mo_part
  by_cases c1 : x < 0
  · rw [if_pos c1, if_pos c1, if_pos c1]; exact okX_no trivial rfl (hup.th 1)
  rw [if_neg c1, if_neg c1, if_neg c1]
  by_cases c2 : (26 : Int32) ≤ x
  · rw [if_pos c2, if_pos c2, if_pos c2]; exact okX_no trivial rfl (hup.th 1)
  rw [if_neg c2, if_neg c2, if_neg c2]
  by_cases c3 : y ≤ 0
  · have c3' : y < 1 := by rw [Int32.lt_iff_toInt_lt]; rw [Int32.le_iff_toInt_le] at c3; have h0 : (0 : Int32).toInt = 0 := by decide
                           have h1 : (1 : Int32).toInt = 1 := by decide
                           omega
    rw [if_pos c3', if_pos c3, if_pos c3]; exact okX_no trivial rfl (hup.th 1)
  have c3' : ¬ y < 1 := by
    rw [Int32.lt_iff_toInt_lt]; rw [Int32.le_iff_toInt_le] at c3
    have h0 : (0 : Int32).toInt = 0 := by decide
    have h1 : (1 : Int32).toInt = 1 := by decide
    omega
  rw [if_neg c3', if_neg c3, if_neg c3]
  by_cases c4 : (9 : Int32) ≤ y
  · have c4' : ¬ y ≤ 8 := by
      rw [Int32.le_iff_toInt_le] at c4 ⊢
      have h0 : (9 : Int32).toInt = 9 := by decide
      have h1 : (8 : Int32).toInt = 8 := by decide
      omega
    rw [if_neg c4', if_pos c4, if_pos c4]; exact okX_no trivial rfl (hup.th 1)
  have c4' : y ≤ 8 := by
    rw [Int32.le_iff_toInt_le] at c4 ⊢
    have h0 : (9 : Int32).toInt = 9 := by decide
    have h1 : (8 : Int32).toInt = 8 := by decide
    omega
  rw [if_pos c4', if_neg c4, if_neg c4]
  obtain ⟨a, ha, rfl⟩ := nI_of c1
  have ha26 : a < 26 := Nat.lt_of_not_le fun z => c2 (nI_le (a := 26) z ha)
  have y0 : ¬ y < 0 := fun z => c3 (Int32.le_of_lt z)
  obtain ⟨g, hg, rfl⟩ := nI_of y0
  have hg0 : 0 < g := Nat.pos_of_ne_zero fun z => c3 (by rw [z]; decide)
  have hg8 : g ≤ 8 := Nat.lt_succ_iff.mp (Nat.lt_of_not_le fun z => c4 (nI_le (a := 9) z hg))
  obtain ⟨g1, g2, g3⟩ := BG_begin τ
  have e1 : m_Mo_count (wn τ 0 0) 2 = nI (aN A 2) := ct2 (τ := wn τ 0 0) hA
  have el : m_Parts_partsLeft σ = nI (30 - aN A 2) := by
    unfold m_Parts_partsLeft; rw [cc2 hA]; exact pk_sub (a := 30) b
  rw [e1, el]
  by_cases c30 : aN A 2 = 30
  · have d1 : ¬ (1 : Int32) ≤ nI (30 - aN A 2) := by rw [c30]; decide
    have d2 : nI (aN A 2) = 30 := by rw [c30]; rfl
    rw [if_neg d1, if_pos d2, if_pos d2]
    exact okX_mk ⟨count_k (k := 2) (by decide), trivial⟩ rfl rfl (hup.th 0)
  · have d1 : (1 : Int32) ≤ nI (30 - aN A 2) := nI_le (a := 1) (by omega) (by omega)
    have d2 : ¬ nI (aN A 2) = 30 := fun z => c30 ((nI_eq (b := 30) (by omega) (by decide)).mp z)
    rw [if_pos d1, if_neg d2, if_neg d2, nI_l ha, nI_l hg]
    generalize m_Mo_begin (wn τ 0 0) = τb at g1 g2 g3 ⊢
    obtain ⟨m1, m2, m3, m4, m5, m6, m7, m8⟩ := addPart_M (τ := τb) (q := aN A 2) (by omega) (by rw [g2]; exact hA.1.2.2.1.2.1) (lN a) (lN g)
    obtain ⟨p1, p2, p3⟩ := addPart_C (σ := σ) (q := aN A 2) (by omega) hA.1.2.2.1.1 ha hg
    generalize m_Mo_addPart τb (lN a) (lN g) = Z at m1 m2 m3 m4 m5 m6 m7 ⊢
    generalize m_Parts_addPart σ (nI a) (nI g) = Y at p1 p2 p3 ⊢
    obtain ⟨k1, k2, k3, k4⟩ := kept_op hc (A' := (va_up (aN A) 2 (aN A 2 + 1), va_up (va_up (aF A) 5 (va_up (aF A 5) (aN A 2) a)) 6 (va_up (aF A 6) (aN A 2) g), A.2.2)) hA ho hB hl hH p2 (m2 τ g1) (by
      rw [p3]
      obtain ⟨h0, h1, h2, h3, h4, h5, h6, h7⟩ := hA.up hc
      have hr : ∀ j, j ≠ 6 → j ≠ 7 → j ≠ 8 → sL (sL (sL (xL σ) 6 0 (lN (aN A 2 + 1))) 7 (aN A 2) (lN a)) 8 (aN A 2) (lN g) j = xL σ j := fun j w1 w2 w3 => by rw [sL_row w3, sL_row w2, sL_row w1]
      have r6 : sL (sL (sL (xL σ) 6 0 (lN (aN A 2 + 1))) 7 (aN A 2) (lN a)) 8 (aN A 2) (lN g) 6 0 = lN (aN A 2 + 1) := by rw [sL_row (by decide), sL_row (by decide), sL_same]
      have r7 : sL (sL (sL (xL σ) 6 0 (lN (aN A 2 + 1))) 7 (aN A 2) (lN a)) 8 (aN A 2) (lN g) 7 (aN A 2) = lN a := by rw [sL_row (by decide), sL_same]
      have r7' : ∀ j, j ≠ aN A 2 → sL (sL (sL (xL σ) 6 0 (lN (aN A 2 + 1))) 7 (aN A 2) (lN a)) 8 (aN A 2) (lN g) 7 j = xL σ 7 j := fun j hj => by rw [sL_row (by decide), sL_cell hj, sL_row (by decide)]
      have r8 : sL (sL (sL (xL σ) 6 0 (lN (aN A 2 + 1))) 7 (aN A 2) (lN a)) 8 (aN A 2) (lN g) 8 (aN A 2) = lN g := sL_same _ _ _ _
      have r8' : ∀ j, j ≠ aN A 2 → sL (sL (sL (xL σ) 6 0 (lN (aN A 2 + 1))) 7 (aN A 2) (lN a)) 8 (aN A 2) (lN g) 8 j = xL σ 8 j := fun j hj => by rw [sL_cell hj, sL_row (by decide), sL_row (by decide)]
      have hN0 : ∀ i, i ≠ 2 → i < 2132 ∨ 2672 ≤ i → yL Z.2 0 i = yL τ 0 i := fun i w1 w2 => by rw [m7 i w1 (by omega) (by omega) (by omega), g2]
      generalize sL (sL (sL (xL σ) 6 0 (lN (aN A 2 + 1))) 7 (aN A 2) (lN a)) 8 (aN A 2) (lN g) = L' at hr r6 r7 r7' r8 r8' ⊢
      generalize yL Z.2 0 = N' at m3 m4 m5 m6 m7 hN0 ⊢
      have hN : ∀ i, i ≠ 2 → i < 2132 ∨ 2672 ≤ i → N' i = yL τ 0 i := hN0
      have q0 : R0 (va_up (aN A) 2 (aN A 2 + 1)) (c + 1) L' N' := by
        unfold R0
        rw [hr 0 (by decide) (by decide) (by decide), hr 12 (by decide) (by decide) (by decide), hr 18 (by decide) (by decide) (by decide), r6, hN 0 (by omega) (by omega), hN 1 (by omega) (by omega), m3, hN 3 (by omega) (by omega), hN 4 (by omega) (by omega), hN 5 (by omega) (by omega), hN 6 (by omega) (by omega)]
        exact ⟨h0.1, h0.2.1, ⟨rfl, rfl, show aN A 2 + 1 ≤ 30 by omega⟩, h0.2.2.2.1, h0.2.2.2.2.1, h0.2.2.2.2.2⟩
      have q4 := R4_addPart (L7' := L' 7) (L8' := L' 8) (N' := N') h4 (by omega) ha26 hg0 hg8 r7 r7' r8 r8' m5 m6 m4 (fun i w1 w2 w3 w4 w5 => by rw [m7 i (by omega) w3 w4 w5, g2])
      rw [← hr 9 (by decide) (by decide) (by decide), ← hr 10 (by decide) (by decide) (by decide), ← hr 11 (by decide) (by decide) (by decide)] at q4
      exact ⟨q0, (by show R1 (aN A 0) (L' 1) N'; rw [hr 1 (by decide) (by decide) (by decide)]; exact h1.cg h0.1.2.2.2 fun i _ _ => hN i (by omega) (by omega)), (by show R2 (aN A 0) (aN A 1) (aN A 6) _ _ _ _ _ _ (L' 2) (L' 3) (L' 4) N'; rw [hr 2 (by decide) (by decide) (by decide), hr 3 (by decide) (by decide) (by decide), hr 4 (by decide) (by decide) (by decide)]; exact h2.cg fun i _ _ => hN i (by omega) (by omega)), (by show R3 (aN A 1) _ (L' 5) N'; rw [hr 5 (by decide) (by decide) (by decide)]; exact h3.cg fun i _ _ => hN i (by omega) (by omega)), q4, (by show R5 (aN A 3) (L' 13) N'; rw [hr 13 (by decide) (by decide) (by decide)]; exact h5.cg h0.2.2.2.1.2.2 fun i _ _ => hN i (by omega) (by omega)), (by show R6 (aN A 4) (L' 14) (L' 15) (L' 16) (L' 17) N'; rw [hr 14 (by decide) (by decide) (by decide), hr 15 (by decide) (by decide) (by decide), hr 16 (by decide) (by decide) (by decide), hr 17 (by decide) (by decide) (by decide)]; exact h6.cg h0.2.2.2.2.1.2.2 fun i _ _ => hN i (by omega) (by omega)), h7⟩) rfl
    rw [p1, m1]
    exact okX_mk ⟨count_k (k := 2) (by decide), g3, m8, k1, trivial⟩ k3 rfl k2 k4
