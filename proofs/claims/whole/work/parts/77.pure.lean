theorem BG_begin' {τ : SM} (h0 : yn τ 0 = 0) : BG τ (m_Mo_begin τ) ∧ yL (m_Mo_begin τ) 0 = yL τ 0 ∧ k_Mo_begin τ ∧ yI (m_Mo_begin τ) = yI τ := by
  obtain ⟨h1, h2⟩ := begin_eq τ
  rw [h1]
  refine ⟨⟨fun k hk => ?_, ?_, fun k _ _ => rfl, h0⟩, ?_, h2, rfl⟩
  · rw [yL_wR, cpN_in hk]
  · rw [yL_wRn _ _ (by decide)]
  · rw [yL_wRn _ _ (by decide)]
theorem read_cg {σ σ' : SC} (h : xI σ' = xI σ) (j : Nat) (x : Int32) : m_ST_read σ' j x = m_ST_read σ j x := by unfold m_ST_read; rw [h]
theorem BK.sk {σ σ' : SC} {ps : List Pg} (h : BK σ ps) (hs : sk σ σ') : BK σ' ps := by unfold BK at h ⊢; rw [hs.2.1, hs.2.2.1]; exact h
theorem addT_l {ps : List Pg} (hW : PW ps) {t : Nat} (ht : t < 40) (v1 v2 : Int32) : ∀ (r j s : Nat) (a b : Int32) (n : Nat) (σ : SC), BK σ ps → ps[j]? = some (s, a, b, r) → r < n →
    ∃ σ', lp_Variants_addTelling_63 n σ v1 v2 (nI t) (nI j) (nI r - 1) = (nI t, σ') ∧ sk σ σ' ∧ (∀ k, k ≠ 17 → xL σ' k = xL σ k) ∧ (∀ k, k < r → xL σ' 17 (23 * t + k) = lN (pathf ps r j k)) ∧ (∀ i, ¬ (23 * t ≤ i ∧ i < 23 * t + r) → xL σ' 17 i = xL σ 17 i) := by
  intro r
  induction r with
  | zero =>
    intro j s a b n σ hB h hn
    obtain ⟨n, rfl⟩ : ∃ k, n = k + 1 := ⟨n - 1, by omega⟩
    unfold lp_Variants_addTelling_63
    rw [if_pos ((sub_lt0 (r := 0) (by omega)).mpr rfl)]
    exact ⟨σ, rfl, sk_rfl σ, fun _ _ => rfl, fun k hk => by omega, fun _ _ => rfl⟩
  | succ r ih =>
    intro j s a b n σ hB h hn
    obtain ⟨n, rfl⟩ : ∃ k, n = k + 1 := ⟨n - 1, by omega⟩
    obtain ⟨hd, hx⟩ := hW.2 j s a b (r + 1) h
    rcases hx with ⟨h0, -⟩ | ⟨r', p, g, s2, a2, b2, e1, e2, e3, e4, e5, e6⟩
    · omega
    · have : r' = r := by omega
      subst this
      subst e2 e4
      obtain ⟨c1, c2, -, c4⟩ := bk_above hB hW.1 h
      unfold lp_Variants_addTelling_63
      have hr : nI (r' + 1) - 1 = nI r' := nI_pred r'
      have ei : nI t * 23 + nI r' = nI (23 * t + r') := by
        show nI t * nI 23 + nI r' = _
        rw [pk_mul, nI_add, Nat.mul_comm]
      rw [if_neg (fun w => by have := (sub_lt0 (by omega)).mp w; omega), hr, ei, c1, nI_l (show p < 2 ^ 31 by omega), sub_neg]
      have hk := rs_sk σ 17 (nI (23 * t + r')) (lN p)
      have eL : xL (m_Row_set σ 17 (nI (23 * t + r')) (lN p)) = sL (xL σ) 17 (23 * t + r') (lN p) := rs_xL (show 23 * t + r' < 920 by omega)
      have hB' := hB.sk hk
      generalize m_Row_set σ 17 (nI (23 * t + r')) (lN p) = Y at hk eL hB' ⊢
      obtain ⟨-, c2', -, -⟩ := bk_above hB' hW.1 h
      rw [c2']
      obtain ⟨σ', i1, i2, i3, i4, i5⟩ := ih g s2 a2 b2 n Y hB' e6 (by omega)
      refine ⟨σ', i1, hk.tr i2, fun k hk7 => by rw [i3 k hk7, eL, sL_row hk7], fun k hk => ?_, fun i hi => ?_⟩
      · show _ = lN (if k = r' then plc ps j else pathf ps r' (ab ps j) k)
        by_cases z : k = r'
        · subst z
          rw [if_pos rfl, plc_eq e3 h, i5 _ (by omega), eL, sL_same]
        · rw [if_neg z, ab_eq e5 h]; exact i4 k (by omega)
      · rw [i5 i (by omega), eL, sL_cell (by omega)]
theorem addTelling_C {ps : List Pg} (hW : PW ps) {σ : SC} (hB : BK σ ps) {t sb : Nat} (ht : t < 40) (hsb : sb < 2 ^ 31) (h12 : xL σ 12 1 = lN t) {j s : Nat} {a b : Int32} {d : Nat} (hj : ps[j]? = some (s, a, b, d)) :
    ∃ σ', m_Variants_addTelling σ (nI sb) (nI j) = (nI t, σ') ∧ sk σ σ' ∧ (∀ k, k ≠ 12 → k ≠ 14 → k ≠ 16 → k ≠ 17 → xL σ' k = xL σ k) ∧ xL σ' 12 1 = lN (t + 1) ∧ xL σ' 12 0 = xL σ 12 0 ∧ xL σ' 14 t = lN sb ∧ (∀ i, i ≠ t → xL σ' 14 i = xL σ 14 i) ∧ xL σ' 16 t = lN d ∧ (∀ i, i ≠ t → xL σ' 16 i = xL σ 16 i) ∧
      (∀ k, k < d → xL σ' 17 (23 * t + k) = lN (pathf ps d j k)) ∧ (∀ i, ¬ (23 * t ≤ i ∧ i < 23 * t + d) → xL σ' 17 i = xL σ 17 i) := by
  obtain ⟨hd, -⟩ := hW.2 j s a b d hj
  unfold m_Variants_addTelling
  have e1 : m_Row_at σ 12 1 = nI t := by
    have := at_in (σ := σ) (k := 12) (i := 1) (by decide)
    rw [h12, lN_i] at this; exact this
  rw [e1, nI_1, nI_l (show t + 1 < 2 ^ 31 by omega), nI_l hsb]
  have k1 := rs_sk σ 12 1 (lN (t + 1))
  have L1 : xL (m_Row_set σ 12 1 (lN (t + 1))) = sL (xL σ) 12 1 (lN (t + 1)) := rs_xL (i := 1) (by decide)
  generalize m_Row_set σ 12 1 (lN (t + 1)) = Y1 at k1 L1 ⊢
  have k2 := k1.tr (rs_sk Y1 14 (nI t) (lN sb))
  have L2 : xL (m_Row_set Y1 14 (nI t) (lN sb)) = sL (xL Y1) 14 t (lN sb) := rs_xL (show t < 40 from ht)
  generalize m_Row_set Y1 14 (nI t) (lN sb) = Y2 at k2 L2 ⊢
  have d2 : m_Book_depthAt Y2 (nI j) = nI d := (bk_above (hB.sk k2) hW.1 hj).2.2.1
  rw [d2, nI_l (show d < 2 ^ 31 by omega)]
  have k3 := k2.tr (rs_sk Y2 16 (nI t) (lN d))
  have L3 : xL (m_Row_set Y2 16 (nI t) (lN d)) = sL (xL Y2) 16 t (lN d) := rs_xL (show t < 40 from ht)
  generalize m_Row_set Y2 16 (nI t) (lN d) = Y3 at k3 L3 ⊢
  have d3 : m_Book_depthAt Y3 (nI j) = nI d := (bk_above (hB.sk k3) hW.1 hj).2.2.1
  rw [d3]
  have hfu : d < (nI d - 1).toNatClampNeg + 2 := by
    cases d with
    | zero => omega
    | succ l =>
      have : nI (l + 1) - 1 = nI l := nI_pred l
      rw [this, nI_clamp (by omega)]; omega
  obtain ⟨σ', i1, i2, i3, i4, i5⟩ := addT_l hW ht (nI sb) (nI j) d j s a b _ Y3 (hB.sk k3) hj hfu
  have rd : ∀ k i, xL Y3 k i = if k = 16 ∧ i = t then lN d else if k = 14 ∧ i = t then lN sb else if k = 12 ∧ i = 1 then lN (t + 1) else xL σ k i := fun k i => by
    rw [L3, sL_eq, L2, sL_eq, L1, sL_eq]
  refine ⟨σ', i1, k3.tr i2, fun k w1 w2 w3 w4 => ?_, ?_, ?_, ?_, fun i hi => ?_, ?_, fun i hi => ?_, i4, fun i hi => ?_⟩
  · rw [i3 k w4]; funext i; rw [rd, if_neg (fun z => w3 z.1), if_neg (fun z => w2 z.1), if_neg (fun z => w1 z.1)]
  · rw [i3 12 (by decide), rd, if_neg (by omega), if_neg (by omega), if_pos ⟨rfl, rfl⟩]
  · rw [i3 12 (by decide), rd, if_neg (by omega), if_neg (by omega), if_neg (by omega)]
  · rw [i3 14 (by decide), rd, if_neg (by omega), if_pos ⟨rfl, rfl⟩]
  · rw [i3 14 (by decide), rd, if_neg (by omega), if_neg (by omega), if_neg (by omega)]
  · rw [i3 16 (by decide), rd, if_pos ⟨rfl, rfl⟩]
  · rw [i3 16 (by decide), rd, if_neg (by omega), if_neg (by omega), if_neg (by omega)]
  · rw [i5 i hi, rd, if_neg (by omega), if_neg (by omega), if_neg (by omega)]
theorem int4 : (4 : Int32).toNatClampNeg = 4 := by decide
theorem tellM_l {t d : Nat} (ht : t < 40) (hd : d < 24) {path : Nat → Nat} (hpl : ∀ k, k < d → path k < 60) (v1 v2 v3 v4 : Int32) (v : Int64) : ∀ (m k : Nat) (τ : SM), k + m = d → (∀ i, i < d → yI τ 4 i = nI (path i)) →
    ∃ τ', lp_Mo_tell_168 (m + 1) τ v1 v2 v3 v4 v (nI d) (nI (2682 + 29 * t)) (nI k) = (true, m_Mo_done τ') ∧ (k_Mo_done τ' → kl_Mo_tell_168 (m + 1) τ v1 v2 v3 v4 v (nI d) (nI (2682 + 29 * t)) (nI k)) ∧ (∀ τ0, BG τ0 τ → BG τ0 τ') ∧
      yL τ' 0 4 = yL τ 0 4 + 1 ∧ yL τ' 0 (2682 + 29 * t + 3) = v ∧ (∀ i, k ≤ i → i < d → yL τ' 0 (2682 + 29 * t + 5 + i) = lN (path i)) ∧ (∀ i, i ≠ 4 → i ≠ 2682 + 29 * t + 3 → ¬ (2682 + 29 * t + 5 + k ≤ i ∧ i < 2682 + 29 * t + 5 + d) → yL τ' 0 i = yL τ 0 i) := by
  intro m
  induction m with
  | zero =>
    intro k τ hk hp
    unfold lp_Mo_tell_168 kl_Mo_tell_168
    have c1 : nI d ≤ nI k := nI_le (by omega) (by omega)
    have e3 : nI (2682 + 29 * t) + 3 = nI (2682 + 29 * t + 3) := by
      show nI (2682 + 29 * t) + nI 3 = _
      rw [nI_add]
    rw [if_pos c1, if_pos c1, int4, e3, nI_clamp (by omega)]
    have i4 : vp_in 4 (lnML 0) := inL 4 (by omega)
    refine ⟨_, rfl, fun z => ⟨i4, i4, inL _ (by omega), z, trivial⟩, fun τ0 hb => (hb.l _ _).l _ _, ?_, ?_, fun i w1 w2 => by omega, fun i w1 w2 _ => ?_⟩
    · rw [yL_wL, if_neg (by omega), yL_wL, if_pos ⟨rfl, rfl⟩]
    · rw [yL_wL, if_pos ⟨rfl, rfl⟩]
    · rw [yL_wL, if_neg (by omega), yL_wL, if_neg (by omega)]
  | succ m ih =>
    intro k τ hk hp
    unfold lp_Mo_tell_168 kl_Mo_tell_168
    have c1 : ¬ nI d ≤ nI k := nI_ge (by omega) (by omega)
    have e1 : (nI (2682 + 29 * t) + 5) + nI k = nI (2682 + 29 * t + 5 + k) := by
      show (nI (2682 + 29 * t) + nI 5) + nI k = _
      rw [nI_add, nI_add]
    have hpk := hpl k (by omega)
    rw [if_neg c1, if_neg c1, e1, nI_clamp (show 2682 + 29 * t + 5 + k < 2 ^ 31 by omega), nI_clamp (show k < 2 ^ 31 by omega), hp k (by omega), nI_l (show path k < 2 ^ 31 by omega), nI_1]
    obtain ⟨τ', i1, i2, i3, i4, i5, i6, i7⟩ := ih (k + 1) (wL τ 0 (2682 + 29 * t + 5 + k) (lN (path k))) (by omega) hp
    refine ⟨τ', i1, fun z => ⟨vp_in_nI (show k < 24 by omega) (by decide), inL _ (by omega), i2 z⟩, fun τ0 hb => i3 τ0 (hb.l _ _), ?_, i5, fun i w1 w2 => ?_, fun i w1 w2 w3 => ?_⟩
    · rw [i4, yL_wL, if_neg (by omega)]
    · by_cases z : i = k
      · subst z; rw [i7 _ (by omega) (by omega) (by omega), yL_wL, if_pos ⟨rfl, rfl⟩]
      · exact i6 i (by omega) w2
    · rw [i7 i w1 w2 (by omega), yL_wL, if_neg (by omega)]
theorem op_tell {c : Nat} (hc : c + 1 ≤ 1000) {σ : SC} {τ : SM} (h : RL c σ τ) {wh : Nat} (hwh : wh < 2) (x y z : Int32) (v : Int64) : okX (c + 1) σ (m_ST_tell σ (nI wh) x y z v) (k_Mo_tell τ x y z (nI wh) v) (m_Mo_tell τ x y z (nI wh) v) := by
  obtain ⟨A, hA⟩ := h
  have hA : RLA c A σ τ := hA
  have hW := pgs_PW hA.1.2.2.1 hA.1.1.1.2.2.1
  unfold m_ST_tell m_Mo_tell k_Mo_tell m_ST_needVariant m_ST_needPart
  rcases va_cases hA.1 x with ⟨a1, a2, a3⟩ | ⟨vr, hvr, rfl, a1, a2, a3⟩
  · rw [a1, a2, if_pos bf, if_pos bf, if_pos bf]
    exact okX_no ⟨a3, trivial⟩ rfl ((hA.th 1).up hc).rl
  · rw [a1, a2, if_neg bt, if_neg bt, if_neg bt]
    obtain ⟨τ1, l1, l2, l3, l4, l5, l6⟩ := isPage_eq hA y
    rw [l1]
    rcases l6 with ⟨b1, b2⟩ | ⟨i, hi, rfl, b1, b2⟩
    · rw [b1, b2, if_pos bf, if_pos bf]
      exact okX_no ⟨a3, l2, trivial⟩ rfl ((l4.th 1).up hc).rl
    · rw [b1, b2, if_neg bt, if_neg bt]
      rcases qt_cases l4.1 z with ⟨d1, d2, d3⟩ | ⟨q, hq, rfl, d1, d2, d3⟩
      · rw [d1, d2, if_pos bf, if_pos bf, if_pos bf]
        exact okX_no ⟨a3, l2, d3, trivial⟩ rfl ((l4.th 1).up hc).rl
      · rw [d1, d2, if_neg bt, if_neg bt, if_neg bt]
        obtain ⟨s, pa, pb, d, hg⟩ := get4 hi
        obtain ⟨hd, -⟩ := hW.2 i s pa pb d hg
        obtain ⟨τp, p1, p2, p3, p4, p5, p6, p7⟩ := pathOf_eq (τ := wn τ1 0 0) hW l3 hg
        rw [p1]
        have hlt := pathf_lt hW d i s pa pb hg
        have hAp : RLA c A σ τp := (l4.th 0).tn (by rw [p5]) (by rw [p5]) (fun k _ _ => by rw [p6]) (fun _ => p4)
        have hp0 : yn τp 0 = 0 := by rw [p6]; rfl
        have hv10 := hA.1.1.2.2.2.1.2.2
        have hq30 := hA.1.1.2.2.1.2.2
        have hup := (hAp.up hc).rl
        obtain ⟨o, o1, o2, o3⟩ := findM_eq hAp.1 (vr := vr) (q := q) (wh := wh) (len := d) (by omega) (by omega) hwh hd (path := pathf (pgs (aP A) (aF A 3)) d i) (fun k hk => ⟨hlt k hk, p3 k hk⟩)
        obtain ⟨o', o1', o2'⟩ := findC_eq hAp.1 hA.2.2.1 hW (vr := vr) (q := q) (wh := wh) (by omega) (by omega) hwh hg
        have eo := Fst_eq o1' o1
        subst eo
        show okX (c + 1) σ (if bi (m_Variants_tell σ (nI wh) (nI vr) (nI i) (nI q) v).1 = 0 then some (false, (m_Variants_tell σ (nI wh) (nI vr) (nI i) (nI q) v).2) else some (true, m_Journal_keep (m_Variants_tell σ (nI wh) (nI vr) (nI i) (nI q) v).2)) _ _
        unfold m_Variants_tell m_Variants_content
        rw [subj_eq, o2', o2, cc4 hA.1]
        have e4 : m_Mo_count τp 4 = nI (aN A 4) := ct4 (τ := τp) hAp.1
        rw [e4]
        have h40 := hA.1.1.2.2.2.2.1.2.2
        obtain ⟨g1, g2, g3, g4⟩ := BG_begin' hp0
        cases o' with
        | none =>
          have en : oI id none = -1 := rfl
          have en2 : oI (fun t => 2682 + 29 * t) none = -1 := rfl
          simp only [en, en2, reduceIte]
          have k4 := count_k (τ := τp) (k := 4) (by decide)
          by_cases c40 : aN A 4 = 40
          · have w1 : ¬ nI (aN A 4) < 40 := by rw [c40]; decide
            have w2 : nI (aN A 4) = 40 := by rw [c40]; rfl
            simp only [if_neg w1, if_pos w2]
            rw [if_pos bf]
            exact okX_mk ⟨a3, l2, d3, p2, o3, k4, trivial⟩ hp0 rfl hup
          · have w1 : nI (aN A 4) < 40 := nI_lt (b := 40) (by omega) (by decide)
            have w2 : ¬ nI (aN A 4) = 40 := fun z => c40 ((nI_eq (b := 40) (by omega) (by decide)).mp z)
            simp only [if_pos w1, if_neg w2]
            have e4b : m_Mo_count (m_Mo_begin τp) 4 = nI (aN A 4) := ct4 (τ := m_Mo_begin τp) (σ := σ) (by rw [g2]; exact hAp.1)
            have k4b := count_k (τ := m_Mo_begin τp) (k := 4) (by decide)
            have a1' : ((2682 : Int32) + (29 * nI (aN A 4))) + 1 = nI (2682 + 29 * aN A 4 + 1) := t29 (k := 1) (by omega) (by decide)
            have a2' : ((2682 : Int32) + (29 * nI (aN A 4))) + 2 = nI (2682 + 29 * aN A 4 + 2) := t29 (k := 2) (by omega) (by decide)
            have a4' : ((2682 : Int32) + (29 * nI (aN A 4))) + 4 = nI (2682 + 29 * aN A 4 + 4) := t29 (k := 4) (by omega) (by decide)
            rw [if_neg bt, e4b, a1', a2', a4', t29', nI_clamp (show 2682 + 29 * aN A 4 < 2 ^ 31 by omega), nI_clamp (show 2682 + 29 * aN A 4 + 1 < 2 ^ 31 by omega), nI_clamp (show 2682 + 29 * aN A 4 + 2 < 2 ^ 31 by omega), nI_clamp (show 2682 + 29 * aN A 4 + 4 < 2 ^ 31 by omega), nI_l (show vr < 2 ^ 31 by omega), nI_l (show q < 2 ^ 31 by omega), nI_l (show wh < 2 ^ 31 by omega), nI_l (show d < 2 ^ 31 by omega), nI_clamp (show d < 2 ^ 31 by omega)]
            generalize m_Mo_begin τp = τb at g1 g2 g4 k4b ⊢
            obtain ⟨τ', m1, m2, m3, m4, m5, m6, m7⟩ := tellM_l (t := aN A 4) (d := d) (path := pathf (pgs (aP A) (aF A 3)) d i) (by omega) hd hlt (nI vr) (nI i) (nI q) (nI wh) v d 0 (wL (wL (wL (wL τb 0 (2682 + 29 * aN A 4) (lN vr)) 0 (2682 + 29 * aN A 4 + 1) (lN q)) 0 (2682 + 29 * aN A 4 + 2) (lN wh)) 0 (2682 + 29 * aN A 4 + 4) (lN d)) (by omega) (fun k hk => by rw [yI_wL, yI_wL, yI_wL, yI_wL, g4]; exact p3 k hk)
            rw [nI_0] at m1 m2
            rw [m1]
            have bg := m3 τp ((((g1.l _ _).l _ _).l _ _).l _ _)
            have rd : ∀ i, yL (wL (wL (wL (wL τb 0 (2682 + 29 * aN A 4) (lN vr)) 0 (2682 + 29 * aN A 4 + 1) (lN q)) 0 (2682 + 29 * aN A 4 + 2) (lN wh)) 0 (2682 + 29 * aN A 4 + 4) (lN d)) 0 i = if i = 2682 + 29 * aN A 4 + 4 then lN d else if i = 2682 + 29 * aN A 4 + 2 then lN wh else if i = 2682 + 29 * aN A 4 + 1 then lN q else if i = 2682 + 29 * aN A 4 then lN vr else yL τp 0 i := fun i => by
              rw [yL_wL, yL_wL, yL_wL, yL_wL, g2]; simp
            obtain ⟨σ', c1, c2, c3, c4, c5, c6, c7, c8, c9, c10, c11⟩ := addTelling_C hW hA.2.2.1 (t := aN A 4) (sb := (wh * 10 + vr) * 30 + q) (by omega) (by omega) hA.1.1.2.2.2.2.1.1 hg
            rw [c1]
            have eL : xL (m_Row_set σ' 15 (nI (aN A 4)) v) = sL (xL σ') 15 (aN A 4) v := rs_xL (show aN A 4 < 40 by omega)
            have hsk := c2.tr (rs_sk σ' 15 (nI (aN A 4)) v)
            show okX (c + 1) σ (some (true, m_Journal_keep (m_Row_set σ' 15 (nI (aN A 4)) v))) _ _
            generalize m_Row_set σ' 15 (nI (aN A 4)) v = Y at eL hsk ⊢
            obtain ⟨k1, k2, k3, k5⟩ := kept_op hc (A' := (va_up (aN A) 4 (aN A 4 + 1), A.2)) hAp.1 hAp.2.1 hAp.2.2.1 hAp.2.2.2.2.1 hAp.2.2.2.2.2 hsk bg (by
              obtain ⟨h0, h1, h2, h3, h4, h5, h6, h7⟩ := hAp.1.up hc
              have t4 : yL τ' 0 4 = lN (aN A 4 + 1) := by rw [m4, rd, if_neg (by omega), if_neg (by omega), if_neg (by omega), if_neg (by omega), h0.2.2.2.2.1.2.1, lN_1]
              have n0 : yL τ' 0 (2682 + 29 * aN A 4) = lN vr := by rw [m7 _ (by omega) (by omega) (by omega), rd, if_neg (by omega), if_neg (by omega), if_neg (by omega), if_pos rfl]
              have n1 : yL τ' 0 (2682 + 29 * aN A 4 + 1) = lN q := by rw [m7 _ (by omega) (by omega) (by omega), rd, if_neg (by omega), if_neg (by omega), if_pos rfl]
              have n2 : yL τ' 0 (2682 + 29 * aN A 4 + 2) = lN wh := by rw [m7 _ (by omega) (by omega) (by omega), rd, if_neg (by omega), if_pos rfl]
              have n4 : yL τ' 0 (2682 + 29 * aN A 4 + 4) = lN d := by rw [m7 _ (by omega) (by omega) (by omega), rd, if_pos rfl]
              have hN0 : ∀ j, j ≠ 4 → ¬ (2682 + 29 * aN A 4 ≤ j ∧ j < 2682 + 29 * aN A 4 + 29) → yL τ' 0 j = yL τp 0 j := fun j w1 w2 => by rw [m7 j w1 (by omega) (by omega), rd, if_neg (by omega), if_neg (by omega), if_neg (by omega), if_neg (by omega)]
              have r15 : xL Y 15 (aN A 4) = v := by rw [eL, sL_same]
              have r15' : ∀ j, j ≠ aN A 4 → xL Y 15 j = xL σ 15 j := fun j hj => by rw [eL, sL_cell hj, c3 15 (by decide) (by decide) (by decide) (by decide)]
              have ry : ∀ k, k ≠ 15 → xL Y k = xL σ' k := fun k hk => by rw [eL, sL_row hk]
              generalize yL τ' 0 = N' at m5 m6 t4 n0 n1 n2 n4 hN0 ⊢
              have hr : ∀ j, j ≠ 12 → j ≠ 14 → j ≠ 15 → j ≠ 16 → j ≠ 17 → xL Y j = xL σ j := fun j w1 w2 w3 w4 w5 => by rw [ry j w3, c3 j w1 w2 w4 w5]
              rw [← ry 12 (by decide)] at c4 c5
              rw [← ry 14 (by decide)] at c6 c7
              rw [← ry 16 (by decide)] at c8 c9
              rw [← ry 17 (by decide)] at c10 c11
              generalize xL Y = L' at hr r15 r15' c4 c5 c6 c7 c8 c9 c10 c11 ⊢
              have hN : ∀ j, j ≠ 4 → j < 2682 → N' j = yL τp 0 j := fun j w1 w2 => hN0 j w1 (by omega)
              have q0 : R0 (va_up (aN A) 4 (aN A 4 + 1)) (c + 1) L' N' := by
                unfold R0
                rw [hr 0 (by decide) (by decide) (by decide) (by decide) (by decide), hr 6 (by decide) (by decide) (by decide) (by decide) (by decide), hr 18 (by decide) (by decide) (by decide) (by decide) (by decide), c4, c5, hN 0 (by omega) (by omega), hN 1 (by omega) (by omega), hN 2 (by omega) (by omega), hN 3 (by omega) (by omega), t4, hN 5 (by omega) (by omega), hN 6 (by omega) (by omega)]
                exact ⟨h0.1, h0.2.1, h0.2.2.1, h0.2.2.2.1, ⟨rfl, rfl, show aN A 4 + 1 ≤ 40 by omega⟩, h0.2.2.2.2.2⟩
              have q6 : R6 (aN A 4 + 1) (L' 14) (L' 15) (L' 16) (L' 17) N' := by
                intro t ht
                by_cases e : t = aN A 4
                · subst e
                  exact ⟨vr, q, wh, d, by omega, by omega, hwh, hd, n0, n1, n2, n4, c6, by rw [r15, m5], c8, fun k hk => ⟨_, hlt k hk, c10 k hk, m6 k (Nat.zero_le _) hk⟩⟩
                · obtain ⟨vr', qq', wh', len', x1, x2, x3, x4, x5, x6, x7, x8, x9, x10, x11, x12⟩ := h6 t (by omega)
                  refine ⟨vr', qq', wh', len', x1, x2, x3, x4, ?_, ?_, ?_, ?_, ?_, ?_, ?_, fun k hk => ?_⟩
                  · rw [hN0 _ (by omega) (by omega)]; exact x5
                  · rw [hN0 _ (by omega) (by omega)]; exact x6
                  · rw [hN0 _ (by omega) (by omega)]; exact x7
                  · rw [hN0 _ (by omega) (by omega)]; exact x8
                  · rw [c7 t e]; exact x9
                  · rw [r15' t e, hN0 _ (by omega) (by omega)]; exact x10
                  · rw [c9 t e]; exact x11
                  · rw [c11 _ (by omega), hN0 _ (by omega) (by omega)]; exact x12 k hk
              exact ⟨q0, (by show R1 (aN A 0) (L' 1) N'; rw [hr 1 (by decide) (by decide) (by decide) (by decide) (by decide)]; exact h1.cg h0.1.2.2.2 fun i _ _ => hN i (by omega) (by omega)), (by show R2 (aN A 0) (aN A 1) (aN A 6) _ _ _ _ _ _ (L' 2) (L' 3) (L' 4) N'; rw [hr 2 (by decide) (by decide) (by decide) (by decide) (by decide), hr 3 (by decide) (by decide) (by decide) (by decide) (by decide), hr 4 (by decide) (by decide) (by decide) (by decide) (by decide)]; exact h2.cg fun i _ _ => hN i (by omega) (by omega)), (by show R3 (aN A 1) _ (L' 5) N'; rw [hr 5 (by decide) (by decide) (by decide) (by decide) (by decide)]; exact h3.cg fun i _ _ => hN i (by omega) (by omega)), (by show R4 (aN A 0) (aN A 2) (aN A 6) _ _ _ _ _ (L' 7) (L' 8) (L' 9) (L' 10) (L' 11) N'; rw [hr 7 (by decide) (by decide) (by decide) (by decide) (by decide), hr 8 (by decide) (by decide) (by decide) (by decide) (by decide), hr 9 (by decide) (by decide) (by decide) (by decide) (by decide), hr 10 (by decide) (by decide) (by decide) (by decide) (by decide), hr 11 (by decide) (by decide) (by decide) (by decide) (by decide)]; exact h4.cg fun i _ _ => hN i (by omega) (by omega)), (by show R5 (aN A 3) (L' 13) N'; rw [hr 13 (by decide) (by decide) (by decide) (by decide) (by decide)]; exact h5.cg h0.2.2.2.1.2.2 fun i _ _ => hN i (by omega) (by omega)), q6, h7⟩) rfl
            exact okX_mk ⟨a3, l2, d3, p2, o3, k4, g3, k4b, inL _ (by omega), inL _ (by omega), inL _ (by omega), inL _ (by omega), m2 k1⟩ k3 rfl k2 k5
        | some t =>
          have ht : t < aN A 4 := o1.1
          have en : oI id (some t) = nI t := rfl
          have en2 : oI (fun t => 2682 + 29 * t) (some t) = nI (2682 + 29 * t) := rfl
          have n1 : ¬ nI t = -1 := nI_m1 (by omega)
          have n2 : ¬ nI (2682 + 29 * t) = -1 := nI_m1 (by omega)
          have e3 : nI (2682 + 29 * t) + 3 = nI (2682 + 29 * t + 3) := by
            show nI (2682 + 29 * t) + nI 3 = _
            rw [nI_add]
          rw [en, en2]
          simp only [if_neg n1, if_neg n2]
          rw [la_in (k := 15) (show t < 40 by omega), e3, nI_clamp (by omega)]
          have x15 : xL σ 15 t = yL τp 0 (2682 + 29 * t + 3) := by
            obtain ⟨vr', qq', wh', len', -, -, -, -, -, -, -, -, -, x10, -, -⟩ := hAp.1.2.2.2.2.2.2.1 t ht
            exact x10
          have vin3 : vp_in (nI (2682 + 29 * t + 3)) (lnML 0) := inL _ (by omega)
          rw [x15]
          by_cases cv : yL τp 0 (2682 + 29 * t + 3) = v
          · have cv2 := cmp0.mpr cv
            simp only [if_pos cv2]
            rw [if_pos bf]
            exact okX_mk ⟨a3, l2, d3, p2, o3, vin3, trivial⟩ hp0 rfl hup
          · have cv2 : ¬ lg_cmp (yL τp 0 (2682 + 29 * t + 3)) v = 0 := fun w => cv (cmp0.mp w)
            simp only [if_neg cv2]
            rw [if_neg bt]
            have bg := g1.l (2682 + 29 * t + 3) v
            generalize m_Mo_begin τp = τb at g1 g2 g4 bg ⊢
            have eN : yL (wL τb 0 (2682 + 29 * t + 3) v) 0 = vp_updL (yL τp 0) (2682 + 29 * t + 3) v := by rw [yL_wL0, g2]
            have eL : xL (m_Row_set σ 15 (nI t) v) = sL (xL σ) 15 t v := rs_xL (show t < 40 by omega)
            have hsk := rs_sk σ 15 (nI t) v
            generalize m_Row_set σ 15 (nI t) v = Y at eL hsk ⊢
            obtain ⟨k1, k2, k3, k5⟩ := kept_op hc (A' := A) hAp.1 hAp.2.1 hAp.2.2.1 hAp.2.2.2.2.1 hAp.2.2.2.2.2 hsk bg (by
              rw [eN, eL]
              obtain ⟨h0, h1, h2, h3, h4, h5, h6, h7⟩ := hAp.1.up hc
              have hr : ∀ j, j ≠ 15 → sL (xL σ) 15 t v j = xL σ j := fun j hj => sL_row hj
              have r15 : sL (xL σ) 15 t v 15 t = v := sL_same _ _ _ _
              have r15' : ∀ j, j ≠ t → sL (xL σ) 15 t v 15 j = xL σ 15 j := fun j hj => sL_cell hj
              have hN0 : ∀ j, j ≠ 2682 + 29 * t + 3 → vp_updL (yL τp 0) (2682 + 29 * t + 3) v j = yL τp 0 j := fun j hj => vu hj
              have n3 : vp_updL (yL τp 0) (2682 + 29 * t + 3) v (2682 + 29 * t + 3) = v := pk_uLs
              generalize sL (xL σ) 15 t v = L' at hr r15 r15' ⊢
              generalize vp_updL (yL τp 0) (2682 + 29 * t + 3) v = N' at hN0 n3 ⊢
              have hN : ∀ j, j < 2682 → N' j = yL τp 0 j := fun j w => hN0 j (by omega)
              have q6 : R6 (aN A 4) (L' 14) (L' 15) (L' 16) (L' 17) N' := by
                intro t' ht'
                obtain ⟨vr', qq', wh', len', x1, x2, x3, x4, x5, x6, x7, x8, x9, x10, x11, x12⟩ := h6 t' ht'
                rw [hr 14 (by decide), hr 16 (by decide), hr 17 (by decide)]
                refine ⟨vr', qq', wh', len', x1, x2, x3, x4, ?_, ?_, ?_, ?_, x9, ?_, x11, fun k hk => ?_⟩
                · rw [hN0 _ (by omega)]; exact x5
                · rw [hN0 _ (by omega)]; exact x6
                · rw [hN0 _ (by omega)]; exact x7
                · rw [hN0 _ (by omega)]; exact x8
                · by_cases e : t' = t
                  · subst e; rw [r15, n3]
                  · rw [r15' t' e, hN0 _ (by omega)]; exact x10
                · rw [hN0 _ (by omega)]; exact x12 k hk
              exact ⟨(by unfold R0; rw [hr 0 (by decide), hr 6 (by decide), hr 12 (by decide), hr 18 (by decide)]; exact h0.cg fun i _ => hN i (by omega)), (by show R1 (aN A 0) (L' 1) N'; rw [hr 1 (by decide)]; exact h1.cg h0.1.2.2.2 fun i _ _ => hN i (by omega)), (by show R2 (aN A 0) (aN A 1) (aN A 6) _ _ _ _ _ _ (L' 2) (L' 3) (L' 4) N'; rw [hr 2 (by decide), hr 3 (by decide), hr 4 (by decide)]; exact h2.cg fun i _ _ => hN i (by omega)), (by show R3 (aN A 1) _ (L' 5) N'; rw [hr 5 (by decide)]; exact h3.cg fun i _ _ => hN i (by omega)), (by show R4 (aN A 0) (aN A 2) (aN A 6) _ _ _ _ _ (L' 7) (L' 8) (L' 9) (L' 10) (L' 11) N'; rw [hr 7 (by decide), hr 8 (by decide), hr 9 (by decide), hr 10 (by decide), hr 11 (by decide)]; exact h4.cg fun i _ _ => hN i (by omega)), (by show R5 (aN A 3) (L' 13) N'; rw [hr 13 (by decide)]; exact h5.cg h0.2.2.2.1.2.2 fun i _ _ => hN i (by omega)), q6, h7⟩) rfl
            exact okX_mk ⟨a3, l2, d3, p2, o3, vin3, g3, vin3, k1, trivial⟩ k3 rfl k2 k5
theorem op_value {c : Nat} (hc : c + 1 ≤ 1000) {σ : SC} {τ : SM} (h : RL c σ τ) (x y z : Int32) (v : Int64) : okX (c + 1) σ (m_ST_value σ x y z v) (k_Mo_value τ x y z v) (m_Mo_value τ x y z v) := by
  obtain ⟨h1, h2⟩ := op_tell hc h (wh := 0) (by decide) x y z v
  unfold m_ST_value m_Mo_value k_Mo_value
  have e0 : (0 : Int32) = nI 0 := by decide
  rw [e0]
  generalize m_ST_tell σ (nI 0) x y z v = R at h2 ⊢
  refine ⟨⟨h1, trivial⟩, ?_⟩
  rcases h2 with ⟨rfl, w⟩ | ⟨b, σ', rfl, w⟩
  · exact Or.inl ⟨rfl, w⟩
  · exact Or.inr ⟨b, σ', rfl, w⟩
theorem op_fit {c : Nat} (hc : c + 1 ≤ 1000) {σ : SC} {τ : SM} (h : RL c σ τ) (x y z : Int32) (b : Bool) : okX (c + 1) σ (m_ST_fit σ x y z b) (k_Mo_fit τ x y z b) (m_Mo_fit τ x y z b) := by
  unfold m_ST_fit m_Mo_fit k_Mo_fit
  have e1 : (1 : Int32) = nI 1 := by decide
  cases b with
  | false =>
    rw [if_pos bf, if_pos bf, if_pos bf, e1]
    obtain ⟨h1, h2⟩ := op_tell hc h (wh := 1) (by decide) x y z 0
    generalize m_ST_tell σ (nI 1) x y z 0 = R at h2 ⊢
    refine ⟨⟨h1, trivial⟩, ?_⟩
    rcases h2 with ⟨rfl, w⟩ | ⟨b, σ', rfl, w⟩
    · exact Or.inl ⟨rfl, w⟩
    · exact Or.inr ⟨b, σ', rfl, w⟩
  | true =>
    rw [if_neg bt, if_neg bt, if_neg bt, e1]
    obtain ⟨h1, h2⟩ := op_tell hc h (wh := 1) (by decide) x y z 1
    generalize m_ST_tell σ (nI 1) x y z 1 = R at h2 ⊢
    refine ⟨⟨h1, trivial⟩, ?_⟩
    rcases h2 with ⟨rfl, w⟩ | ⟨b, σ', rfl, w⟩
    · exact Or.inl ⟨rfl, w⟩
    · exact Or.inr ⟨b, σ', rfl, w⟩
